theorem dX7_hours_58 : decode cX7_hours 58 = .ok (.iinc 2 1, 3) := by decide +kernel
theorem dX7_hours_61 : decode cX7_hours 61 = .ok (.goto (-19), 3) := by decide +kernel
theorem dX7_hours_64 : decode cX7_hours 64 = .ok (.aload_n 0, 1) := by decide +kernel
theorem dX7_hours_65 : decode cX7_hours 65 = .ok (.getfield 25, 3) := by decide +kernel
theorem dX7_hours_68 : decode cX7_hours 68 = .ok (.iconst 0, 1) := by decide +kernel
theorem dX7_hours_69 : decode cX7_hours 69 = .ok (.iaload, 1) := by decide +kernel
theorem dX7_hours_70 : decode cX7_hours 70 = .ok (.ireturn, 1) := by decide +kernel
set_option maxRecDepth 20000 in
theorem ggX7_confess_X7_isSoul : GoodIn wsX7_confess wsX7_isSoul := goodIn_r _ [7, 2, 8, 9, 6, 10, 35, 36, 37, 38, 39, 40, 41, 42, 43, 44, 45, 46, 47, 48, 49, 50, 51, 52, 53, 54, 55, 56, 57, 58, 59, 60, 61, 62] (by decide +kernel) (by decide +kernel)
set_option maxRecDepth 20000 in
theorem gX7_confess_X7_isSoul : GoodIn wsX7_confess (wsV RX7 177 RX7 yX7_isSoul wsX7_isSoul) := goodIn_app (goodIn_of _ (by decide +kernel)) ggX7_confess_X7_isSoul
set_option maxRecDepth 20000 in
theorem ggX7_confess_X7_notes : GoodIn wsX7_confess wsX7_notes := goodIn_r _ [14, 15, 16, 2, 17, 18, 6, 19, 35, 36, 37, 38, 39, 40, 41, 42, 43, 44, 45, 46, 47, 48, 49, 50, 51, 52, 53, 54, 55, 56, 57, 58, 59, 60, 61, 62] (by decide +kernel) (by decide +kernel)
set_option maxRecDepth 20000 in
theorem gX7_confess_X7_notes : GoodIn wsX7_confess (wsV RX7 170 RX7 yX7_notes wsX7_notes) := goodIn_app (goodIn_of _ (by decide +kernel)) ggX7_confess_X7_notes
set_option maxRecDepth 20000 in
theorem ggX7_confess_X7_confesses : GoodIn wsX7_confess wsX7_confesses := goodIn_r _ [22, 23, 24, 6, 25, 26, 27, 28, 29, 30, 31, 32, 33, 34] (by decide +kernel) (by decide +kernel)
set_option maxRecDepth 20000 in
theorem gX7_confess_X7_confesses : GoodIn wsX7_confess (va_wsS RX7 180 yX7_confesses wsX7_confesses) := goodIn_app (goodIn_of _ (by decide +kernel)) ggX7_confess_X7_confesses
theorem dX7_confess_0 : decode cX7_confess 0 = .ok (.aload_n 0, 1) := by decide +kernel
theorem dX7_confess_1 : decode cX7_confess 1 = .ok (.iload_n 1, 1) := by decide +kernel
theorem dX7_confess_2 : decode cX7_confess 2 = .ok (.invokevirtual 177, 3) := by decide +kernel
theorem dX7_confess_5 : decode cX7_confess 5 = .ok (.ifCond .ne 6, 3) := by decide +kernel
theorem dX7_confess_8 : decode cX7_confess 8 = .ok (.ldc 73, 2) := by decide +kernel
theorem dX7_confess_10 : decode cX7_confess 10 = .ok (.ireturn, 1) := by decide +kernel
theorem dX7_confess_11 : decode cX7_confess 11 = .ok (.aload_n 0, 1) := by decide +kernel
theorem dX7_confess_12 : decode cX7_confess 12 = .ok (.invokevirtual 170, 3) := by decide +kernel
theorem dX7_confess_15 : decode cX7_confess 15 = .ok (.aload_n 0, 1) := by decide +kernel
theorem dX7_confess_16 : decode cX7_confess 16 = .ok (.getfield 25, 3) := by decide +kernel
theorem dX7_confess_19 : decode cX7_confess 19 = .ok (.iload_n 1, 1) := by decide +kernel
theorem dX7_confess_20 : decode cX7_confess 20 = .ok (.invokestatic 180, 3) := by decide +kernel
theorem dX7_confess_23 : decode cX7_confess 23 = .ok (.aload_n 0, 1) := by decide +kernel
theorem dX7_confess_24 : decode cX7_confess 24 = .ok (.getfield 25, 3) := by decide +kernel
theorem dX7_confess_27 : decode cX7_confess 27 = .ok (.iconst 0, 1) := by decide +kernel
theorem dX7_confess_28 : decode cX7_confess 28 = .ok (.iaload, 1) := by decide +kernel
theorem dX7_confess_29 : decode cX7_confess 29 = .ok (.ireturn, 1) := by decide +kernel
set_option maxRecDepth 20000 in
theorem ggX7_mend_X7_isSoul : GoodIn wsX7_mend wsX7_isSoul := goodIn_r _ [7, 2, 8, 9, 6, 10, 23, 24, 25, 26, 27, 28, 29, 30, 31, 32, 33, 34, 35, 36, 37, 38, 39, 40, 41, 42, 43, 44, 45, 46, 47, 48, 49, 50] (by decide +kernel) (by decide +kernel)
set_option maxRecDepth 20000 in
theorem gX7_mend_X7_isSoul : GoodIn wsX7_mend (wsV RX7 177 RX7 yX7_isSoul wsX7_isSoul) := goodIn_app (goodIn_of _ (by decide +kernel)) ggX7_mend_X7_isSoul
set_option maxRecDepth 20000 in
theorem ggX7_mend_X7_in : GoodIn wsX7_mend wsX7_in := goodIn_r _ [10] (by decide +kernel) (by decide +kernel)
set_option maxRecDepth 20000 in
theorem gX7_mend_X7_in : GoodIn wsX7_mend (va_wsS RX7 65 yX7_in wsX7_in) := goodIn_app (goodIn_of _ (by decide +kernel)) ggX7_mend_X7_in
set_option maxRecDepth 20000 in
theorem ggX7_mend_X7_notes : GoodIn wsX7_mend wsX7_notes := goodIn_r _ [14, 15, 16, 2, 17, 18, 6, 19, 23, 24, 25, 26, 27, 28, 29, 30, 31, 32, 33, 34, 35, 36, 37, 38, 39, 40, 41, 42, 43, 44, 45, 46, 47, 48, 49, 50] (by decide +kernel) (by decide +kernel)
set_option maxRecDepth 20000 in
theorem gX7_mend_X7_notes : GoodIn wsX7_mend (wsV RX7 170 RX7 yX7_notes wsX7_notes) := goodIn_app (goodIn_of _ (by decide +kernel)) ggX7_mend_X7_notes
set_option maxRecDepth 20000 in
theorem ggX7_mend_X7_lesser : GoodIn wsX7_mend wsX7_lesser := goodIn_r _ [22] (by decide +kernel) (by decide +kernel)
set_option maxRecDepth 20000 in
theorem gX7_mend_X7_lesser : GoodIn wsX7_mend (va_wsS RX7 151 yX7_lesser wsX7_lesser) := goodIn_app (goodIn_of _ (by decide +kernel)) ggX7_mend_X7_lesser
theorem dX7_mend_0 : decode cX7_mend 0 = .ok (.aload_n 0, 1) := by decide +kernel
theorem dX7_mend_1 : decode cX7_mend 1 = .ok (.iload_n 1, 1) := by decide +kernel
theorem dX7_mend_2 : decode cX7_mend 2 = .ok (.invokevirtual 177, 3) := by decide +kernel
theorem dX7_mend_5 : decode cX7_mend 5 = .ok (.ifCond .eq 13, 3) := by decide +kernel
theorem dX7_mend_8 : decode cX7_mend 8 = .ok (.iload_n 2, 1) := by decide +kernel
theorem dX7_mend_9 : decode cX7_mend 9 = .ok (.iconst 1, 1) := by decide +kernel
theorem dX7_mend_10 : decode cX7_mend 10 = .ok (.bipush 30, 2) := by decide +kernel
theorem dX7_mend_12 : decode cX7_mend 12 = .ok (.invokestatic 65, 3) := by decide +kernel
theorem dX7_mend_15 : decode cX7_mend 15 = .ok (.ifCond .ne 6, 3) := by decide +kernel
theorem dX7_mend_18 : decode cX7_mend 18 = .ok (.ldc 73, 2) := by decide +kernel
theorem dX7_mend_20 : decode cX7_mend 20 = .ok (.ireturn, 1) := by decide +kernel
theorem dX7_mend_21 : decode cX7_mend 21 = .ok (.aload_n 0, 1) := by decide +kernel
theorem dX7_mend_22 : decode cX7_mend 22 = .ok (.invokevirtual 170, 3) := by decide +kernel
theorem dX7_mend_25 : decode cX7_mend 25 = .ok (.bipush 7, 2) := by decide +kernel
theorem dX7_mend_27 : decode cX7_mend 27 = .ok (.iconst 3, 1) := by decide +kernel
theorem dX7_mend_28 : decode cX7_mend 28 = .ok (.iload_n 1, 1) := by decide +kernel
theorem dX7_mend_29 : decode cX7_mend 29 = .ok (.imul, 1) := by decide +kernel
theorem dX7_mend_30 : decode cX7_mend 30 = .ok (.iadd, 1) := by decide +kernel
theorem dX7_mend_31 : decode cX7_mend 31 = .ok (.iconst 2, 1) := by decide +kernel
theorem dX7_mend_32 : decode cX7_mend 32 = .ok (.iadd, 1) := by decide +kernel
theorem dX7_mend_33 : decode cX7_mend 33 = .ok (.istore_n 3, 1) := by decide +kernel
theorem dX7_mend_34 : decode cX7_mend 34 = .ok (.aload_n 0, 1) := by decide +kernel
theorem dX7_mend_35 : decode cX7_mend 35 = .ok (.getfield 25, 3) := by decide +kernel
theorem dX7_mend_38 : decode cX7_mend 38 = .ok (.iload_n 3, 1) := by decide +kernel
theorem dX7_mend_39 : decode cX7_mend 39 = .ok (.bipush 30, 2) := by decide +kernel
theorem dX7_mend_41 : decode cX7_mend 41 = .ok (.aload_n 0, 1) := by decide +kernel
theorem dX7_mend_42 : decode cX7_mend 42 = .ok (.getfield 25, 3) := by decide +kernel
theorem dX7_mend_45 : decode cX7_mend 45 = .ok (.iload_n 3, 1) := by decide +kernel
theorem dX7_mend_46 : decode cX7_mend 46 = .ok (.iaload, 1) := by decide +kernel
theorem dX7_mend_47 : decode cX7_mend 47 = .ok (.iload_n 2, 1) := by decide +kernel
theorem dX7_mend_48 : decode cX7_mend 48 = .ok (.iadd, 1) := by decide +kernel
theorem dX7_mend_49 : decode cX7_mend 49 = .ok (.invokestatic 151, 3) := by decide +kernel
theorem dX7_mend_52 : decode cX7_mend 52 = .ok (.iastore, 1) := by decide +kernel
theorem dX7_mend_53 : decode cX7_mend 53 = .ok (.aload_n 0, 1) := by decide +kernel
theorem dX7_mend_54 : decode cX7_mend 54 = .ok (.getfield 25, 3) := by decide +kernel
theorem dX7_mend_57 : decode cX7_mend 57 = .ok (.iload_n 3, 1) := by decide +kernel
theorem dX7_mend_58 : decode cX7_mend 58 = .ok (.iaload, 1) := by decide +kernel
theorem dX7_mend_59 : decode cX7_mend 59 = .ok (.ireturn, 1) := by decide +kernel
set_option maxRecDepth 20000 in
theorem ggX7_raise_X7_isCoast : GoodIn wsX7_raise wsX7_isCoast := goodIn_r _ [8, 3, 25, 26, 27, 28, 29, 30, 31, 32, 33, 34, 35, 36, 37, 38, 39, 40, 41, 42, 43, 44, 45, 46, 47, 48, 49, 50, 51, 52] (by decide +kernel) (by decide +kernel)
set_option maxRecDepth 20000 in
theorem gX7_raise_X7_isCoast : GoodIn wsX7_raise (wsV RX7 166 RX7 yX7_isCoast wsX7_isCoast) := goodIn_app (goodIn_of _ (by decide +kernel)) ggX7_raise_X7_isCoast
set_option maxRecDepth 20000 in
theorem ggX7_raise_X7_in : GoodIn wsX7_raise wsX7_in := goodIn_r _ [11] (by decide +kernel) (by decide +kernel)
set_option maxRecDepth 20000 in
theorem gX7_raise_X7_in : GoodIn wsX7_raise (va_wsS RX7 65 yX7_in wsX7_in) := goodIn_app (goodIn_of _ (by decide +kernel)) ggX7_raise_X7_in
set_option maxRecDepth 20000 in
theorem ggX7_raise_X7_isSoul : GoodIn wsX7_raise wsX7_isSoul := goodIn_r _ [15, 3, 9, 10, 7, 11, 25, 26, 27, 28, 29, 30, 31, 32, 33, 34, 35, 36, 37, 38, 39, 40, 41, 42, 43, 44, 45, 46, 47, 48, 49, 50, 51, 52] (by decide +kernel) (by decide +kernel)
set_option maxRecDepth 20000 in
theorem gX7_raise_X7_isSoul : GoodIn wsX7_raise (wsV RX7 177 RX7 yX7_isSoul wsX7_isSoul) := goodIn_app (goodIn_of _ (by decide +kernel)) ggX7_raise_X7_isSoul
set_option maxRecDepth 20000 in
theorem ggX7_raise_X7_notes : GoodIn wsX7_raise wsX7_notes := goodIn_r _ [19, 20, 21, 3, 22, 23, 7, 24, 25, 26, 27, 28, 29, 30, 31, 32, 33, 34, 35, 36, 37, 38, 39, 40, 41, 42, 43, 44, 45, 46, 47, 48, 49, 50, 51, 52] (by decide +kernel) (by decide +kernel)
set_option maxRecDepth 20000 in
theorem gX7_raise_X7_notes : GoodIn wsX7_raise (wsV RX7 170 RX7 yX7_notes wsX7_notes) := goodIn_app (goodIn_of _ (by decide +kernel)) ggX7_raise_X7_notes
theorem dX7_raise_0 : decode cX7_raise 0 = .ok (.aload_n 0, 1) := by decide +kernel
theorem dX7_raise_1 : decode cX7_raise 1 = .ok (.invokevirtual 166, 3) := by decide +kernel
theorem dX7_raise_4 : decode cX7_raise 4 = .ok (.ifCond .ne 6, 3) := by decide +kernel
theorem dX7_raise_7 : decode cX7_raise 7 = .ok (.ldc 169, 2) := by decide +kernel
theorem dX7_raise_9 : decode cX7_raise 9 = .ok (.ireturn, 1) := by decide +kernel
theorem dX7_raise_10 : decode cX7_raise 10 = .ok (.iload_n 1, 1) := by decide +kernel
theorem dX7_raise_11 : decode cX7_raise 11 = .ok (.iconst 0, 1) := by decide +kernel
theorem dX7_raise_12 : decode cX7_raise 12 = .ok (.bipush 60, 2) := by decide +kernel
theorem dX7_raise_14 : decode cX7_raise 14 = .ok (.invokestatic 65, 3) := by decide +kernel
theorem dX7_raise_17 : decode cX7_raise 17 = .ok (.ifCond .eq 11, 3) := by decide +kernel
theorem dX7_raise_20 : decode cX7_raise 20 = .ok (.aload_n 0, 1) := by decide +kernel
theorem dX7_raise_21 : decode cX7_raise 21 = .ok (.iload_n 2, 1) := by decide +kernel
theorem dX7_raise_22 : decode cX7_raise 22 = .ok (.invokevirtual 177, 3) := by decide +kernel
theorem dX7_raise_25 : decode cX7_raise 25 = .ok (.ifCond .ne 6, 3) := by decide +kernel
theorem dX7_raise_28 : decode cX7_raise 28 = .ok (.ldc 73, 2) := by decide +kernel
theorem dX7_raise_30 : decode cX7_raise 30 = .ok (.ireturn, 1) := by decide +kernel
theorem dX7_raise_31 : decode cX7_raise 31 = .ok (.aload_n 0, 1) := by decide +kernel
theorem dX7_raise_32 : decode cX7_raise 32 = .ok (.invokevirtual 170, 3) := by decide +kernel
theorem dX7_raise_35 : decode cX7_raise 35 = .ok (.aload_n 0, 1) := by decide +kernel
theorem dX7_raise_36 : decode cX7_raise 36 = .ok (.getfield 25, 3) := by decide +kernel
theorem dX7_raise_39 : decode cX7_raise 39 = .ok (.iconst 0, 1) := by decide +kernel
theorem dX7_raise_40 : decode cX7_raise 40 = .ok (.iaload, 1) := by decide +kernel
theorem dX7_raise_41 : decode cX7_raise 41 = .ok (.istore_n 3, 1) := by decide +kernel
theorem dX7_raise_42 : decode cX7_raise 42 = .ok (.aload_n 0, 1) := by decide +kernel
theorem dX7_raise_43 : decode cX7_raise 43 = .ok (.getfield 25, 3) := by decide +kernel
theorem dX7_raise_46 : decode cX7_raise 46 = .ok (.iconst 0, 1) := by decide +kernel
theorem dX7_raise_47 : decode cX7_raise 47 = .ok (.iload_n 1, 1) := by decide +kernel
theorem dX7_raise_48 : decode cX7_raise 48 = .ok (.iastore, 1) := by decide +kernel
theorem dX7_raise_49 : decode cX7_raise 49 = .ok (.aload_n 0, 1) := by decide +kernel
theorem dX7_raise_50 : decode cX7_raise 50 = .ok (.getfield 25, 3) := by decide +kernel
theorem dX7_raise_53 : decode cX7_raise 53 = .ok (.iconst 4, 1) := by decide +kernel
theorem dX7_raise_54 : decode cX7_raise 54 = .ok (.iload_n 2, 1) := by decide +kernel
theorem dX7_raise_55 : decode cX7_raise 55 = .ok (.iastore, 1) := by decide +kernel
theorem dX7_raise_56 : decode cX7_raise 56 = .ok (.iload_n 3, 1) := by decide +kernel
theorem dX7_raise_57 : decode cX7_raise 57 = .ok (.ireturn, 1) := by decide +kernel
set_option maxRecDepth 20000 in
theorem ggX7_veer_X7_isCoast : GoodIn wsX7_veer wsX7_isCoast := goodIn_r _ [7, 2, 17, 18, 19, 20, 21, 22, 23, 24, 25, 26, 27, 28, 29, 30, 31, 32, 33, 34, 35, 36, 37, 38, 39, 40, 41, 42, 43, 44] (by decide +kernel) (by decide +kernel)
set_option maxRecDepth 20000 in
theorem gX7_veer_X7_isCoast : GoodIn wsX7_veer (wsV RX7 166 RX7 yX7_isCoast wsX7_isCoast) := goodIn_app (goodIn_of _ (by decide +kernel)) ggX7_veer_X7_isCoast
set_option maxRecDepth 20000 in
theorem ggX7_veer_X7_notes : GoodIn wsX7_veer wsX7_notes := goodIn_r _ [11, 12, 13, 2, 14, 15, 6, 16, 17, 18, 19, 20, 21, 22, 23, 24, 25, 26, 27, 28, 29, 30, 31, 32, 33, 34, 35, 36, 37, 38, 39, 40, 41, 42, 43, 44] (by decide +kernel) (by decide +kernel)
set_option maxRecDepth 20000 in
theorem gX7_veer_X7_notes : GoodIn wsX7_veer (wsV RX7 170 RX7 yX7_notes wsX7_notes) := goodIn_app (goodIn_of _ (by decide +kernel)) ggX7_veer_X7_notes
theorem dX7_veer_0 : decode cX7_veer 0 = .ok (.aload_n 0, 1) := by decide +kernel
theorem dX7_veer_1 : decode cX7_veer 1 = .ok (.invokevirtual 166, 3) := by decide +kernel
theorem dX7_veer_4 : decode cX7_veer 4 = .ok (.ifCond .ne 6, 3) := by decide +kernel
theorem dX7_veer_7 : decode cX7_veer 7 = .ok (.ldc 169, 2) := by decide +kernel
theorem dX7_veer_9 : decode cX7_veer 9 = .ok (.ireturn, 1) := by decide +kernel
theorem dX7_veer_10 : decode cX7_veer 10 = .ok (.aload_n 0, 1) := by decide +kernel
theorem dX7_veer_11 : decode cX7_veer 11 = .ok (.invokevirtual 170, 3) := by decide +kernel
theorem dX7_veer_14 : decode cX7_veer 14 = .ok (.aload_n 0, 1) := by decide +kernel
theorem dX7_veer_15 : decode cX7_veer 15 = .ok (.getfield 25, 3) := by decide +kernel
theorem dX7_veer_18 : decode cX7_veer 18 = .ok (.iconst 5, 1) := by decide +kernel
theorem dX7_veer_19 : decode cX7_veer 19 = .ok (.iconst 1, 1) := by decide +kernel
theorem dX7_veer_20 : decode cX7_veer 20 = .ok (.aload_n 0, 1) := by decide +kernel
theorem dX7_veer_21 : decode cX7_veer 21 = .ok (.getfield 25, 3) := by decide +kernel
theorem dX7_veer_24 : decode cX7_veer 24 = .ok (.iconst 5, 1) := by decide +kernel
theorem dX7_veer_25 : decode cX7_veer 25 = .ok (.iaload, 1) := by decide +kernel
theorem dX7_veer_26 : decode cX7_veer 26 = .ok (.isub, 1) := by decide +kernel
theorem dX7_veer_27 : decode cX7_veer 27 = .ok (.iastore, 1) := by decide +kernel
theorem dX7_veer_28 : decode cX7_veer 28 = .ok (.aload_n 0, 1) := by decide +kernel
theorem dX7_veer_29 : decode cX7_veer 29 = .ok (.getfield 25, 3) := by decide +kernel
theorem dX7_veer_32 : decode cX7_veer 32 = .ok (.iconst 5, 1) := by decide +kernel
theorem dX7_veer_33 : decode cX7_veer 33 = .ok (.iaload, 1) := by decide +kernel
theorem dX7_veer_34 : decode cX7_veer 34 = .ok (.ireturn, 1) := by decide +kernel
set_option maxRecDepth 20000 in
theorem ggX7_undo_X7_copies : GoodIn wsX7_undo wsX7_copies := goodIn_r _ [8] (by decide +kernel) (by decide +kernel)
set_option maxRecDepth 20000 in
theorem gX7_undo_X7_copies : GoodIn wsX7_undo (va_wsS RX7 144 yX7_copies wsX7_copies) := goodIn_app (goodIn_of _ (by decide +kernel)) ggX7_undo_X7_copies
theorem dX7_undo_0 : decode cX7_undo 0 = .ok (.aload_n 0, 1) := by decide +kernel
theorem dX7_undo_1 : decode cX7_undo 1 = .ok (.getfield 148, 3) := by decide +kernel
theorem dX7_undo_4 : decode cX7_undo 4 = .ok (.ifCond .ne 6, 3) := by decide +kernel
theorem dX7_undo_7 : decode cX7_undo 7 = .ok (.ldc 169, 2) := by decide +kernel
theorem dX7_undo_9 : decode cX7_undo 9 = .ok (.ireturn, 1) := by decide +kernel
theorem dX7_undo_10 : decode cX7_undo 10 = .ok (.aload_n 0, 1) := by decide +kernel
theorem dX7_undo_11 : decode cX7_undo 11 = .ok (.dup, 1) := by decide +kernel
theorem dX7_undo_12 : decode cX7_undo 12 = .ok (.getfield 148, 3) := by decide +kernel
theorem dX7_undo_15 : decode cX7_undo 15 = .ok (.iconst 1, 1) := by decide +kernel
theorem dX7_undo_16 : decode cX7_undo 16 = .ok (.isub, 1) := by decide +kernel
theorem dX7_undo_17 : decode cX7_undo 17 = .ok (.putfield 148, 3) := by decide +kernel
theorem dX7_undo_20 : decode cX7_undo 20 = .ok (.aload_n 0, 1) := by decide +kernel
theorem dX7_undo_21 : decode cX7_undo 21 = .ok (.getfield 34, 3) := by decide +kernel
theorem dX7_undo_24 : decode cX7_undo 24 = .ok (.bipush 28, 2) := by decide +kernel
theorem dX7_undo_26 : decode cX7_undo 26 = .ok (.aload_n 0, 1) := by decide +kernel
theorem dX7_undo_27 : decode cX7_undo 27 = .ok (.getfield 148, 3) := by decide +kernel
theorem dX7_undo_30 : decode cX7_undo 30 = .ok (.imul, 1) := by decide +kernel
theorem dX7_undo_31 : decode cX7_undo 31 = .ok (.aload_n 0, 1) := by decide +kernel
theorem dX7_undo_32 : decode cX7_undo 32 = .ok (.getfield 25, 3) := by decide +kernel
theorem dX7_undo_35 : decode cX7_undo 35 = .ok (.iconst 0, 1) := by decide +kernel
theorem dX7_undo_36 : decode cX7_undo 36 = .ok (.invokestatic 144, 3) := by decide +kernel
theorem dX7_undo_39 : decode cX7_undo 39 = .ok (.aload_n 0, 1) := by decide +kernel
theorem dX7_undo_40 : decode cX7_undo 40 = .ok (.getfield 148, 3) := by decide +kernel
theorem dX7_undo_43 : decode cX7_undo 43 = .ok (.ireturn, 1) := by decide +kernel
set_option maxRecDepth 20000 in
theorem ggX7_soul_X7_isSoul : GoodIn wsX7_soul wsX7_isSoul := goodIn_r _ [7, 2, 8, 9, 6, 10, 23, 24, 25, 26, 27, 28, 29, 30, 31, 32, 33, 34, 35, 36, 37, 38, 39, 40, 41, 42, 43, 44, 45, 46, 47, 48, 49, 50] (by decide +kernel) (by decide +kernel)
set_option maxRecDepth 20000 in
theorem gX7_soul_X7_isSoul : GoodIn wsX7_soul (wsV RX7 177 RX7 yX7_isSoul wsX7_isSoul) := goodIn_app (goodIn_of _ (by decide +kernel)) ggX7_soul_X7_isSoul
set_option maxRecDepth 20000 in
theorem ggX7_soul_X7_worthOf : GoodIn wsX7_soul wsX7_worthOf := goodIn_r _ [13, 14, 15, 6, 16] (by decide +kernel) (by decide +kernel)
set_option maxRecDepth 20000 in
theorem gX7_soul_X7_worthOf : GoodIn wsX7_soul (va_wsS RX7 154 yX7_worthOf wsX7_worthOf) := goodIn_app (goodIn_of _ (by decide +kernel)) ggX7_soul_X7_worthOf
set_option maxRecDepth 20000 in
theorem ggX7_soul_X7_forceOf : GoodIn wsX7_soul wsX7_forceOf := goodIn_r _ [19, 20, 21, 6, 22, 14, 15, 16, 11, 12, 13] (by decide +kernel) (by decide +kernel)
set_option maxRecDepth 20000 in
theorem gX7_soul_X7_forceOf : GoodIn wsX7_soul (va_wsS RX7 161 yX7_forceOf wsX7_forceOf) := goodIn_app (goodIn_of _ (by decide +kernel)) ggX7_soul_X7_forceOf
theorem dX7_soul_0 : decode cX7_soul 0 = .ok (.aload_n 0, 1) := by decide +kernel
theorem dX7_soul_1 : decode cX7_soul 1 = .ok (.iload_n 1, 1) := by decide +kernel
theorem dX7_soul_2 : decode cX7_soul 2 = .ok (.invokevirtual 177, 3) := by decide +kernel
theorem dX7_soul_5 : decode cX7_soul 5 = .ok (.ifCond .ne 6, 3) := by decide +kernel
theorem dX7_soul_8 : decode cX7_soul 8 = .ok (.ldc 73, 2) := by decide +kernel
theorem dX7_soul_10 : decode cX7_soul 10 = .ok (.ireturn, 1) := by decide +kernel
theorem dX7_soul_11 : decode cX7_soul 11 = .ok (.bipush 7, 2) := by decide +kernel
theorem dX7_soul_13 : decode cX7_soul 13 = .ok (.iconst 3, 1) := by decide +kernel
theorem dX7_soul_14 : decode cX7_soul 14 = .ok (.iload_n 1, 1) := by decide +kernel
theorem dX7_soul_15 : decode cX7_soul 15 = .ok (.imul, 1) := by decide +kernel
theorem dX7_soul_16 : decode cX7_soul 16 = .ok (.iadd, 1) := by decide +kernel
theorem dX7_soul_17 : decode cX7_soul 17 = .ok (.istore_n 3, 1) := by decide +kernel
theorem dX7_soul_18 : decode cX7_soul 18 = .ok (.iload_n 2, 1) := by decide +kernel
theorem dX7_soul_19 : decode cX7_soul 19 = .ok (.tableswitch 99 0 3 #[29, 38, 47, 77], 29) := by decide +kernel
theorem dX7_soul_48 : decode cX7_soul 48 = .ok (.aload_n 0, 1) := by decide +kernel
theorem dX7_soul_49 : decode cX7_soul 49 = .ok (.getfield 25, 3) := by decide +kernel
theorem dX7_soul_52 : decode cX7_soul 52 = .ok (.iload_n 3, 1) := by decide +kernel
theorem dX7_soul_53 : decode cX7_soul 53 = .ok (.iconst 1, 1) := by decide +kernel
theorem dX7_soul_54 : decode cX7_soul 54 = .ok (.iadd, 1) := by decide +kernel
theorem dX7_soul_55 : decode cX7_soul 55 = .ok (.iaload, 1) := by decide +kernel
theorem dX7_soul_56 : decode cX7_soul 56 = .ok (.ireturn, 1) := by decide +kernel
theorem dX7_soul_57 : decode cX7_soul 57 = .ok (.aload_n 0, 1) := by decide +kernel
theorem dX7_soul_58 : decode cX7_soul 58 = .ok (.getfield 25, 3) := by decide +kernel
theorem dX7_soul_61 : decode cX7_soul 61 = .ok (.iload_n 3, 1) := by decide +kernel
theorem dX7_soul_62 : decode cX7_soul 62 = .ok (.iconst 2, 1) := by decide +kernel
theorem dX7_soul_63 : decode cX7_soul 63 = .ok (.iadd, 1) := by decide +kernel
theorem dX7_soul_64 : decode cX7_soul 64 = .ok (.iaload, 1) := by decide +kernel
theorem dX7_soul_65 : decode cX7_soul 65 = .ok (.ireturn, 1) := by decide +kernel
theorem dX7_soul_66 : decode cX7_soul 66 = .ok (.aload_n 0, 1) := by decide +kernel
theorem dX7_soul_67 : decode cX7_soul 67 = .ok (.getfield 25, 3) := by decide +kernel
theorem dX7_soul_70 : decode cX7_soul 70 = .ok (.iload_n 3, 1) := by decide +kernel
theorem dX7_soul_71 : decode cX7_soul 71 = .ok (.iaload, 1) := by decide +kernel
theorem dX7_soul_72 : decode cX7_soul 72 = .ok (.aload_n 0, 1) := by decide +kernel
theorem dX7_soul_73 : decode cX7_soul 73 = .ok (.getfield 25, 3) := by decide +kernel
theorem dX7_soul_76 : decode cX7_soul 76 = .ok (.iload_n 3, 1) := by decide +kernel
theorem dX7_soul_77 : decode cX7_soul 77 = .ok (.iconst 1, 1) := by decide +kernel
theorem dX7_soul_78 : decode cX7_soul 78 = .ok (.iadd, 1) := by decide +kernel
theorem dX7_soul_79 : decode cX7_soul 79 = .ok (.iaload, 1) := by decide +kernel
theorem dX7_soul_80 : decode cX7_soul 80 = .ok (.aload_n 0, 1) := by decide +kernel
theorem dX7_soul_81 : decode cX7_soul 81 = .ok (.getfield 25, 3) := by decide +kernel
theorem dX7_soul_84 : decode cX7_soul 84 = .ok (.iconst 0, 1) := by decide +kernel
theorem dX7_soul_85 : decode cX7_soul 85 = .ok (.iaload, 1) := by decide +kernel
theorem dX7_soul_86 : decode cX7_soul 86 = .ok (.aload_n 0, 1) := by decide +kernel
theorem dX7_soul_87 : decode cX7_soul 87 = .ok (.getfield 25, 3) := by decide +kernel
theorem dX7_soul_90 : decode cX7_soul 90 = .ok (.iconst 3, 1) := by decide +kernel
theorem dX7_soul_91 : decode cX7_soul 91 = .ok (.iaload, 1) := by decide +kernel
theorem dX7_soul_92 : decode cX7_soul 92 = .ok (.invokestatic 154, 3) := by decide +kernel
theorem dX7_soul_95 : decode cX7_soul 95 = .ok (.ireturn, 1) := by decide +kernel
theorem dX7_soul_96 : decode cX7_soul 96 = .ok (.aload_n 0, 1) := by decide +kernel
theorem dX7_soul_97 : decode cX7_soul 97 = .ok (.getfield 25, 3) := by decide +kernel
theorem dX7_soul_100 : decode cX7_soul 100 = .ok (.iconst 0, 1) := by decide +kernel
theorem dX7_soul_101 : decode cX7_soul 101 = .ok (.iaload, 1) := by decide +kernel
theorem dX7_soul_102 : decode cX7_soul 102 = .ok (.aload_n 0, 1) := by decide +kernel
theorem dX7_soul_103 : decode cX7_soul 103 = .ok (.getfield 25, 3) := by decide +kernel
theorem dX7_soul_106 : decode cX7_soul 106 = .ok (.iload_n 1, 1) := by decide +kernel
theorem dX7_soul_107 : decode cX7_soul 107 = .ok (.aload_n 0, 1) := by decide +kernel
theorem dX7_soul_108 : decode cX7_soul 108 = .ok (.getfield 25, 3) := by decide +kernel
theorem dX7_soul_111 : decode cX7_soul 111 = .ok (.iconst 0, 1) := by decide +kernel
theorem dX7_soul_112 : decode cX7_soul 112 = .ok (.iaload, 1) := by decide +kernel
theorem dX7_soul_113 : decode cX7_soul 113 = .ok (.invokestatic 161, 3) := by decide +kernel
theorem dX7_soul_116 : decode cX7_soul 116 = .ok (.isub, 1) := by decide +kernel
theorem dX7_soul_117 : decode cX7_soul 117 = .ok (.ireturn, 1) := by decide +kernel
theorem dX7_soul_118 : decode cX7_soul 118 = .ok (.ldc 73, 2) := by decide +kernel
theorem dX7_soul_120 : decode cX7_soul 120 = .ok (.ireturn, 1) := by decide +kernel
set_option maxRecDepth 20000 in
theorem ggX7_goesOn_X7_passes : GoodIn wsX7_goesOn wsX7_passes := goodIn_r _ [5, 6, 7, 8, 4, 9, 10, 11, 12] (by decide +kernel) (by decide +kernel)
set_option maxRecDepth 20000 in
theorem gX7_goesOn_X7_passes : GoodIn wsX7_goesOn (va_wsS RX7 173 yX7_passes wsX7_passes) := goodIn_app (goodIn_of _ (by decide +kernel)) ggX7_goesOn_X7_passes
theorem dX7_goesOn_0 : decode cX7_goesOn 0 = .ok (.iconst 0, 1) := by decide +kernel
theorem dX7_goesOn_1 : decode cX7_goesOn 1 = .ok (.istore_n 2, 1) := by decide +kernel
theorem dX7_goesOn_2 : decode cX7_goesOn 2 = .ok (.iload_n 2, 1) := by decide +kernel
theorem dX7_goesOn_3 : decode cX7_goesOn 3 = .ok (.iload_n 1, 1) := by decide +kernel
theorem dX7_goesOn_4 : decode cX7_goesOn 4 = .ok (.if_icmp .ge 16, 3) := by decide +kernel
theorem dX7_goesOn_7 : decode cX7_goesOn 7 = .ok (.aload_n 0, 1) := by decide +kernel
theorem dX7_goesOn_8 : decode cX7_goesOn 8 = .ok (.getfield 31, 3) := by decide +kernel
theorem dX7_goesOn_11 : decode cX7_goesOn 11 = .ok (.invokestatic 173, 3) := by decide +kernel
theorem dX7_goesOn_14 : decode cX7_goesOn 14 = .ok (.iinc 2 1, 3) := by decide +kernel
theorem dX7_goesOn_17 : decode cX7_goesOn 17 = .ok (.goto (-15), 3) := by decide +kernel
theorem dX7_goesOn_20 : decode cX7_goesOn 20 = .ok (.return_, 1) := by decide +kernel
set_option maxRecDepth 20000 in
theorem ggX7_roofs_X7_isSoul : GoodIn wsX7_roofs wsX7_isSoul := goodIn_r _ [8, 2, 9, 10, 7, 11, 26, 27, 28, 29, 30, 31, 32, 33, 34, 35, 36, 37, 38, 39, 40, 41, 42, 43, 44, 45, 46, 47, 48, 49, 50, 51, 52, 53] (by decide +kernel) (by decide +kernel)
set_option maxRecDepth 20000 in
theorem gX7_roofs_X7_isSoul : GoodIn wsX7_roofs (wsV RX7 177 RX7 yX7_isSoul wsX7_isSoul) := goodIn_app (goodIn_of _ (by decide +kernel)) ggX7_roofs_X7_isSoul
set_option maxRecDepth 20000 in
theorem ggX7_roofs_X7_in : GoodIn wsX7_roofs wsX7_in := goodIn_r _ [11] (by decide +kernel) (by decide +kernel)
set_option maxRecDepth 20000 in
theorem gX7_roofs_X7_in : GoodIn wsX7_roofs (va_wsS RX7 65 yX7_in wsX7_in) := goodIn_app (goodIn_of _ (by decide +kernel)) ggX7_roofs_X7_in
set_option maxRecDepth 20000 in
theorem ggX7_roofs_X7_copies : GoodIn wsX7_roofs wsX7_copies := goodIn_r _ [14] (by decide +kernel) (by decide +kernel)
set_option maxRecDepth 20000 in
theorem gX7_roofs_X7_copies : GoodIn wsX7_roofs (va_wsS RX7 144 yX7_copies wsX7_copies) := goodIn_app (goodIn_of _ (by decide +kernel)) ggX7_roofs_X7_copies
set_option maxRecDepth 20000 in
theorem ggX7_roofs_X7_goesOn : GoodIn wsX7_roofs wsX7_goesOn := goodIn_r _ [18, 3, 19, 20, 7, 21, 22, 23, 24, 25, 9, 10, 11, 26, 27, 28, 29, 30, 31, 32, 33, 34, 35, 36, 37, 38, 39, 40, 41, 42, 43, 44, 45, 46, 47, 48, 49, 50, 51, 52, 53] (by decide +kernel) (by decide +kernel)
set_option maxRecDepth 20000 in
theorem gX7_roofs_X7_goesOn : GoodIn wsX7_roofs (wsV RX7 184 RX7 yX7_goesOn wsX7_goesOn) := goodIn_app (goodIn_of _ (by decide +kernel)) ggX7_roofs_X7_goesOn
theorem dX7_roofs_0 : decode cX7_roofs 0 = .ok (.aload_n 0, 1) := by decide +kernel
theorem dX7_roofs_1 : decode cX7_roofs 1 = .ok (.iload_n 1, 1) := by decide +kernel
theorem dX7_roofs_2 : decode cX7_roofs 2 = .ok (.invokevirtual 177, 3) := by decide +kernel
theorem dX7_roofs_5 : decode cX7_roofs 5 = .ok (.ifCond .eq 13, 3) := by decide +kernel
theorem dX7_roofs_8 : decode cX7_roofs 8 = .ok (.iload_n 2, 1) := by decide +kernel
theorem dX7_roofs_9 : decode cX7_roofs 9 = .ok (.iconst 0, 1) := by decide +kernel
theorem dX7_roofs_10 : decode cX7_roofs 10 = .ok (.bipush 60, 2) := by decide +kernel
theorem dX7_roofs_12 : decode cX7_roofs 12 = .ok (.invokestatic 65, 3) := by decide +kernel
theorem dX7_roofs_15 : decode cX7_roofs 15 = .ok (.ifCond .ne 6, 3) := by decide +kernel
theorem dX7_roofs_18 : decode cX7_roofs 18 = .ok (.ldc 73, 2) := by decide +kernel
theorem dX7_roofs_20 : decode cX7_roofs 20 = .ok (.ireturn, 1) := by decide +kernel
theorem dX7_roofs_21 : decode cX7_roofs 21 = .ok (.aload_n 0, 1) := by decide +kernel
theorem dX7_roofs_22 : decode cX7_roofs 22 = .ok (.getfield 25, 3) := by decide +kernel
theorem dX7_roofs_25 : decode cX7_roofs 25 = .ok (.iconst 0, 1) := by decide +kernel
theorem dX7_roofs_26 : decode cX7_roofs 26 = .ok (.aload_n 0, 1) := by decide +kernel
theorem dX7_roofs_27 : decode cX7_roofs 27 = .ok (.getfield 31, 3) := by decide +kernel
theorem dX7_roofs_30 : decode cX7_roofs 30 = .ok (.iconst 0, 1) := by decide +kernel
theorem dX7_roofs_31 : decode cX7_roofs 31 = .ok (.invokestatic 144, 3) := by decide +kernel
theorem dX7_roofs_34 : decode cX7_roofs 34 = .ok (.aload_n 0, 1) := by decide +kernel
theorem dX7_roofs_35 : decode cX7_roofs 35 = .ok (.iload_n 2, 1) := by decide +kernel
theorem dX7_roofs_36 : decode cX7_roofs 36 = .ok (.invokevirtual 184, 3) := by decide +kernel
theorem dX7_roofs_39 : decode cX7_roofs 39 = .ok (.aload_n 0, 1) := by decide +kernel
theorem dX7_roofs_40 : decode cX7_roofs 40 = .ok (.getfield 31, 3) := by decide +kernel
theorem dX7_roofs_43 : decode cX7_roofs 43 = .ok (.bipush 7, 2) := by decide +kernel
theorem dX7_roofs_45 : decode cX7_roofs 45 = .ok (.iconst 3, 1) := by decide +kernel
theorem dX7_roofs_46 : decode cX7_roofs 46 = .ok (.iload_n 1, 1) := by decide +kernel
theorem dX7_roofs_47 : decode cX7_roofs 47 = .ok (.imul, 1) := by decide +kernel
theorem dX7_roofs_48 : decode cX7_roofs 48 = .ok (.iadd, 1) := by decide +kernel
theorem dX7_roofs_49 : decode cX7_roofs 49 = .ok (.iconst 2, 1) := by decide +kernel
theorem dX7_roofs_50 : decode cX7_roofs 50 = .ok (.iadd, 1) := by decide +kernel
theorem dX7_roofs_51 : decode cX7_roofs 51 = .ok (.iaload, 1) := by decide +kernel
theorem dX7_roofs_52 : decode cX7_roofs 52 = .ok (.ireturn, 1) := by decide +kernel
set_option maxRecDepth 20000 in
theorem ggX7_later_X7_isCoast : GoodIn wsX7_later wsX7_isCoast := goodIn_r _ [9, 3, 27, 28, 29, 30, 31, 32, 33, 34, 35, 36, 37, 38, 39, 40, 41, 42, 43, 44, 45, 46, 47, 48, 49, 50, 51, 52, 53, 54] (by decide +kernel) (by decide +kernel)
set_option maxRecDepth 20000 in
theorem gX7_later_X7_isCoast : GoodIn wsX7_later (wsV RX7 166 RX7 yX7_isCoast wsX7_isCoast) := goodIn_app (goodIn_of _ (by decide +kernel)) ggX7_later_X7_isCoast
set_option maxRecDepth 20000 in
theorem ggX7_later_X7_in : GoodIn wsX7_later wsX7_in := goodIn_r _ [12] (by decide +kernel) (by decide +kernel)
set_option maxRecDepth 20000 in
theorem gX7_later_X7_in : GoodIn wsX7_later (va_wsS RX7 65 yX7_in wsX7_in) := goodIn_app (goodIn_of _ (by decide +kernel)) ggX7_later_X7_in
set_option maxRecDepth 20000 in
theorem ggX7_later_X7_copies : GoodIn wsX7_later wsX7_copies := goodIn_r _ [15] (by decide +kernel) (by decide +kernel)
set_option maxRecDepth 20000 in
theorem gX7_later_X7_copies : GoodIn wsX7_later (va_wsS RX7 144 yX7_copies wsX7_copies) := goodIn_app (goodIn_of _ (by decide +kernel)) ggX7_later_X7_copies
set_option maxRecDepth 20000 in
theorem ggX7_later_X7_goesOn : GoodIn wsX7_later wsX7_goesOn := goodIn_r _ [19, 4, 20, 21, 8, 22, 23, 24, 25, 26, 10, 11, 12, 27, 28, 29, 30, 31, 32, 33, 34, 35, 36, 37, 38, 39, 40, 41, 42, 43, 44, 45, 46, 47, 48, 49, 50, 51, 52, 53, 54] (by decide +kernel) (by decide +kernel)
set_option maxRecDepth 20000 in
theorem gX7_later_X7_goesOn : GoodIn wsX7_later (wsV RX7 184 RX7 yX7_goesOn wsX7_goesOn) := goodIn_app (goodIn_of _ (by decide +kernel)) ggX7_later_X7_goesOn
theorem dX7_later_0 : decode cX7_later 0 = .ok (.aload_n 0, 1) := by decide +kernel
theorem dX7_later_1 : decode cX7_later 1 = .ok (.invokevirtual 166, 3) := by decide +kernel
theorem dX7_later_4 : decode cX7_later 4 = .ok (.ifCond .ne 6, 3) := by decide +kernel
theorem dX7_later_7 : decode cX7_later 7 = .ok (.ldc 169, 2) := by decide +kernel
theorem dX7_later_9 : decode cX7_later 9 = .ok (.ireturn, 1) := by decide +kernel
theorem dX7_later_10 : decode cX7_later 10 = .ok (.iload_n 1, 1) := by decide +kernel
theorem dX7_later_11 : decode cX7_later 11 = .ok (.iconst 0, 1) := by decide +kernel
theorem dX7_later_12 : decode cX7_later 12 = .ok (.bipush 60, 2) := by decide +kernel
theorem dX7_later_14 : decode cX7_later 14 = .ok (.invokestatic 65, 3) := by decide +kernel
theorem dX7_later_17 : decode cX7_later 17 = .ok (.ifCond .eq 12, 3) := by decide +kernel
theorem dX7_later_20 : decode cX7_later 20 = .ok (.iload_n 2, 1) := by decide +kernel
theorem dX7_later_21 : decode cX7_later 21 = .ok (.iconst 0, 1) := by decide +kernel
theorem dX7_later_22 : decode cX7_later 22 = .ok (.iconst 2, 1) := by decide +kernel
theorem dX7_later_23 : decode cX7_later 23 = .ok (.invokestatic 65, 3) := by decide +kernel
theorem dX7_later_26 : decode cX7_later 26 = .ok (.ifCond .ne 6, 3) := by decide +kernel
theorem dX7_later_29 : decode cX7_later 29 = .ok (.ldc 73, 2) := by decide +kernel
theorem dX7_later_31 : decode cX7_later 31 = .ok (.ireturn, 1) := by decide +kernel
theorem dX7_later_32 : decode cX7_later 32 = .ok (.aload_n 0, 1) := by decide +kernel
theorem dX7_later_33 : decode cX7_later 33 = .ok (.getfield 25, 3) := by decide +kernel
theorem dX7_later_36 : decode cX7_later 36 = .ok (.iconst 0, 1) := by decide +kernel
theorem dX7_later_37 : decode cX7_later 37 = .ok (.aload_n 0, 1) := by decide +kernel
theorem dX7_later_38 : decode cX7_later 38 = .ok (.getfield 31, 3) := by decide +kernel
theorem dX7_later_41 : decode cX7_later 41 = .ok (.iconst 0, 1) := by decide +kernel
theorem dX7_later_42 : decode cX7_later 42 = .ok (.invokestatic 144, 3) := by decide +kernel
theorem dX7_later_45 : decode cX7_later 45 = .ok (.aload_n 0, 1) := by decide +kernel
theorem dX7_later_46 : decode cX7_later 46 = .ok (.iload_n 1, 1) := by decide +kernel
theorem dX7_later_47 : decode cX7_later 47 = .ok (.invokevirtual 184, 3) := by decide +kernel
theorem dX7_later_50 : decode cX7_later 50 = .ok (.aload_n 0, 1) := by decide +kernel
theorem dX7_later_51 : decode cX7_later 51 = .ok (.getfield 31, 3) := by decide +kernel
theorem dX7_later_54 : decode cX7_later 54 = .ok (.iload_n 2, 1) := by decide +kernel
theorem dX7_later_55 : decode cX7_later 55 = .ok (.ifCond .ne 7, 3) := by decide +kernel
theorem dX7_later_58 : decode cX7_later 58 = .ok (.iconst 0, 1) := by decide +kernel
theorem dX7_later_59 : decode cX7_later 59 = .ok (.goto 14, 3) := by decide +kernel
theorem dX7_later_62 : decode cX7_later 62 = .ok (.iload_n 2, 1) := by decide +kernel
theorem dX7_later_63 : decode cX7_later 63 = .ok (.iconst 1, 1) := by decide +kernel
theorem dX7_later_64 : decode cX7_later 64 = .ok (.if_icmp .ne 7, 3) := by decide +kernel
theorem dX7_later_67 : decode cX7_later 67 = .ok (.iconst 4, 1) := by decide +kernel
theorem dX7_later_68 : decode cX7_later 68 = .ok (.goto 5, 3) := by decide +kernel
theorem dX7_later_71 : decode cX7_later 71 = .ok (.bipush 6, 2) := by decide +kernel
theorem dX7_later_73 : decode cX7_later 73 = .ok (.iaload, 1) := by decide +kernel
theorem dX7_later_74 : decode cX7_later 74 = .ok (.ireturn, 1) := by decide +kernel
set_option maxRecDepth 20000 in
theorem ggX7_still_X7_isCoast : GoodIn wsX7_still wsX7_isCoast := goodIn_r _ [9, 2, 23, 24, 25, 26, 27, 28, 29, 30, 31, 32, 33, 34, 35, 36, 37, 38, 39, 40, 41, 42, 43, 44, 45, 46, 47, 48, 49, 50] (by decide +kernel) (by decide +kernel)
set_option maxRecDepth 20000 in
theorem gX7_still_X7_isCoast : GoodIn wsX7_still (wsV RX7 166 RX7 yX7_isCoast wsX7_isCoast) := goodIn_app (goodIn_of _ (by decide +kernel)) ggX7_still_X7_isCoast
set_option maxRecDepth 20000 in
theorem ggX7_still_X7_copies : GoodIn wsX7_still wsX7_copies := goodIn_r _ [12] (by decide +kernel) (by decide +kernel)
set_option maxRecDepth 20000 in
theorem gX7_still_X7_copies : GoodIn wsX7_still (va_wsS RX7 144 yX7_copies wsX7_copies) := goodIn_app (goodIn_of _ (by decide +kernel)) ggX7_still_X7_copies
set_option maxRecDepth 20000 in
theorem ggX7_still_X7_passes : GoodIn wsX7_still wsX7_passes := goodIn_r _ [15, 16, 17, 18, 8, 19, 20, 21, 22] (by decide +kernel) (by decide +kernel)
set_option maxRecDepth 20000 in
theorem gX7_still_X7_passes : GoodIn wsX7_still (va_wsS RX7 173 yX7_passes wsX7_passes) := goodIn_app (goodIn_of _ (by decide +kernel)) ggX7_still_X7_passes
theorem dX7_still_0 : decode cX7_still 0 = .ok (.aload_n 0, 1) := by decide +kernel
theorem dX7_still_1 : decode cX7_still 1 = .ok (.invokevirtual 166, 3) := by decide +kernel
theorem dX7_still_4 : decode cX7_still 4 = .ok (.ifCond .ne 6, 3) := by decide +kernel
theorem dX7_still_7 : decode cX7_still 7 = .ok (.ldc 169, 2) := by decide +kernel
theorem dX7_still_9 : decode cX7_still 9 = .ok (.ireturn, 1) := by decide +kernel
theorem dX7_still_10 : decode cX7_still 10 = .ok (.aload_n 0, 1) := by decide +kernel
theorem dX7_still_11 : decode cX7_still 11 = .ok (.getfield 25, 3) := by decide +kernel
theorem dX7_still_14 : decode cX7_still 14 = .ok (.iconst 0, 1) := by decide +kernel
theorem dX7_still_15 : decode cX7_still 15 = .ok (.aload_n 0, 1) := by decide +kernel
theorem dX7_still_16 : decode cX7_still 16 = .ok (.getfield 31, 3) := by decide +kernel
theorem dX7_still_19 : decode cX7_still 19 = .ok (.iconst 0, 1) := by decide +kernel
theorem dX7_still_20 : decode cX7_still 20 = .ok (.invokestatic 144, 3) := by decide +kernel
theorem dX7_still_23 : decode cX7_still 23 = .ok (.iconst 0, 1) := by decide +kernel
theorem dX7_still_24 : decode cX7_still 24 = .ok (.istore_n 1, 1) := by decide +kernel
theorem dX7_still_25 : decode cX7_still 25 = .ok (.iload_n 1, 1) := by decide +kernel
theorem dX7_still_26 : decode cX7_still 26 = .ok (.bipush 61, 2) := by decide +kernel
theorem dX7_still_28 : decode cX7_still 28 = .ok (.if_icmp .ge 27, 3) := by decide +kernel
theorem dX7_still_31 : decode cX7_still 31 = .ok (.aload_n 0, 1) := by decide +kernel
theorem dX7_still_32 : decode cX7_still 32 = .ok (.getfield 31, 3) := by decide +kernel
theorem dX7_still_35 : decode cX7_still 35 = .ok (.iconst 0, 1) := by decide +kernel
theorem dX7_still_36 : decode cX7_still 36 = .ok (.iaload, 1) := by decide +kernel
theorem dX7_still_37 : decode cX7_still 37 = .ok (.ifCond .ne 5, 3) := by decide +kernel
theorem dX7_still_40 : decode cX7_still 40 = .ok (.iload_n 1, 1) := by decide +kernel
theorem dX7_still_41 : decode cX7_still 41 = .ok (.ireturn, 1) := by decide +kernel
theorem dX7_still_42 : decode cX7_still 42 = .ok (.aload_n 0, 1) := by decide +kernel
theorem dX7_still_43 : decode cX7_still 43 = .ok (.getfield 31, 3) := by decide +kernel
theorem dX7_still_46 : decode cX7_still 46 = .ok (.invokestatic 173, 3) := by decide +kernel
theorem dX7_still_49 : decode cX7_still 49 = .ok (.iinc 1 1, 3) := by decide +kernel
theorem dX7_still_52 : decode cX7_still 52 = .ok (.goto (-27), 3) := by decide +kernel
theorem dX7_still_55 : decode cX7_still 55 = .ok (.ldc 59, 2) := by decide +kernel
theorem dX7_still_57 : decode cX7_still 57 = .ok (.ireturn, 1) := by decide +kernel
set_option maxRecDepth 20000 in
theorem ggX7_bare_X7_isCoast : GoodIn wsX7_bare wsX7_isCoast := goodIn_r _ [10, 3, 24, 25, 26, 27, 28, 29, 30, 31, 32, 33, 34, 35, 36, 37, 38, 39, 40, 41, 42, 43, 44, 45, 46, 47, 48, 49, 50, 51] (by decide +kernel) (by decide +kernel)
set_option maxRecDepth 20000 in
theorem gX7_bare_X7_isCoast : GoodIn wsX7_bare (wsV RX7 166 RX7 yX7_isCoast wsX7_isCoast) := goodIn_app (goodIn_of _ (by decide +kernel)) ggX7_bare_X7_isCoast
set_option maxRecDepth 20000 in
theorem ggX7_bare_X7_in : GoodIn wsX7_bare wsX7_in := goodIn_r _ [13] (by decide +kernel) (by decide +kernel)
set_option maxRecDepth 20000 in
theorem gX7_bare_X7_in : GoodIn wsX7_bare (va_wsS RX7 65 yX7_in wsX7_in) := goodIn_app (goodIn_of _ (by decide +kernel)) ggX7_bare_X7_in
set_option maxRecDepth 20000 in
theorem ggX7_bare_X7_copies : GoodIn wsX7_bare wsX7_copies := goodIn_r _ [16] (by decide +kernel) (by decide +kernel)
set_option maxRecDepth 20000 in
theorem gX7_bare_X7_copies : GoodIn wsX7_bare (va_wsS RX7 144 yX7_copies wsX7_copies) := goodIn_app (goodIn_of _ (by decide +kernel)) ggX7_bare_X7_copies
set_option maxRecDepth 20000 in
theorem ggX7_bare_X7_passes : GoodIn wsX7_bare wsX7_passes := goodIn_r _ [19, 20, 21, 22, 9, 23, 11, 12, 13] (by decide +kernel) (by decide +kernel)
set_option maxRecDepth 20000 in
theorem gX7_bare_X7_passes : GoodIn wsX7_bare (va_wsS RX7 173 yX7_passes wsX7_passes) := goodIn_app (goodIn_of _ (by decide +kernel)) ggX7_bare_X7_passes
theorem dX7_bare_0 : decode cX7_bare 0 = .ok (.aload_n 0, 1) := by decide +kernel
theorem dX7_bare_1 : decode cX7_bare 1 = .ok (.invokevirtual 166, 3) := by decide +kernel
theorem dX7_bare_4 : decode cX7_bare 4 = .ok (.ifCond .ne 6, 3) := by decide +kernel
theorem dX7_bare_7 : decode cX7_bare 7 = .ok (.ldc 169, 2) := by decide +kernel
theorem dX7_bare_9 : decode cX7_bare 9 = .ok (.ireturn, 1) := by decide +kernel
theorem dX7_bare_10 : decode cX7_bare 10 = .ok (.iload_n 1, 1) := by decide +kernel
theorem dX7_bare_11 : decode cX7_bare 11 = .ok (.iconst 0, 1) := by decide +kernel
theorem dX7_bare_12 : decode cX7_bare 12 = .ok (.iconst 1, 1) := by decide +kernel
theorem dX7_bare_13 : decode cX7_bare 13 = .ok (.invokestatic 65, 3) := by decide +kernel
theorem dX7_bare_16 : decode cX7_bare 16 = .ok (.ifCond .ne 6, 3) := by decide +kernel
theorem dX7_bare_19 : decode cX7_bare 19 = .ok (.ldc 73, 2) := by decide +kernel
theorem dX7_bare_21 : decode cX7_bare 21 = .ok (.ireturn, 1) := by decide +kernel
theorem dX7_bare_22 : decode cX7_bare 22 = .ok (.aload_n 0, 1) := by decide +kernel
theorem dX7_bare_23 : decode cX7_bare 23 = .ok (.getfield 25, 3) := by decide +kernel
theorem dX7_bare_26 : decode cX7_bare 26 = .ok (.iconst 0, 1) := by decide +kernel
theorem dX7_bare_27 : decode cX7_bare 27 = .ok (.aload_n 0, 1) := by decide +kernel
theorem dX7_bare_28 : decode cX7_bare 28 = .ok (.getfield 31, 3) := by decide +kernel
theorem dX7_bare_31 : decode cX7_bare 31 = .ok (.iconst 0, 1) := by decide +kernel
theorem dX7_bare_32 : decode cX7_bare 32 = .ok (.invokestatic 144, 3) := by decide +kernel
theorem dX7_bare_35 : decode cX7_bare 35 = .ok (.iconst 0, 1) := by decide +kernel
theorem dX7_bare_36 : decode cX7_bare 36 = .ok (.istore_n 2, 1) := by decide +kernel
theorem dX7_bare_37 : decode cX7_bare 37 = .ok (.iload_n 2, 1) := by decide +kernel
theorem dX7_bare_38 : decode cX7_bare 38 = .ok (.bipush 61, 2) := by decide +kernel
theorem dX7_bare_40 : decode cX7_bare 40 = .ok (.if_icmp .ge 60, 3) := by decide +kernel
theorem dX7_bare_43 : decode cX7_bare 43 = .ok (.iconst 0, 1) := by decide +kernel
theorem dX7_bare_44 : decode cX7_bare 44 = .ok (.istore_n 3, 1) := by decide +kernel
theorem dX7_bare_45 : decode cX7_bare 45 = .ok (.iload_n 3, 1) := by decide +kernel
theorem dX7_bare_46 : decode cX7_bare 46 = .ok (.aload_n 0, 1) := by decide +kernel
theorem dX7_bare_47 : decode cX7_bare 47 = .ok (.getfield 25, 3) := by decide +kernel
theorem dX7_bare_50 : decode cX7_bare 50 = .ok (.iconst 2, 1) := by decide +kernel
theorem dX7_bare_51 : decode cX7_bare 51 = .ok (.iaload, 1) := by decide +kernel
theorem dX7_bare_52 : decode cX7_bare 52 = .ok (.if_icmp .ge 35, 3) := by decide +kernel
theorem dX7_bare_55 : decode cX7_bare 55 = .ok (.aload_n 0, 1) := by decide +kernel
theorem dX7_bare_56 : decode cX7_bare 56 = .ok (.getfield 31, 3) := by decide +kernel
theorem dX7_bare_59 : decode cX7_bare 59 = .ok (.bipush 7, 2) := by decide +kernel
theorem dX7_bare_61 : decode cX7_bare 61 = .ok (.iconst 3, 1) := by decide +kernel
theorem dX7_bare_62 : decode cX7_bare 62 = .ok (.iload_n 3, 1) := by decide +kernel
theorem dX7_bare_63 : decode cX7_bare 63 = .ok (.imul, 1) := by decide +kernel
theorem dX7_bare_64 : decode cX7_bare 64 = .ok (.iadd, 1) := by decide +kernel
theorem dX7_bare_65 : decode cX7_bare 65 = .ok (.iconst 2, 1) := by decide +kernel
theorem dX7_bare_66 : decode cX7_bare 66 = .ok (.iadd, 1) := by decide +kernel
theorem dX7_bare_67 : decode cX7_bare 67 = .ok (.iaload, 1) := by decide +kernel
theorem dX7_bare_68 : decode cX7_bare 68 = .ok (.ifCond .ne 13, 3) := by decide +kernel
theorem dX7_bare_71 : decode cX7_bare 71 = .ok (.iload_n 1, 1) := by decide +kernel
theorem dX7_bare_72 : decode cX7_bare 72 = .ok (.ifCond .ne 7, 3) := by decide +kernel
theorem dX7_bare_75 : decode cX7_bare 75 = .ok (.iload_n 3, 1) := by decide +kernel
theorem dX7_bare_76 : decode cX7_bare 76 = .ok (.goto 4, 3) := by decide +kernel
theorem dX7_bare_79 : decode cX7_bare 79 = .ok (.iload_n 2, 1) := by decide +kernel
theorem dX7_bare_80 : decode cX7_bare 80 = .ok (.ireturn, 1) := by decide +kernel
theorem dX7_bare_81 : decode cX7_bare 81 = .ok (.iinc 3 1, 3) := by decide +kernel
theorem dX7_bare_84 : decode cX7_bare 84 = .ok (.goto (-39), 3) := by decide +kernel
theorem dX7_bare_87 : decode cX7_bare 87 = .ok (.aload_n 0, 1) := by decide +kernel
theorem dX7_bare_88 : decode cX7_bare 88 = .ok (.getfield 31, 3) := by decide +kernel
theorem dX7_bare_91 : decode cX7_bare 91 = .ok (.invokestatic 173, 3) := by decide +kernel
theorem dX7_bare_94 : decode cX7_bare 94 = .ok (.iinc 2 1, 3) := by decide +kernel
theorem dX7_bare_97 : decode cX7_bare 97 = .ok (.goto (-60), 3) := by decide +kernel
theorem dX7_bare_100 : decode cX7_bare 100 = .ok (.ldc 59, 2) := by decide +kernel
theorem dX7_bare_102 : decode cX7_bare 102 = .ok (.ireturn, 1) := by decide +kernel
set_option maxRecDepth 20000 in
theorem ggX7_forceBehind_X7_has : GoodIn wsX7_forceBehind wsX7_has := goodIn_r _ [5] (by decide +kernel) (by decide +kernel)
set_option maxRecDepth 20000 in
theorem gX7_forceBehind_X7_has : GoodIn wsX7_forceBehind (va_wsS RX7 188 yX7_has wsX7_has) := goodIn_app (goodIn_of _ (by decide +kernel)) ggX7_forceBehind_X7_has
set_option maxRecDepth 20000 in
theorem ggX7_forceBehind_X7_forceOf : GoodIn wsX7_forceBehind wsX7_forceOf := goodIn_r _ [8, 9, 10, 4, 11, 12, 13, 14, 15, 16, 17] (by decide +kernel) (by decide +kernel)
set_option maxRecDepth 20000 in
theorem gX7_forceBehind_X7_forceOf : GoodIn wsX7_forceBehind (va_wsS RX7 161 yX7_forceOf wsX7_forceOf) := goodIn_app (goodIn_of _ (by decide +kernel)) ggX7_forceBehind_X7_forceOf
theorem dX7_forceBehind_0 : decode cX7_forceBehind 0 = .ok (.aload_n 0, 1) := by decide +kernel
theorem dX7_forceBehind_1 : decode cX7_forceBehind 1 = .ok (.getfield 25, 3) := by decide +kernel
theorem dX7_forceBehind_4 : decode cX7_forceBehind 4 = .ok (.iconst 0, 1) := by decide +kernel
theorem dX7_forceBehind_5 : decode cX7_forceBehind 5 = .ok (.iaload, 1) := by decide +kernel
theorem dX7_forceBehind_6 : decode cX7_forceBehind 6 = .ok (.istore_n 2, 1) := by decide +kernel
theorem dX7_forceBehind_7 : decode cX7_forceBehind 7 = .ok (.iconst 0, 1) := by decide +kernel
theorem dX7_forceBehind_8 : decode cX7_forceBehind 8 = .ok (.istore_n 3, 1) := by decide +kernel
theorem dX7_forceBehind_9 : decode cX7_forceBehind 9 = .ok (.iload_n 3, 1) := by decide +kernel
theorem dX7_forceBehind_10 : decode cX7_forceBehind 10 = .ok (.aload_n 0, 1) := by decide +kernel
theorem dX7_forceBehind_11 : decode cX7_forceBehind 11 = .ok (.getfield 25, 3) := by decide +kernel
theorem dX7_forceBehind_14 : decode cX7_forceBehind 14 = .ok (.iconst 2, 1) := by decide +kernel
theorem dX7_forceBehind_15 : decode cX7_forceBehind 15 = .ok (.iaload, 1) := by decide +kernel
theorem dX7_forceBehind_16 : decode cX7_forceBehind 16 = .ok (.if_icmp .ge 31, 3) := by decide +kernel
theorem dX7_forceBehind_19 : decode cX7_forceBehind 19 = .ok (.iload_n 1, 1) := by decide +kernel
theorem dX7_forceBehind_20 : decode cX7_forceBehind 20 = .ok (.iload_n 3, 1) := by decide +kernel
theorem dX7_forceBehind_21 : decode cX7_forceBehind 21 = .ok (.invokestatic 188, 3) := by decide +kernel
theorem dX7_forceBehind_24 : decode cX7_forceBehind 24 = .ok (.ifCond .eq 15, 3) := by decide +kernel
theorem dX7_forceBehind_27 : decode cX7_forceBehind 27 = .ok (.aload_n 0, 1) := by decide +kernel
theorem dX7_forceBehind_28 : decode cX7_forceBehind 28 = .ok (.getfield 25, 3) := by decide +kernel
theorem dX7_forceBehind_31 : decode cX7_forceBehind 31 = .ok (.iload_n 3, 1) := by decide +kernel
theorem dX7_forceBehind_32 : decode cX7_forceBehind 32 = .ok (.iload_n 2, 1) := by decide +kernel
theorem dX7_forceBehind_33 : decode cX7_forceBehind 33 = .ok (.invokestatic 161, 3) := by decide +kernel
theorem dX7_forceBehind_36 : decode cX7_forceBehind 36 = .ok (.goto 4, 3) := by decide +kernel
theorem dX7_forceBehind_39 : decode cX7_forceBehind 39 = .ok (.iload_n 2, 1) := by decide +kernel
theorem dX7_forceBehind_40 : decode cX7_forceBehind 40 = .ok (.istore_n 2, 1) := by decide +kernel
theorem dX7_forceBehind_41 : decode cX7_forceBehind 41 = .ok (.iinc 3 1, 3) := by decide +kernel
theorem dX7_forceBehind_44 : decode cX7_forceBehind 44 = .ok (.goto (-35), 3) := by decide +kernel
theorem dX7_forceBehind_47 : decode cX7_forceBehind 47 = .ok (.iload_n 2, 1) := by decide +kernel
theorem dX7_forceBehind_48 : decode cX7_forceBehind 48 = .ok (.ireturn, 1) := by decide +kernel
set_option maxRecDepth 20000 in
theorem ggX7_list_X7_isCoast : GoodIn wsX7_list wsX7_isCoast := goodIn_r _ [9, 4, 35, 36, 37, 38, 39, 40, 41, 42, 43, 44, 45, 46, 47, 48, 49, 50, 51, 52, 53, 54, 55, 56, 57, 58, 59, 60, 61, 62] (by decide +kernel) (by decide +kernel)
set_option maxRecDepth 20000 in
theorem gX7_list_X7_isCoast : GoodIn wsX7_list (wsV RX7 166 RX7 yX7_isCoast wsX7_isCoast) := goodIn_app (goodIn_of _ (by decide +kernel)) ggX7_list_X7_isCoast
set_option maxRecDepth 20000 in
theorem ggX7_list_X7_in : GoodIn wsX7_list wsX7_in := goodIn_r _ [12] (by decide +kernel) (by decide +kernel)
set_option maxRecDepth 20000 in
theorem gX7_list_X7_in : GoodIn wsX7_list (va_wsS RX7 65 yX7_in wsX7_in) := goodIn_app (goodIn_of _ (by decide +kernel)) ggX7_list_X7_in
set_option maxRecDepth 20000 in
theorem ggX7_list_X7_ones : GoodIn wsX7_list wsX7_ones := goodIn_r _ [15] (by decide +kernel) (by decide +kernel)
set_option maxRecDepth 20000 in
theorem gX7_list_X7_ones : GoodIn wsX7_list (va_wsS RX7 192 yX7_ones wsX7_ones) := goodIn_app (goodIn_of _ (by decide +kernel)) ggX7_list_X7_ones
set_option maxRecDepth 20000 in
theorem ggX7_list_X7_forceBehind : GoodIn wsX7_list wsX7_forceBehind := goodIn_r _ [19, 4, 20, 21, 8, 22, 23, 24, 25, 26, 27, 28, 29, 30, 31, 32, 33, 34, 35, 36, 37, 38, 39, 40, 41, 42, 43, 44, 45, 46, 47, 48, 49, 50, 51, 52, 53, 54, 55, 56, 57, 58, 59, 60, 61, 62] (by decide +kernel) (by decide +kernel)
set_option maxRecDepth 20000 in
theorem gX7_list_X7_forceBehind : GoodIn wsX7_list (wsV RX7 195 RX7 yX7_forceBehind wsX7_forceBehind) := goodIn_app (goodIn_of _ (by decide +kernel)) ggX7_list_X7_forceBehind
theorem dX7_list_0 : decode cX7_list 0 = .ok (.aload_n 0, 1) := by decide +kernel
theorem dX7_list_1 : decode cX7_list 1 = .ok (.invokevirtual 166, 3) := by decide +kernel
theorem dX7_list_4 : decode cX7_list 4 = .ok (.ifCond .ne 6, 3) := by decide +kernel
theorem dX7_list_7 : decode cX7_list 7 = .ok (.ldc 169, 2) := by decide +kernel
theorem dX7_list_9 : decode cX7_list 9 = .ok (.ireturn, 1) := by decide +kernel
theorem dX7_list_10 : decode cX7_list 10 = .ok (.iload_n 1, 1) := by decide +kernel
theorem dX7_list_11 : decode cX7_list 11 = .ok (.iconst 0, 1) := by decide +kernel
theorem dX7_list_12 : decode cX7_list 12 = .ok (.bipush 60, 2) := by decide +kernel
theorem dX7_list_14 : decode cX7_list 14 = .ok (.invokestatic 65, 3) := by decide +kernel
theorem dX7_list_17 : decode cX7_list 17 = .ok (.ifCond .eq 12, 3) := by decide +kernel
theorem dX7_list_20 : decode cX7_list 20 = .ok (.iload_n 2, 1) := by decide +kernel
theorem dX7_list_21 : decode cX7_list 21 = .ok (.iconst 0, 1) := by decide +kernel
theorem dX7_list_22 : decode cX7_list 22 = .ok (.iconst 1, 1) := by decide +kernel
theorem dX7_list_23 : decode cX7_list 23 = .ok (.invokestatic 65, 3) := by decide +kernel
theorem dX7_list_26 : decode cX7_list 26 = .ok (.ifCond .ne 6, 3) := by decide +kernel
theorem dX7_list_29 : decode cX7_list 29 = .ok (.ldc 73, 2) := by decide +kernel
theorem dX7_list_31 : decode cX7_list 31 = .ok (.ireturn, 1) := by decide +kernel
theorem dX7_list_32 : decode cX7_list 32 = .ok (.ldc 59, 2) := by decide +kernel
theorem dX7_list_34 : decode cX7_list 34 = .ok (.istore_n 3, 1) := by decide +kernel
theorem dX7_list_35 : decode cX7_list 35 = .ok (.iconst 0, 1) := by decide +kernel
theorem dX7_list_36 : decode cX7_list 36 = .ok (.istore 4, 2) := by decide +kernel
theorem dX7_list_38 : decode cX7_list 38 = .ok (.iload 4, 2) := by decide +kernel
theorem dX7_list_40 : decode cX7_list 40 = .ok (.iconst 1, 1) := by decide +kernel
theorem dX7_list_41 : decode cX7_list 41 = .ok (.aload_n 0, 1) := by decide +kernel
theorem dX7_list_42 : decode cX7_list 42 = .ok (.getfield 25, 3) := by decide +kernel
theorem dX7_list_45 : decode cX7_list 45 = .ok (.iconst 2, 1) := by decide +kernel
theorem dX7_list_46 : decode cX7_list 46 = .ok (.iaload, 1) := by decide +kernel
theorem dX7_list_47 : decode cX7_list 47 = .ok (.ishl, 1) := by decide +kernel
theorem dX7_list_48 : decode cX7_list 48 = .ok (.if_icmp .ge 56, 3) := by decide +kernel
theorem dX7_list_51 : decode cX7_list 51 = .ok (.iload_n 3, 1) := by decide +kernel
theorem dX7_list_52 : decode cX7_list 52 = .ok (.ldc 59, 2) := by decide +kernel
theorem dX7_list_54 : decode cX7_list 54 = .ok (.if_icmp .eq 15, 3) := by decide +kernel
theorem dX7_list_57 : decode cX7_list 57 = .ok (.iload 4, 2) := by decide +kernel
theorem dX7_list_59 : decode cX7_list 59 = .ok (.invokestatic 192, 3) := by decide +kernel
theorem dX7_list_62 : decode cX7_list 62 = .ok (.iload_n 3, 1) := by decide +kernel
theorem dX7_list_63 : decode cX7_list 63 = .ok (.invokestatic 192, 3) := by decide +kernel
theorem dX7_list_66 : decode cX7_list 66 = .ok (.if_icmp .ge 7, 3) := by decide +kernel
theorem dX7_list_69 : decode cX7_list 69 = .ok (.iconst 1, 1) := by decide +kernel
theorem dX7_list_70 : decode cX7_list 70 = .ok (.goto 4, 3) := by decide +kernel
theorem dX7_list_73 : decode cX7_list 73 = .ok (.iconst 0, 1) := by decide +kernel
theorem dX7_list_74 : decode cX7_list 74 = .ok (.istore 5, 2) := by decide +kernel
theorem dX7_list_76 : decode cX7_list 76 = .ok (.iload 5, 2) := by decide +kernel
theorem dX7_list_78 : decode cX7_list 78 = .ok (.ifCond .eq 18, 3) := by decide +kernel
theorem dX7_list_81 : decode cX7_list 81 = .ok (.aload_n 0, 1) := by decide +kernel
theorem dX7_list_82 : decode cX7_list 82 = .ok (.iload 4, 2) := by decide +kernel
theorem dX7_list_84 : decode cX7_list 84 = .ok (.invokevirtual 195, 3) := by decide +kernel
theorem dX7_list_87 : decode cX7_list 87 = .ok (.iload_n 1, 1) := by decide +kernel
theorem dX7_list_88 : decode cX7_list 88 = .ok (.if_icmp .gt 8, 3) := by decide +kernel
theorem dX7_list_91 : decode cX7_list 91 = .ok (.iload 4, 2) := by decide +kernel
theorem dX7_list_93 : decode cX7_list 93 = .ok (.goto 4, 3) := by decide +kernel
theorem dX7_list_96 : decode cX7_list 96 = .ok (.iload_n 3, 1) := by decide +kernel
theorem dX7_list_97 : decode cX7_list 97 = .ok (.istore_n 3, 1) := by decide +kernel
theorem dX7_list_98 : decode cX7_list 98 = .ok (.iinc 4 1, 3) := by decide +kernel
theorem dX7_list_101 : decode cX7_list 101 = .ok (.goto (-63), 3) := by decide +kernel
theorem dX7_list_104 : decode cX7_list 104 = .ok (.iload_n 3, 1) := by decide +kernel
theorem dX7_list_105 : decode cX7_list 105 = .ok (.ldc 59, 2) := by decide +kernel
theorem dX7_list_107 : decode cX7_list 107 = .ok (.if_icmp .eq 8, 3) := by decide +kernel
theorem dX7_list_110 : decode cX7_list 110 = .ok (.iload_n 2, 1) := by decide +kernel
theorem dX7_list_111 : decode cX7_list 111 = .ok (.iconst 1, 1) := by decide +kernel
theorem dX7_list_112 : decode cX7_list 112 = .ok (.if_icmp .ne 7, 3) := by decide +kernel
theorem dX7_list_115 : decode cX7_list 115 = .ok (.iload_n 3, 1) := by decide +kernel
theorem dX7_list_116 : decode cX7_list 116 = .ok (.goto 7, 3) := by decide +kernel
theorem dX7_list_119 : decode cX7_list 119 = .ok (.iload_n 3, 1) := by decide +kernel
theorem dX7_list_120 : decode cX7_list 120 = .ok (.invokestatic 192, 3) := by decide +kernel
theorem dX7_list_123 : decode cX7_list 123 = .ok (.ireturn, 1) := by decide +kernel
theorem dX7_ranks_0 : decode cX7_ranks 0 = .ok (.aload_n 0, 1) := by decide +kernel
theorem dX7_ranks_1 : decode cX7_ranks 1 = .ok (.getfield 50, 3) := by decide +kernel
theorem dX7_ranks_4 : decode cX7_ranks 4 = .ok (.iload_n 1, 1) := by decide +kernel
theorem dX7_ranks_5 : decode cX7_ranks 5 = .ok (.iaload, 1) := by decide +kernel
theorem dX7_ranks_6 : decode cX7_ranks 6 = .ok (.aload_n 0, 1) := by decide +kernel
theorem dX7_ranks_7 : decode cX7_ranks 7 = .ok (.getfield 198, 3) := by decide +kernel
theorem dX7_ranks_10 : decode cX7_ranks 10 = .ok (.if_icmp .lt 24, 3) := by decide +kernel
theorem dX7_ranks_13 : decode cX7_ranks 13 = .ok (.aload_n 0, 1) := by decide +kernel
theorem dX7_ranks_14 : decode cX7_ranks 14 = .ok (.getfield 50, 3) := by decide +kernel
theorem dX7_ranks_17 : decode cX7_ranks 17 = .ok (.iload_n 1, 1) := by decide +kernel
theorem dX7_ranks_18 : decode cX7_ranks 18 = .ok (.iaload, 1) := by decide +kernel
theorem dX7_ranks_19 : decode cX7_ranks 19 = .ok (.aload_n 0, 1) := by decide +kernel
theorem dX7_ranks_20 : decode cX7_ranks 20 = .ok (.getfield 198, 3) := by decide +kernel
theorem dX7_ranks_23 : decode cX7_ranks 23 = .ok (.if_icmp .ne 51, 3) := by decide +kernel
theorem dX7_ranks_26 : decode cX7_ranks 26 = .ok (.iload_n 1, 1) := by decide +kernel
theorem dX7_ranks_27 : decode cX7_ranks 27 = .ok (.aload_n 0, 1) := by decide +kernel
theorem dX7_ranks_28 : decode cX7_ranks 28 = .ok (.getfield 201, 3) := by decide +kernel
theorem dX7_ranks_31 : decode cX7_ranks 31 = .ok (.if_icmp .ge 43, 3) := by decide +kernel
theorem dX7_ranks_34 : decode cX7_ranks 34 = .ok (.aload_n 0, 1) := by decide +kernel
theorem dX7_ranks_35 : decode cX7_ranks 35 = .ok (.aload_n 0, 1) := by decide +kernel
theorem dX7_ranks_36 : decode cX7_ranks 36 = .ok (.getfield 50, 3) := by decide +kernel
theorem dX7_ranks_39 : decode cX7_ranks 39 = .ok (.iload_n 1, 1) := by decide +kernel
theorem dX7_ranks_40 : decode cX7_ranks 40 = .ok (.iaload, 1) := by decide +kernel
theorem dX7_ranks_41 : decode cX7_ranks 41 = .ok (.putfield 198, 3) := by decide +kernel
theorem dX7_ranks_44 : decode cX7_ranks 44 = .ok (.aload_n 0, 1) := by decide +kernel
theorem dX7_ranks_45 : decode cX7_ranks 45 = .ok (.iload_n 1, 1) := by decide +kernel
theorem dX7_ranks_46 : decode cX7_ranks 46 = .ok (.putfield 201, 3) := by decide +kernel
theorem dX7_ranks_49 : decode cX7_ranks 49 = .ok (.iconst 0, 1) := by decide +kernel
theorem dX7_ranks_50 : decode cX7_ranks 50 = .ok (.istore_n 2, 1) := by decide +kernel
theorem dX7_ranks_51 : decode cX7_ranks 51 = .ok (.iload_n 2, 1) := by decide +kernel
theorem dX7_ranks_52 : decode cX7_ranks 52 = .ok (.iload_n 1, 1) := by decide +kernel
theorem dX7_ranks_53 : decode cX7_ranks 53 = .ok (.if_icmp .ge 21, 3) := by decide +kernel
theorem dX7_ranks_56 : decode cX7_ranks 56 = .ok (.aload_n 0, 1) := by decide +kernel
theorem dX7_ranks_57 : decode cX7_ranks 57 = .ok (.getfield 53, 3) := by decide +kernel
theorem dX7_ranks_60 : decode cX7_ranks 60 = .ok (.iload_n 2, 1) := by decide +kernel
theorem dX7_ranks_61 : decode cX7_ranks 61 = .ok (.aload_n 0, 1) := by decide +kernel
theorem dX7_ranks_62 : decode cX7_ranks 62 = .ok (.getfield 44, 3) := by decide +kernel
theorem dX7_ranks_65 : decode cX7_ranks 65 = .ok (.iload_n 2, 1) := by decide +kernel
theorem dX7_ranks_66 : decode cX7_ranks 66 = .ok (.iaload, 1) := by decide +kernel
theorem dX7_ranks_67 : decode cX7_ranks 67 = .ok (.iastore, 1) := by decide +kernel
theorem dX7_ranks_68 : decode cX7_ranks 68 = .ok (.iinc 2 1, 3) := by decide +kernel
theorem dX7_ranks_71 : decode cX7_ranks 71 = .ok (.goto (-20), 3) := by decide +kernel
theorem dX7_ranks_74 : decode cX7_ranks 74 = .ok (.return_, 1) := by decide +kernel
set_option maxRecDepth 20000 in
theorem ggX7_orders_X7_has : GoodIn wsX7_orders wsX7_has := goodIn_r _ [10] (by decide +kernel) (by decide +kernel)
set_option maxRecDepth 20000 in
theorem gX7_orders_X7_has : GoodIn wsX7_orders (va_wsS RX7 188 yX7_has wsX7_has) := goodIn_app (goodIn_of _ (by decide +kernel)) ggX7_orders_X7_has
set_option maxRecDepth 20000 in
theorem ggX7_orders_X7_forceOf : GoodIn wsX7_orders wsX7_forceOf := goodIn_r _ [13, 14, 15, 9, 16, 17, 18, 19, 20, 21, 22] (by decide +kernel) (by decide +kernel)
set_option maxRecDepth 20000 in
theorem gX7_orders_X7_forceOf : GoodIn wsX7_orders (va_wsS RX7 161 yX7_forceOf wsX7_forceOf) := goodIn_app (goodIn_of _ (by decide +kernel)) ggX7_orders_X7_forceOf
set_option maxRecDepth 20000 in
theorem ggX7_orders_X7_ranks : GoodIn wsX7_orders wsX7_ranks := goodIn_r _ [26, 1, 4, 5, 27, 6, 28, 29, 30, 31, 32, 33, 34, 35, 36, 37, 38, 39, 40, 41, 42, 43, 44, 45, 46, 47, 48, 49, 50, 51, 52, 53, 54, 55] (by decide +kernel) (by decide +kernel)
set_option maxRecDepth 20000 in
theorem gX7_orders_X7_ranks : GoodIn wsX7_orders (wsV RX7 204 RX7 yX7_ranks wsX7_ranks) := goodIn_app (goodIn_of _ (by decide +kernel)) ggX7_orders_X7_ranks
theorem dX7_orders_0 : decode cX7_orders 0 = .ok (.iconst 0, 1) := by decide +kernel
theorem dX7_orders_1 : decode cX7_orders 1 = .ok (.istore_n 1, 1) := by decide +kernel
theorem dX7_orders_2 : decode cX7_orders 2 = .ok (.iconst 0, 1) := by decide +kernel
theorem dX7_orders_3 : decode cX7_orders 3 = .ok (.istore_n 2, 1) := by decide +kernel
theorem dX7_orders_4 : decode cX7_orders 4 = .ok (.aload_n 0, 1) := by decide +kernel
theorem dX7_orders_5 : decode cX7_orders 5 = .ok (.getfield 50, 3) := by decide +kernel
theorem dX7_orders_8 : decode cX7_orders 8 = .ok (.iconst 0, 1) := by decide +kernel
theorem dX7_orders_9 : decode cX7_orders 9 = .ok (.aload_n 0, 1) := by decide +kernel
theorem dX7_orders_10 : decode cX7_orders 10 = .ok (.getfield 25, 3) := by decide +kernel
theorem dX7_orders_13 : decode cX7_orders 13 = .ok (.iconst 0, 1) := by decide +kernel
theorem dX7_orders_14 : decode cX7_orders 14 = .ok (.iaload, 1) := by decide +kernel
theorem dX7_orders_15 : decode cX7_orders 15 = .ok (.iastore, 1) := by decide +kernel
theorem dX7_orders_16 : decode cX7_orders 16 = .ok (.aload_n 0, 1) := by decide +kernel
theorem dX7_orders_17 : decode cX7_orders 17 = .ok (.getfield 47, 3) := by decide +kernel
theorem dX7_orders_20 : decode cX7_orders 20 = .ok (.iconst 0, 1) := by decide +kernel
theorem dX7_orders_21 : decode cX7_orders 21 = .ok (.iconst 0, 1) := by decide +kernel
theorem dX7_orders_22 : decode cX7_orders 22 = .ok (.iastore, 1) := by decide +kernel
theorem dX7_orders_23 : decode cX7_orders 23 = .ok (.aload_n 0, 1) := by decide +kernel
theorem dX7_orders_24 : decode cX7_orders 24 = .ok (.aload_n 0, 1) := by decide +kernel
theorem dX7_orders_25 : decode cX7_orders 25 = .ok (.getfield 25, 3) := by decide +kernel
theorem dX7_orders_28 : decode cX7_orders 28 = .ok (.iconst 0, 1) := by decide +kernel
theorem dX7_orders_29 : decode cX7_orders 29 = .ok (.iaload, 1) := by decide +kernel
theorem dX7_orders_30 : decode cX7_orders 30 = .ok (.putfield 198, 3) := by decide +kernel
theorem dX7_orders_33 : decode cX7_orders 33 = .ok (.aload_n 0, 1) := by decide +kernel
theorem dX7_orders_34 : decode cX7_orders 34 = .ok (.iconst 0, 1) := by decide +kernel
theorem dX7_orders_35 : decode cX7_orders 35 = .ok (.putfield 201, 3) := by decide +kernel
theorem dX7_orders_38 : decode cX7_orders 38 = .ok (.iload_n 1, 1) := by decide +kernel
theorem dX7_orders_39 : decode cX7_orders 39 = .ok (.ifCond .lt 123, 3) := by decide +kernel
theorem dX7_orders_42 : decode cX7_orders 42 = .ok (.aload_n 0, 1) := by decide +kernel
theorem dX7_orders_43 : decode cX7_orders 43 = .ok (.getfield 47, 3) := by decide +kernel
theorem dX7_orders_46 : decode cX7_orders 46 = .ok (.iload_n 1, 1) := by decide +kernel
theorem dX7_orders_47 : decode cX7_orders 47 = .ok (.iaload, 1) := by decide +kernel
theorem dX7_orders_48 : decode cX7_orders 48 = .ok (.aload_n 0, 1) := by decide +kernel
theorem dX7_orders_49 : decode cX7_orders 49 = .ok (.getfield 25, 3) := by decide +kernel
theorem dX7_orders_52 : decode cX7_orders 52 = .ok (.iconst 2, 1) := by decide +kernel
theorem dX7_orders_53 : decode cX7_orders 53 = .ok (.iaload, 1) := by decide +kernel
theorem dX7_orders_54 : decode cX7_orders 54 = .ok (.if_icmp .ne 30, 3) := by decide +kernel
theorem dX7_orders_57 : decode cX7_orders 57 = .ok (.iinc 1 (-1), 3) := by decide +kernel
theorem dX7_orders_60 : decode cX7_orders 60 = .ok (.iload_n 2, 1) := by decide +kernel
theorem dX7_orders_61 : decode cX7_orders 61 = .ok (.iload_n 1, 1) := by decide +kernel
theorem dX7_orders_62 : decode cX7_orders 62 = .ok (.ifCond .lt 16, 3) := by decide +kernel
theorem dX7_orders_65 : decode cX7_orders 65 = .ok (.iconst 1, 1) := by decide +kernel
theorem dX7_orders_66 : decode cX7_orders 66 = .ok (.aload_n 0, 1) := by decide +kernel
theorem dX7_orders_67 : decode cX7_orders 67 = .ok (.getfield 44, 3) := by decide +kernel
theorem dX7_orders_70 : decode cX7_orders 70 = .ok (.iload_n 1, 1) := by decide +kernel
theorem dX7_orders_71 : decode cX7_orders 71 = .ok (.iaload, 1) := by decide +kernel
theorem dX7_orders_72 : decode cX7_orders 72 = .ok (.ishl, 1) := by decide +kernel
theorem dX7_orders_73 : decode cX7_orders 73 = .ok (.iconst (-1), 1) := by decide +kernel
theorem dX7_orders_74 : decode cX7_orders 74 = .ok (.ixor, 1) := by decide +kernel
theorem dX7_orders_75 : decode cX7_orders 75 = .ok (.goto 4, 3) := by decide +kernel
theorem dX7_orders_78 : decode cX7_orders 78 = .ok (.iload_n 2, 1) := by decide +kernel
theorem dX7_orders_79 : decode cX7_orders 79 = .ok (.iand, 1) := by decide +kernel
theorem dX7_orders_80 : decode cX7_orders 80 = .ok (.istore_n 2, 1) := by decide +kernel
theorem dX7_orders_81 : decode cX7_orders 81 = .ok (.goto (-43), 3) := by decide +kernel
theorem dX7_orders_84 : decode cX7_orders 84 = .ok (.aload_n 0, 1) := by decide +kernel
theorem dX7_orders_85 : decode cX7_orders 85 = .ok (.getfield 47, 3) := by decide +kernel
theorem dX7_orders_88 : decode cX7_orders 88 = .ok (.iload_n 1, 1) := by decide +kernel
theorem dX7_orders_89 : decode cX7_orders 89 = .ok (.iaload, 1) := by decide +kernel
theorem dX7_orders_90 : decode cX7_orders 90 = .ok (.istore_n 3, 1) := by decide +kernel
theorem dX7_orders_91 : decode cX7_orders 91 = .ok (.aload_n 0, 1) := by decide +kernel
theorem dX7_orders_92 : decode cX7_orders 92 = .ok (.getfield 47, 3) := by decide +kernel
theorem dX7_orders_95 : decode cX7_orders 95 = .ok (.iload_n 1, 1) := by decide +kernel
theorem dX7_orders_96 : decode cX7_orders 96 = .ok (.dup2, 1) := by decide +kernel
theorem dX7_orders_97 : decode cX7_orders 97 = .ok (.iaload, 1) := by decide +kernel
theorem dX7_orders_98 : decode cX7_orders 98 = .ok (.iconst 1, 1) := by decide +kernel
theorem dX7_orders_99 : decode cX7_orders 99 = .ok (.iadd, 1) := by decide +kernel
theorem dX7_orders_100 : decode cX7_orders 100 = .ok (.iastore, 1) := by decide +kernel
theorem dX7_orders_101 : decode cX7_orders 101 = .ok (.iload_n 2, 1) := by decide +kernel
theorem dX7_orders_102 : decode cX7_orders 102 = .ok (.iload_n 3, 1) := by decide +kernel
theorem dX7_orders_103 : decode cX7_orders 103 = .ok (.invokestatic 188, 3) := by decide +kernel
theorem dX7_orders_106 : decode cX7_orders 106 = .ok (.ifCond .ne 53, 3) := by decide +kernel
theorem dX7_orders_109 : decode cX7_orders 109 = .ok (.aload_n 0, 1) := by decide +kernel
theorem dX7_orders_110 : decode cX7_orders 110 = .ok (.getfield 44, 3) := by decide +kernel
theorem dX7_orders_113 : decode cX7_orders 113 = .ok (.iload_n 1, 1) := by decide +kernel
theorem dX7_orders_114 : decode cX7_orders 114 = .ok (.iload_n 3, 1) := by decide +kernel
theorem dX7_orders_115 : decode cX7_orders 115 = .ok (.iastore, 1) := by decide +kernel
theorem dX7_orders_116 : decode cX7_orders 116 = .ok (.iload_n 2, 1) := by decide +kernel
theorem dX7_orders_117 : decode cX7_orders 117 = .ok (.iconst 1, 1) := by decide +kernel
theorem dX7_orders_118 : decode cX7_orders 118 = .ok (.iload_n 3, 1) := by decide +kernel
theorem dX7_orders_119 : decode cX7_orders 119 = .ok (.ishl, 1) := by decide +kernel
theorem dX7_orders_120 : decode cX7_orders 120 = .ok (.ior, 1) := by decide +kernel
theorem dX7_orders_121 : decode cX7_orders 121 = .ok (.istore_n 2, 1) := by decide +kernel
theorem dX7_orders_122 : decode cX7_orders 122 = .ok (.aload_n 0, 1) := by decide +kernel
theorem dX7_orders_123 : decode cX7_orders 123 = .ok (.getfield 50, 3) := by decide +kernel
theorem dX7_orders_126 : decode cX7_orders 126 = .ok (.iload_n 1, 1) := by decide +kernel
theorem dX7_orders_127 : decode cX7_orders 127 = .ok (.iconst 1, 1) := by decide +kernel
theorem dX7_orders_128 : decode cX7_orders 128 = .ok (.iadd, 1) := by decide +kernel
theorem dX7_orders_129 : decode cX7_orders 129 = .ok (.aload_n 0, 1) := by decide +kernel
theorem dX7_orders_130 : decode cX7_orders 130 = .ok (.getfield 25, 3) := by decide +kernel
theorem dX7_orders_133 : decode cX7_orders 133 = .ok (.iload_n 3, 1) := by decide +kernel
theorem dX7_orders_134 : decode cX7_orders 134 = .ok (.aload_n 0, 1) := by decide +kernel
theorem dX7_orders_135 : decode cX7_orders 135 = .ok (.getfield 50, 3) := by decide +kernel
theorem dX7_orders_138 : decode cX7_orders 138 = .ok (.iload_n 1, 1) := by decide +kernel
theorem dX7_orders_139 : decode cX7_orders 139 = .ok (.iaload, 1) := by decide +kernel
theorem dX7_orders_140 : decode cX7_orders 140 = .ok (.invokestatic 161, 3) := by decide +kernel
theorem dX7_orders_143 : decode cX7_orders 143 = .ok (.iastore, 1) := by decide +kernel
theorem dX7_orders_144 : decode cX7_orders 144 = .ok (.iinc 1 1, 3) := by decide +kernel
theorem dX7_orders_147 : decode cX7_orders 147 = .ok (.aload_n 0, 1) := by decide +kernel
theorem dX7_orders_148 : decode cX7_orders 148 = .ok (.getfield 47, 3) := by decide +kernel
theorem dX7_orders_151 : decode cX7_orders 151 = .ok (.iload_n 1, 1) := by decide +kernel
theorem dX7_orders_152 : decode cX7_orders 152 = .ok (.iconst 0, 1) := by decide +kernel
theorem dX7_orders_153 : decode cX7_orders 153 = .ok (.iastore, 1) := by decide +kernel
theorem dX7_orders_154 : decode cX7_orders 154 = .ok (.aload_n 0, 1) := by decide +kernel
theorem dX7_orders_155 : decode cX7_orders 155 = .ok (.iload_n 1, 1) := by decide +kernel
theorem dX7_orders_156 : decode cX7_orders 156 = .ok (.invokevirtual 204, 3) := by decide +kernel
theorem dX7_orders_159 : decode cX7_orders 159 = .ok (.goto (-121), 3) := by decide +kernel
theorem dX7_orders_162 : decode cX7_orders 162 = .ok (.return_, 1) := by decide +kernel
set_option maxRecDepth 20000 in
theorem ggX7_order_X7_isCoast : GoodIn wsX7_order wsX7_isCoast := goodIn_r _ [11, 12, 39, 40, 41, 42, 43, 44, 45, 46, 47, 48, 49, 50, 51, 52, 53, 54, 55, 56, 57, 58, 59, 60, 61, 62, 63, 64, 65, 66] (by decide +kernel) (by decide +kernel)
set_option maxRecDepth 20000 in
theorem gX7_order_X7_isCoast : GoodIn wsX7_order (wsV RX7 166 RX7 yX7_isCoast wsX7_isCoast) := goodIn_app (goodIn_of _ (by decide +kernel)) ggX7_order_X7_isCoast
set_option maxRecDepth 20000 in
theorem ggX7_order_X7_orders : GoodIn wsX7_order wsX7_orders := goodIn_r _ [16, 17, 12, 18, 3, 4, 19, 20, 21, 10, 22, 23, 24, 25, 26, 27, 28, 29, 30, 31, 32, 33, 34, 35, 36, 37, 38, 5, 39, 40, 41, 42, 43, 44, 45, 46, 47, 48, 49, 50, 51, 52, 53, 54, 55, 56, 57, 58, 59, 60, 61, 62, 63, 64, 65, 66] (by decide +kernel) (by decide +kernel)
set_option maxRecDepth 20000 in
theorem gX7_order_X7_orders : GoodIn wsX7_order (wsV RX7 207 RX7 yX7_orders wsX7_orders) := goodIn_app (goodIn_of _ (by decide +kernel)) ggX7_order_X7_orders
theorem dX7_order_0 : decode cX7_order 0 = .ok (.aload_n 0, 1) := by decide +kernel
theorem dX7_order_1 : decode cX7_order 1 = .ok (.invokevirtual 166, 3) := by decide +kernel
theorem dX7_order_4 : decode cX7_order 4 = .ok (.ifCond .ne 6, 3) := by decide +kernel
theorem dX7_order_7 : decode cX7_order 7 = .ok (.ldc 169, 2) := by decide +kernel
theorem dX7_order_9 : decode cX7_order 9 = .ok (.ireturn, 1) := by decide +kernel
theorem dX7_order_10 : decode cX7_order 10 = .ok (.iload_n 1, 1) := by decide +kernel
theorem dX7_order_11 : decode cX7_order 11 = .ok (.iconst (-1), 1) := by decide +kernel
theorem dX7_order_12 : decode cX7_order 12 = .ok (.if_icmp .ge 6, 3) := by decide +kernel
theorem dX7_order_15 : decode cX7_order 15 = .ok (.ldc 73, 2) := by decide +kernel
theorem dX7_order_17 : decode cX7_order 17 = .ok (.ireturn, 1) := by decide +kernel
theorem dX7_order_18 : decode cX7_order 18 = .ok (.aload_n 0, 1) := by decide +kernel
theorem dX7_order_19 : decode cX7_order 19 = .ok (.invokevirtual 207, 3) := by decide +kernel
theorem dX7_order_22 : decode cX7_order 22 = .ok (.iload_n 1, 1) := by decide +kernel
theorem dX7_order_23 : decode cX7_order 23 = .ok (.iconst (-1), 1) := by decide +kernel
theorem dX7_order_24 : decode cX7_order 24 = .ok (.if_icmp .ne 10, 3) := by decide +kernel
theorem dX7_order_27 : decode cX7_order 27 = .ok (.aload_n 0, 1) := by decide +kernel
theorem dX7_order_28 : decode cX7_order 28 = .ok (.getfield 198, 3) := by decide +kernel
theorem dX7_order_31 : decode cX7_order 31 = .ok (.goto 22, 3) := by decide +kernel
theorem dX7_order_34 : decode cX7_order 34 = .ok (.iload_n 1, 1) := by decide +kernel
theorem dX7_order_35 : decode cX7_order 35 = .ok (.aload_n 0, 1) := by decide +kernel
theorem dX7_order_36 : decode cX7_order 36 = .ok (.getfield 201, 3) := by decide +kernel
theorem dX7_order_39 : decode cX7_order 39 = .ok (.if_icmp .ge 12, 3) := by decide +kernel
theorem dX7_order_42 : decode cX7_order 42 = .ok (.aload_n 0, 1) := by decide +kernel
theorem dX7_order_43 : decode cX7_order 43 = .ok (.getfield 53, 3) := by decide +kernel
theorem dX7_order_46 : decode cX7_order 46 = .ok (.iload_n 1, 1) := by decide +kernel
theorem dX7_order_47 : decode cX7_order 47 = .ok (.iaload, 1) := by decide +kernel
theorem dX7_order_48 : decode cX7_order 48 = .ok (.goto 5, 3) := by decide +kernel
theorem dX7_order_51 : decode cX7_order 51 = .ok (.ldc 59, 2) := by decide +kernel
theorem dX7_order_53 : decode cX7_order 53 = .ok (.ireturn, 1) := by decide +kernel
set_option maxRecDepth 20000 in
theorem ggX7_lostBy_X7_copies : GoodIn wsX7_lostBy wsX7_copies := goodIn_r _ [6] (by decide +kernel) (by decide +kernel)
set_option maxRecDepth 20000 in
theorem gX7_lostBy_X7_copies : GoodIn wsX7_lostBy (va_wsS RX7 144 yX7_copies wsX7_copies) := goodIn_app (goodIn_of _ (by decide +kernel)) ggX7_lostBy_X7_copies
set_option maxRecDepth 20000 in
theorem ggX7_lostBy_X7_confesses : GoodIn wsX7_lostBy wsX7_confesses := goodIn_r _ [9, 10, 11, 5, 12, 13, 14, 15, 16, 17, 18, 19, 20, 21] (by decide +kernel) (by decide +kernel)
set_option maxRecDepth 20000 in
theorem gX7_lostBy_X7_confesses : GoodIn wsX7_lostBy (va_wsS RX7 180 yX7_confesses wsX7_confesses) := goodIn_app (goodIn_of _ (by decide +kernel)) ggX7_lostBy_X7_confesses
set_option maxRecDepth 20000 in
theorem ggX7_lostBy_X7_goesOn : GoodIn wsX7_lostBy wsX7_goesOn := goodIn_r _ [25, 2, 26, 27, 5, 28, 29, 16, 17, 18, 30, 31, 32, 33, 34, 35, 36, 37, 38, 39, 40, 41, 42, 43, 44, 45, 46, 47, 48, 49, 50, 51, 52, 53, 54, 55, 56, 57, 58, 59, 60] (by decide +kernel) (by decide +kernel)
set_option maxRecDepth 20000 in
theorem gX7_lostBy_X7_goesOn : GoodIn wsX7_lostBy (wsV RX7 184 RX7 yX7_goesOn wsX7_goesOn) := goodIn_app (goodIn_of _ (by decide +kernel)) ggX7_lostBy_X7_goesOn
theorem dX7_lostBy_0 : decode cX7_lostBy 0 = .ok (.aload_n 0, 1) := by decide +kernel
theorem dX7_lostBy_1 : decode cX7_lostBy 1 = .ok (.getfield 25, 3) := by decide +kernel
theorem dX7_lostBy_4 : decode cX7_lostBy 4 = .ok (.iconst 0, 1) := by decide +kernel
theorem dX7_lostBy_5 : decode cX7_lostBy 5 = .ok (.aload_n 0, 1) := by decide +kernel
theorem dX7_lostBy_6 : decode cX7_lostBy 6 = .ok (.getfield 31, 3) := by decide +kernel
theorem dX7_lostBy_9 : decode cX7_lostBy 9 = .ok (.iconst 0, 1) := by decide +kernel
theorem dX7_lostBy_10 : decode cX7_lostBy 10 = .ok (.invokestatic 144, 3) := by decide +kernel
theorem dX7_lostBy_13 : decode cX7_lostBy 13 = .ok (.aload_n 0, 1) := by decide +kernel
theorem dX7_lostBy_14 : decode cX7_lostBy 14 = .ok (.getfield 31, 3) := by decide +kernel
theorem dX7_lostBy_17 : decode cX7_lostBy 17 = .ok (.bipush 6, 2) := by decide +kernel
theorem dX7_lostBy_19 : decode cX7_lostBy 19 = .ok (.iconst 0, 1) := by decide +kernel
theorem dX7_lostBy_20 : decode cX7_lostBy 20 = .ok (.iastore, 1) := by decide +kernel
theorem dX7_lostBy_21 : decode cX7_lostBy 21 = .ok (.iload_n 1, 1) := by decide +kernel
theorem dX7_lostBy_22 : decode cX7_lostBy 22 = .ok (.ifCond .lt 11, 3) := by decide +kernel
theorem dX7_lostBy_25 : decode cX7_lostBy 25 = .ok (.aload_n 0, 1) := by decide +kernel
theorem dX7_lostBy_26 : decode cX7_lostBy 26 = .ok (.getfield 31, 3) := by decide +kernel
theorem dX7_lostBy_29 : decode cX7_lostBy 29 = .ok (.iload_n 1, 1) := by decide +kernel
theorem dX7_lostBy_30 : decode cX7_lostBy 30 = .ok (.invokestatic 180, 3) := by decide +kernel
theorem dX7_lostBy_33 : decode cX7_lostBy 33 = .ok (.aload_n 0, 1) := by decide +kernel
theorem dX7_lostBy_34 : decode cX7_lostBy 34 = .ok (.iload_n 2, 1) := by decide +kernel
theorem dX7_lostBy_35 : decode cX7_lostBy 35 = .ok (.invokevirtual 184, 3) := by decide +kernel
theorem dX7_lostBy_38 : decode cX7_lostBy 38 = .ok (.aload_n 0, 1) := by decide +kernel
theorem dX7_lostBy_39 : decode cX7_lostBy 39 = .ok (.getfield 31, 3) := by decide +kernel
theorem dX7_lostBy_42 : decode cX7_lostBy 42 = .ok (.bipush 6, 2) := by decide +kernel
theorem dX7_lostBy_44 : decode cX7_lostBy 44 = .ok (.iaload, 1) := by decide +kernel
theorem dX7_lostBy_45 : decode cX7_lostBy 45 = .ok (.ireturn, 1) := by decide +kernel
set_option maxRecDepth 20000 in
theorem ggX7_named_X7_isCoast : GoodIn wsX7_named wsX7_isCoast := goodIn_r _ [9, 4, 44, 45, 46, 47, 48, 49, 50, 51, 52, 53, 54, 55, 56, 57, 58, 59, 60, 61, 62, 63, 64, 65, 66, 67, 68, 69, 70, 71] (by decide +kernel) (by decide +kernel)
set_option maxRecDepth 20000 in
theorem gX7_named_X7_isCoast : GoodIn wsX7_named (wsV RX7 166 RX7 yX7_isCoast wsX7_isCoast) := goodIn_app (goodIn_of _ (by decide +kernel)) ggX7_named_X7_isCoast
set_option maxRecDepth 20000 in
theorem ggX7_named_X7_in : GoodIn wsX7_named wsX7_in := goodIn_r _ [12] (by decide +kernel) (by decide +kernel)
set_option maxRecDepth 20000 in
theorem gX7_named_X7_in : GoodIn wsX7_named (va_wsS RX7 65 yX7_in wsX7_in) := goodIn_app (goodIn_of _ (by decide +kernel)) ggX7_named_X7_in
set_option maxRecDepth 20000 in
theorem ggX7_named_X7_lostBy : GoodIn wsX7_named wsX7_lostBy := goodIn_r _ [16, 4, 17, 18, 19, 8, 20, 21, 22, 23, 24, 25, 26, 27, 28, 29, 30, 31, 32, 33, 34, 35, 36, 37, 38, 39, 40, 41, 42, 43, 10, 11, 12, 44, 45, 46, 47, 48, 49, 50, 51, 52, 53, 54, 55, 56, 57, 58, 59, 60, 61, 62, 63, 64, 65, 66, 67, 68, 69, 70, 71] (by decide +kernel) (by decide +kernel)
set_option maxRecDepth 20000 in
theorem gX7_named_X7_lostBy : GoodIn wsX7_named (wsV RX7 210 RX7 yX7_lostBy wsX7_lostBy) := goodIn_app (goodIn_of _ (by decide +kernel)) ggX7_named_X7_lostBy
set_option maxRecDepth 20000 in
theorem ggX7_named_X7_lesser : GoodIn wsX7_named wsX7_lesser := goodIn_r _ [32] (by decide +kernel) (by decide +kernel)
set_option maxRecDepth 20000 in
theorem gX7_named_X7_lesser : GoodIn wsX7_named (va_wsS RX7 151 yX7_lesser wsX7_lesser) := goodIn_app (goodIn_of _ (by decide +kernel)) ggX7_named_X7_lesser
theorem dX7_named_0 : decode cX7_named 0 = .ok (.aload_n 0, 1) := by decide +kernel
theorem dX7_named_1 : decode cX7_named 1 = .ok (.invokevirtual 166, 3) := by decide +kernel
theorem dX7_named_4 : decode cX7_named 4 = .ok (.ifCond .ne 6, 3) := by decide +kernel
theorem dX7_named_7 : decode cX7_named 7 = .ok (.ldc 169, 2) := by decide +kernel
theorem dX7_named_9 : decode cX7_named 9 = .ok (.ireturn, 1) := by decide +kernel
theorem dX7_named_10 : decode cX7_named 10 = .ok (.iload_n 1, 1) := by decide +kernel
theorem dX7_named_11 : decode cX7_named 11 = .ok (.iconst 1, 1) := by decide +kernel
theorem dX7_named_12 : decode cX7_named 12 = .ok (.bipush 30, 2) := by decide +kernel
theorem dX7_named_14 : decode cX7_named 14 = .ok (.invokestatic 65, 3) := by decide +kernel
theorem dX7_named_17 : decode cX7_named 17 = .ok (.ifCond .eq 12, 3) := by decide +kernel
theorem dX7_named_20 : decode cX7_named 20 = .ok (.iload_n 2, 1) := by decide +kernel
theorem dX7_named_21 : decode cX7_named 21 = .ok (.iconst 0, 1) := by decide +kernel
theorem dX7_named_22 : decode cX7_named 22 = .ok (.iconst 1, 1) := by decide +kernel
theorem dX7_named_23 : decode cX7_named 23 = .ok (.invokestatic 65, 3) := by decide +kernel
theorem dX7_named_26 : decode cX7_named 26 = .ok (.ifCond .ne 6, 3) := by decide +kernel
theorem dX7_named_29 : decode cX7_named 29 = .ok (.ldc 73, 2) := by decide +kernel
theorem dX7_named_31 : decode cX7_named 31 = .ok (.ireturn, 1) := by decide +kernel
theorem dX7_named_32 : decode cX7_named 32 = .ok (.ldc 59, 2) := by decide +kernel
theorem dX7_named_34 : decode cX7_named 34 = .ok (.istore_n 3, 1) := by decide +kernel
theorem dX7_named_35 : decode cX7_named 35 = .ok (.aload_n 0, 1) := by decide +kernel
theorem dX7_named_36 : decode cX7_named 36 = .ok (.iconst (-1), 1) := by decide +kernel
theorem dX7_named_37 : decode cX7_named 37 = .ok (.iload_n 1, 1) := by decide +kernel
theorem dX7_named_38 : decode cX7_named 38 = .ok (.invokevirtual 210, 3) := by decide +kernel
theorem dX7_named_41 : decode cX7_named 41 = .ok (.istore 4, 2) := by decide +kernel
theorem dX7_named_43 : decode cX7_named 43 = .ok (.iconst 0, 1) := by decide +kernel
theorem dX7_named_44 : decode cX7_named 44 = .ok (.istore 5, 2) := by decide +kernel
theorem dX7_named_46 : decode cX7_named 46 = .ok (.iload 5, 2) := by decide +kernel
theorem dX7_named_48 : decode cX7_named 48 = .ok (.aload_n 0, 1) := by decide +kernel
theorem dX7_named_49 : decode cX7_named 49 = .ok (.getfield 25, 3) := by decide +kernel
theorem dX7_named_52 : decode cX7_named 52 = .ok (.iconst 2, 1) := by decide +kernel
theorem dX7_named_53 : decode cX7_named 53 = .ok (.iaload, 1) := by decide +kernel
theorem dX7_named_54 : decode cX7_named 54 = .ok (.if_icmp .ge 41, 3) := by decide +kernel
theorem dX7_named_57 : decode cX7_named 57 = .ok (.aload_n 0, 1) := by decide +kernel
theorem dX7_named_58 : decode cX7_named 58 = .ok (.iload 5, 2) := by decide +kernel
theorem dX7_named_60 : decode cX7_named 60 = .ok (.iload_n 1, 1) := by decide +kernel
theorem dX7_named_61 : decode cX7_named 61 = .ok (.invokevirtual 210, 3) := by decide +kernel
theorem dX7_named_64 : decode cX7_named 64 = .ok (.istore 6, 2) := by decide +kernel
theorem dX7_named_66 : decode cX7_named 66 = .ok (.iload 6, 2) := by decide +kernel
theorem dX7_named_68 : decode cX7_named 68 = .ok (.iload 4, 2) := by decide +kernel
theorem dX7_named_70 : decode cX7_named 70 = .ok (.if_icmp .ge 8, 3) := by decide +kernel
theorem dX7_named_73 : decode cX7_named 73 = .ok (.iload 5, 2) := by decide +kernel
theorem dX7_named_75 : decode cX7_named 75 = .ok (.goto 4, 3) := by decide +kernel
theorem dX7_named_78 : decode cX7_named 78 = .ok (.iload_n 3, 1) := by decide +kernel
theorem dX7_named_79 : decode cX7_named 79 = .ok (.istore_n 3, 1) := by decide +kernel
theorem dX7_named_80 : decode cX7_named 80 = .ok (.iload 6, 2) := by decide +kernel
theorem dX7_named_82 : decode cX7_named 82 = .ok (.iload 4, 2) := by decide +kernel
theorem dX7_named_84 : decode cX7_named 84 = .ok (.invokestatic 151, 3) := by decide +kernel
theorem dX7_named_87 : decode cX7_named 87 = .ok (.istore 4, 2) := by decide +kernel
theorem dX7_named_89 : decode cX7_named 89 = .ok (.iinc 5 1, 3) := by decide +kernel
theorem dX7_named_92 : decode cX7_named 92 = .ok (.goto (-46), 3) := by decide +kernel
theorem dX7_named_95 : decode cX7_named 95 = .ok (.iload_n 3, 1) := by decide +kernel
theorem dX7_named_96 : decode cX7_named 96 = .ok (.ldc 59, 2) := by decide +kernel
theorem dX7_named_98 : decode cX7_named 98 = .ok (.if_icmp .eq 7, 3) := by decide +kernel
theorem dX7_named_101 : decode cX7_named 101 = .ok (.iload_n 2, 1) := by decide +kernel
theorem dX7_named_102 : decode cX7_named 102 = .ok (.ifCond .ne 7, 3) := by decide +kernel
theorem dX7_named_105 : decode cX7_named 105 = .ok (.iload_n 3, 1) := by decide +kernel
theorem dX7_named_106 : decode cX7_named 106 = .ok (.goto 5, 3) := by decide +kernel
theorem dX7_named_109 : decode cX7_named 109 = .ok (.iload 4, 2) := by decide +kernel
theorem dX7_named_111 : decode cX7_named 111 = .ok (.ireturn, 1) := by decide +kernel
set_option maxRecDepth 20000 in
theorem ggX7_premium_X7_isSoul : GoodIn wsX7_premium wsX7_isSoul := goodIn_r _ [7, 2, 8, 9, 6, 10, 11, 12, 13, 14, 15, 16, 17, 18, 19, 20, 21, 22, 23, 24, 25, 26, 27, 28, 29, 30, 31, 32, 33, 34, 35, 36, 37, 38] (by decide +kernel) (by decide +kernel)
set_option maxRecDepth 20000 in
theorem gX7_premium_X7_isSoul : GoodIn wsX7_premium (wsV RX7 177 RX7 yX7_isSoul wsX7_isSoul) := goodIn_app (goodIn_of _ (by decide +kernel)) ggX7_premium_X7_isSoul
set_option maxRecDepth 20000 in
theorem ggX7_premium_X7_in : GoodIn wsX7_premium wsX7_in := goodIn_r _ [10] (by decide +kernel) (by decide +kernel)
set_option maxRecDepth 20000 in
theorem gX7_premium_X7_in : GoodIn wsX7_premium (va_wsS RX7 65 yX7_in wsX7_in) := goodIn_app (goodIn_of _ (by decide +kernel)) ggX7_premium_X7_in
theorem dX7_premium_0 : decode cX7_premium 0 = .ok (.aload_n 0, 1) := by decide +kernel
theorem dX7_premium_1 : decode cX7_premium 1 = .ok (.iload_n 1, 1) := by decide +kernel
theorem dX7_premium_2 : decode cX7_premium 2 = .ok (.invokevirtual 177, 3) := by decide +kernel
theorem dX7_premium_5 : decode cX7_premium 5 = .ok (.ifCond .eq 14, 3) := by decide +kernel
theorem dX7_premium_8 : decode cX7_premium 8 = .ok (.iload_n 2, 1) := by decide +kernel
theorem dX7_premium_9 : decode cX7_premium 9 = .ok (.iconst 0, 1) := by decide +kernel
theorem dX7_premium_10 : decode cX7_premium 10 = .ok (.sipush 999, 3) := by decide +kernel
theorem dX7_premium_13 : decode cX7_premium 13 = .ok (.invokestatic 65, 3) := by decide +kernel
theorem dX7_premium_16 : decode cX7_premium 16 = .ok (.ifCond .ne 6, 3) := by decide +kernel
theorem dX7_premium_19 : decode cX7_premium 19 = .ok (.ldc 73, 2) := by decide +kernel
theorem dX7_premium_21 : decode cX7_premium 21 = .ok (.ireturn, 1) := by decide +kernel
theorem dX7_premium_22 : decode cX7_premium 22 = .ok (.iconst 0, 1) := by decide +kernel
theorem dX7_premium_23 : decode cX7_premium 23 = .ok (.istore_n 3, 1) := by decide +kernel
theorem dX7_premium_24 : decode cX7_premium 24 = .ok (.iconst 0, 1) := by decide +kernel
theorem dX7_premium_25 : decode cX7_premium 25 = .ok (.istore 4, 2) := by decide +kernel
theorem dX7_premium_27 : decode cX7_premium 27 = .ok (.iload 4, 2) := by decide +kernel
theorem dX7_premium_29 : decode cX7_premium 29 = .ok (.aload_n 0, 1) := by decide +kernel
theorem dX7_premium_30 : decode cX7_premium 30 = .ok (.getfield 25, 3) := by decide +kernel
theorem dX7_premium_33 : decode cX7_premium 33 = .ok (.iconst 2, 1) := by decide +kernel
theorem dX7_premium_34 : decode cX7_premium 34 = .ok (.iaload, 1) := by decide +kernel
theorem dX7_premium_35 : decode cX7_premium 35 = .ok (.if_icmp .ge 26, 3) := by decide +kernel
theorem dX7_premium_38 : decode cX7_premium 38 = .ok (.iload_n 3, 1) := by decide +kernel
theorem dX7_premium_39 : decode cX7_premium 39 = .ok (.aload_n 0, 1) := by decide +kernel
theorem dX7_premium_40 : decode cX7_premium 40 = .ok (.getfield 25, 3) := by decide +kernel
theorem dX7_premium_43 : decode cX7_premium 43 = .ok (.bipush 7, 2) := by decide +kernel
theorem dX7_premium_45 : decode cX7_premium 45 = .ok (.iconst 3, 1) := by decide +kernel
theorem dX7_premium_46 : decode cX7_premium 46 = .ok (.iload 4, 2) := by decide +kernel
theorem dX7_premium_48 : decode cX7_premium 48 = .ok (.imul, 1) := by decide +kernel
theorem dX7_premium_49 : decode cX7_premium 49 = .ok (.iadd, 1) := by decide +kernel
theorem dX7_premium_50 : decode cX7_premium 50 = .ok (.iconst 2, 1) := by decide +kernel
theorem dX7_premium_51 : decode cX7_premium 51 = .ok (.iadd, 1) := by decide +kernel
theorem dX7_premium_52 : decode cX7_premium 52 = .ok (.iaload, 1) := by decide +kernel
theorem dX7_premium_53 : decode cX7_premium 53 = .ok (.iadd, 1) := by decide +kernel
theorem dX7_premium_54 : decode cX7_premium 54 = .ok (.istore_n 3, 1) := by decide +kernel
theorem dX7_premium_55 : decode cX7_premium 55 = .ok (.iinc 4 1, 3) := by decide +kernel
theorem dX7_premium_58 : decode cX7_premium 58 = .ok (.goto (-31), 3) := by decide +kernel
theorem dX7_premium_61 : decode cX7_premium 61 = .ok (.aload_n 0, 1) := by decide +kernel
theorem dX7_premium_62 : decode cX7_premium 62 = .ok (.getfield 25, 3) := by decide +kernel
theorem dX7_premium_65 : decode cX7_premium 65 = .ok (.bipush 7, 2) := by decide +kernel
theorem dX7_premium_67 : decode cX7_premium 67 = .ok (.iconst 3, 1) := by decide +kernel
theorem dX7_premium_68 : decode cX7_premium 68 = .ok (.iload_n 1, 1) := by decide +kernel
theorem dX7_premium_69 : decode cX7_premium 69 = .ok (.imul, 1) := by decide +kernel
theorem dX7_premium_70 : decode cX7_premium 70 = .ok (.iadd, 1) := by decide +kernel
theorem dX7_premium_71 : decode cX7_premium 71 = .ok (.iconst 2, 1) := by decide +kernel
theorem dX7_premium_72 : decode cX7_premium 72 = .ok (.iadd, 1) := by decide +kernel
theorem dX7_premium_73 : decode cX7_premium 73 = .ok (.iaload, 1) := by decide +kernel
theorem dX7_premium_74 : decode cX7_premium 74 = .ok (.istore 4, 2) := by decide +kernel
theorem dX7_premium_76 : decode cX7_premium 76 = .ok (.iload 4, 2) := by decide +kernel
theorem dX7_premium_78 : decode cX7_premium 78 = .ok (.ifCond .ne 5, 3) := by decide +kernel
theorem dX7_premium_81 : decode cX7_premium 81 = .ok (.iconst 0, 1) := by decide +kernel
theorem dX7_premium_82 : decode cX7_premium 82 = .ok (.ireturn, 1) := by decide +kernel
theorem dX7_premium_83 : decode cX7_premium 83 = .ok (.iload_n 2, 1) := by decide +kernel
theorem dX7_premium_84 : decode cX7_premium 84 = .ok (.istore 5, 2) := by decide +kernel
theorem dX7_premium_86 : decode cX7_premium 86 = .ok (.iconst 0, 1) := by decide +kernel
theorem dX7_premium_87 : decode cX7_premium 87 = .ok (.istore 6, 2) := by decide +kernel
theorem dX7_premium_89 : decode cX7_premium 89 = .ok (.iconst 0, 1) := by decide +kernel
theorem dX7_premium_90 : decode cX7_premium 90 = .ok (.istore 7, 2) := by decide +kernel
theorem dX7_premium_92 : decode cX7_premium 92 = .ok (.iload 7, 2) := by decide +kernel
theorem dX7_premium_94 : decode cX7_premium 94 = .ok (.aload_n 0, 1) := by decide +kernel
theorem dX7_premium_95 : decode cX7_premium 95 = .ok (.getfield 25, 3) := by decide +kernel
theorem dX7_premium_98 : decode cX7_premium 98 = .ok (.iconst 2, 1) := by decide +kernel
theorem dX7_premium_99 : decode cX7_premium 99 = .ok (.iaload, 1) := by decide +kernel
theorem dX7_premium_100 : decode cX7_premium 100 = .ok (.if_icmp .ge 65, 3) := by decide +kernel
theorem dX7_premium_103 : decode cX7_premium 103 = .ok (.iload 5, 2) := by decide +kernel
theorem dX7_premium_105 : decode cX7_premium 105 = .ok (.iload_n 2, 1) := by decide +kernel
theorem dX7_premium_106 : decode cX7_premium 106 = .ok (.aload_n 0, 1) := by decide +kernel
theorem dX7_premium_107 : decode cX7_premium 107 = .ok (.getfield 25, 3) := by decide +kernel
theorem dX7_premium_110 : decode cX7_premium 110 = .ok (.bipush 7, 2) := by decide +kernel
theorem dX7_premium_112 : decode cX7_premium 112 = .ok (.iconst 3, 1) := by decide +kernel
theorem dX7_premium_113 : decode cX7_premium 113 = .ok (.iload 7, 2) := by decide +kernel
theorem dX7_premium_115 : decode cX7_premium 115 = .ok (.imul, 1) := by decide +kernel
theorem dX7_premium_116 : decode cX7_premium 116 = .ok (.iadd, 1) := by decide +kernel
theorem dX7_premium_117 : decode cX7_premium 117 = .ok (.iconst 2, 1) := by decide +kernel
theorem dX7_premium_118 : decode cX7_premium 118 = .ok (.iadd, 1) := by decide +kernel
theorem dX7_premium_119 : decode cX7_premium 119 = .ok (.iaload, 1) := by decide +kernel
theorem dX7_premium_120 : decode cX7_premium 120 = .ok (.imul, 1) := by decide +kernel
theorem dX7_premium_121 : decode cX7_premium 121 = .ok (.iload_n 3, 1) := by decide +kernel
theorem dX7_premium_122 : decode cX7_premium 122 = .ok (.idiv, 1) := by decide +kernel
theorem dX7_premium_123 : decode cX7_premium 123 = .ok (.isub, 1) := by decide +kernel
theorem dX7_premium_124 : decode cX7_premium 124 = .ok (.istore 5, 2) := by decide +kernel
theorem dX7_premium_126 : decode cX7_premium 126 = .ok (.iload 6, 2) := by decide +kernel
theorem dX7_premium_128 : decode cX7_premium 128 = .ok (.iload 7, 2) := by decide +kernel
theorem dX7_premium_130 : decode cX7_premium 130 = .ok (.iload_n 1, 1) := by decide +kernel
theorem dX7_premium_131 : decode cX7_premium 131 = .ok (.if_icmp .ge 24, 3) := by decide +kernel
theorem dX7_premium_134 : decode cX7_premium 134 = .ok (.aload_n 0, 1) := by decide +kernel
theorem dX7_premium_135 : decode cX7_premium 135 = .ok (.getfield 25, 3) := by decide +kernel
theorem dX7_premium_138 : decode cX7_premium 138 = .ok (.bipush 7, 2) := by decide +kernel
theorem dX7_premium_140 : decode cX7_premium 140 = .ok (.iconst 3, 1) := by decide +kernel
theorem dX7_premium_141 : decode cX7_premium 141 = .ok (.iload 7, 2) := by decide +kernel
theorem dX7_premium_143 : decode cX7_premium 143 = .ok (.imul, 1) := by decide +kernel
theorem dX7_premium_144 : decode cX7_premium 144 = .ok (.iadd, 1) := by decide +kernel
theorem dX7_premium_145 : decode cX7_premium 145 = .ok (.iconst 2, 1) := by decide +kernel
theorem dX7_premium_146 : decode cX7_premium 146 = .ok (.iadd, 1) := by decide +kernel
theorem dX7_premium_147 : decode cX7_premium 147 = .ok (.iaload, 1) := by decide +kernel
theorem dX7_premium_148 : decode cX7_premium 148 = .ok (.ifCond .le 7, 3) := by decide +kernel
theorem dX7_premium_151 : decode cX7_premium 151 = .ok (.iconst 1, 1) := by decide +kernel
theorem dX7_premium_152 : decode cX7_premium 152 = .ok (.goto 4, 3) := by decide +kernel
theorem dX7_premium_155 : decode cX7_premium 155 = .ok (.iconst 0, 1) := by decide +kernel
theorem dX7_premium_156 : decode cX7_premium 156 = .ok (.iadd, 1) := by decide +kernel
theorem dX7_premium_157 : decode cX7_premium 157 = .ok (.istore 6, 2) := by decide +kernel
theorem dX7_premium_159 : decode cX7_premium 159 = .ok (.iinc 7 1, 3) := by decide +kernel
theorem dX7_premium_162 : decode cX7_premium 162 = .ok (.goto (-70), 3) := by decide +kernel
theorem dX7_premium_165 : decode cX7_premium 165 = .ok (.iload_n 2, 1) := by decide +kernel
theorem dX7_premium_166 : decode cX7_premium 166 = .ok (.iload 4, 2) := by decide +kernel
theorem dX7_premium_168 : decode cX7_premium 168 = .ok (.imul, 1) := by decide +kernel
theorem dX7_premium_169 : decode cX7_premium 169 = .ok (.iload_n 3, 1) := by decide +kernel
theorem dX7_premium_170 : decode cX7_premium 170 = .ok (.idiv, 1) := by decide +kernel
theorem dX7_premium_171 : decode cX7_premium 171 = .ok (.iload 6, 2) := by decide +kernel
theorem dX7_premium_173 : decode cX7_premium 173 = .ok (.iload 5, 2) := by decide +kernel
theorem dX7_premium_175 : decode cX7_premium 175 = .ok (.if_icmp .ge 7, 3) := by decide +kernel
theorem dX7_premium_178 : decode cX7_premium 178 = .ok (.iconst 1, 1) := by decide +kernel
theorem dX7_premium_179 : decode cX7_premium 179 = .ok (.goto 4, 3) := by decide +kernel
theorem dX7_premium_182 : decode cX7_premium 182 = .ok (.iconst 0, 1) := by decide +kernel
theorem dX7_premium_183 : decode cX7_premium 183 = .ok (.iadd, 1) := by decide +kernel
theorem dX7_premium_184 : decode cX7_premium 184 = .ok (.ireturn, 1) := by decide +kernel
set_option maxRecDepth 20000 in
theorem ggX7_areSo_X7_copies : GoodIn wsX7_areSo wsX7_copies := goodIn_r _ [7] (by decide +kernel) (by decide +kernel)
set_option maxRecDepth 20000 in
theorem gX7_areSo_X7_copies : GoodIn wsX7_areSo (va_wsS RX7 144 yX7_copies wsX7_copies) := goodIn_app (goodIn_of _ (by decide +kernel)) ggX7_areSo_X7_copies
set_option maxRecDepth 20000 in
theorem ggX7_areSo_X7_passes : GoodIn wsX7_areSo wsX7_passes := goodIn_r _ [10, 11, 12, 13, 6, 14, 15, 16, 17] (by decide +kernel) (by decide +kernel)
set_option maxRecDepth 20000 in
theorem gX7_areSo_X7_passes : GoodIn wsX7_areSo (va_wsS RX7 173 yX7_passes wsX7_passes) := goodIn_app (goodIn_of _ (by decide +kernel)) ggX7_areSo_X7_passes
theorem dX7_areSo_0 : decode cX7_areSo 0 = .ok (.aload_n 0, 1) := by decide +kernel
theorem dX7_areSo_1 : decode cX7_areSo 1 = .ok (.getfield 25, 3) := by decide +kernel
theorem dX7_areSo_4 : decode cX7_areSo 4 = .ok (.iconst 0, 1) := by decide +kernel
theorem dX7_areSo_5 : decode cX7_areSo 5 = .ok (.aload_n 0, 1) := by decide +kernel
theorem dX7_areSo_6 : decode cX7_areSo 6 = .ok (.getfield 31, 3) := by decide +kernel
theorem dX7_areSo_9 : decode cX7_areSo 9 = .ok (.iconst 0, 1) := by decide +kernel
theorem dX7_areSo_10 : decode cX7_areSo 10 = .ok (.invokestatic 144, 3) := by decide +kernel
theorem dX7_areSo_13 : decode cX7_areSo 13 = .ok (.aload_n 0, 1) := by decide +kernel
theorem dX7_areSo_14 : decode cX7_areSo 14 = .ok (.getfield 31, 3) := by decide +kernel
theorem dX7_areSo_17 : decode cX7_areSo 17 = .ok (.iload 4, 2) := by decide +kernel
theorem dX7_areSo_19 : decode cX7_areSo 19 = .ok (.iload 5, 2) := by decide +kernel
theorem dX7_areSo_21 : decode cX7_areSo 21 = .ok (.iastore, 1) := by decide +kernel
theorem dX7_areSo_22 : decode cX7_areSo 22 = .ok (.iconst 1, 1) := by decide +kernel
theorem dX7_areSo_23 : decode cX7_areSo 23 = .ok (.istore 6, 2) := by decide +kernel
theorem dX7_areSo_25 : decode cX7_areSo 25 = .ok (.iconst 0, 1) := by decide +kernel
theorem dX7_areSo_26 : decode cX7_areSo 26 = .ok (.istore 7, 2) := by decide +kernel
theorem dX7_areSo_28 : decode cX7_areSo 28 = .ok (.iload 7, 2) := by decide +kernel
theorem dX7_areSo_30 : decode cX7_areSo 30 = .ok (.iload_n 3, 1) := by decide +kernel
theorem dX7_areSo_31 : decode cX7_areSo 31 = .ok (.if_icmp .ge 53, 3) := by decide +kernel
theorem dX7_areSo_34 : decode cX7_areSo 34 = .ok (.aload_n 0, 1) := by decide +kernel
theorem dX7_areSo_35 : decode cX7_areSo 35 = .ok (.getfield 31, 3) := by decide +kernel
theorem dX7_areSo_38 : decode cX7_areSo 38 = .ok (.invokestatic 173, 3) := by decide +kernel
theorem dX7_areSo_41 : decode cX7_areSo 41 = .ok (.iload 6, 2) := by decide +kernel
theorem dX7_areSo_43 : decode cX7_areSo 43 = .ok (.ifCond .eq 32, 3) := by decide +kernel
theorem dX7_areSo_46 : decode cX7_areSo 46 = .ok (.aload_n 0, 1) := by decide +kernel
theorem dX7_areSo_47 : decode cX7_areSo 47 = .ok (.getfield 31, 3) := by decide +kernel
theorem dX7_areSo_50 : decode cX7_areSo 50 = .ok (.bipush 7, 2) := by decide +kernel
theorem dX7_areSo_52 : decode cX7_areSo 52 = .ok (.iconst 3, 1) := by decide +kernel
theorem dX7_areSo_53 : decode cX7_areSo 53 = .ok (.iload_n 1, 1) := by decide +kernel
theorem dX7_areSo_54 : decode cX7_areSo 54 = .ok (.imul, 1) := by decide +kernel
theorem dX7_areSo_55 : decode cX7_areSo 55 = .ok (.iadd, 1) := by decide +kernel
theorem dX7_areSo_56 : decode cX7_areSo 56 = .ok (.iconst 2, 1) := by decide +kernel
theorem dX7_areSo_57 : decode cX7_areSo 57 = .ok (.iadd, 1) := by decide +kernel
theorem dX7_areSo_58 : decode cX7_areSo 58 = .ok (.iaload, 1) := by decide +kernel
theorem dX7_areSo_59 : decode cX7_areSo 59 = .ok (.aload_n 0, 1) := by decide +kernel
theorem dX7_areSo_60 : decode cX7_areSo 60 = .ok (.getfield 16, 3) := by decide +kernel
theorem dX7_areSo_63 : decode cX7_areSo 63 = .ok (.iload_n 2, 1) := by decide +kernel
theorem dX7_areSo_64 : decode cX7_areSo 64 = .ok (.iload 7, 2) := by decide +kernel
theorem dX7_areSo_66 : decode cX7_areSo 66 = .ok (.iadd, 1) := by decide +kernel
theorem dX7_areSo_67 : decode cX7_areSo 67 = .ok (.iaload, 1) := by decide +kernel
theorem dX7_areSo_68 : decode cX7_areSo 68 = .ok (.if_icmp .ne 7, 3) := by decide +kernel
theorem dX7_areSo_71 : decode cX7_areSo 71 = .ok (.iconst 1, 1) := by decide +kernel
theorem dX7_areSo_72 : decode cX7_areSo 72 = .ok (.goto 4, 3) := by decide +kernel
theorem dX7_areSo_75 : decode cX7_areSo 75 = .ok (.iconst 0, 1) := by decide +kernel
theorem dX7_areSo_76 : decode cX7_areSo 76 = .ok (.istore 6, 2) := by decide +kernel
theorem dX7_areSo_78 : decode cX7_areSo 78 = .ok (.iinc 7 1, 3) := by decide +kernel
theorem dX7_areSo_81 : decode cX7_areSo 81 = .ok (.goto (-53), 3) := by decide +kernel
theorem dX7_areSo_84 : decode cX7_areSo 84 = .ok (.iload 6, 2) := by decide +kernel
theorem dX7_areSo_86 : decode cX7_areSo 86 = .ok (.ireturn, 1) := by decide +kernel
set_option maxRecDepth 20000 in
theorem ggX7_fits_X7_isSoul : GoodIn wsX7_fits wsX7_isSoul := goodIn_r _ [8, 2, 9, 10, 7, 11, 51, 52, 53, 54, 55, 56, 57, 58, 59, 60, 61, 62, 63, 64, 65, 66, 67, 68, 69, 70, 71, 72, 73, 74, 75, 76, 77, 78] (by decide +kernel) (by decide +kernel)
set_option maxRecDepth 20000 in
theorem gX7_fits_X7_isSoul : GoodIn wsX7_fits (wsV RX7 177 RX7 yX7_isSoul wsX7_isSoul) := goodIn_app (goodIn_of _ (by decide +kernel)) ggX7_fits_X7_isSoul
set_option maxRecDepth 20000 in
theorem ggX7_fits_X7_isRow : GoodIn wsX7_fits wsX7_isRow := goodIn_r _ [14, 9, 10, 7, 11] (by decide +kernel) (by decide +kernel)
set_option maxRecDepth 20000 in
theorem gX7_fits_X7_isRow : GoodIn wsX7_fits (va_wsS RX7 69 yX7_isRow wsX7_isRow) := goodIn_app (goodIn_of _ (by decide +kernel)) ggX7_fits_X7_isRow
set_option maxRecDepth 20000 in
theorem ggX7_fits_X7_in : GoodIn wsX7_fits wsX7_in := goodIn_r _ [11] (by decide +kernel) (by decide +kernel)
set_option maxRecDepth 20000 in
theorem gX7_fits_X7_in : GoodIn wsX7_fits (va_wsS RX7 65 yX7_in wsX7_in) := goodIn_app (goodIn_of _ (by decide +kernel)) ggX7_fits_X7_in
set_option maxRecDepth 20000 in
theorem ggX7_fits_X7_isMissing : GoodIn wsX7_fits wsX7_isMissing := goodIn_r _ [18, 19, 3, 51, 52, 53, 54, 55, 56, 57, 58, 59, 60, 61, 62, 63, 64, 65, 66, 67, 68, 69, 70, 71, 72, 73, 74, 75, 76, 77, 78] (by decide +kernel) (by decide +kernel)
set_option maxRecDepth 20000 in
theorem gX7_fits_X7_isMissing : GoodIn wsX7_fits (wsV RX7 81 RX7 yX7_isMissing wsX7_isMissing) := goodIn_app (goodIn_of _ (by decide +kernel)) ggX7_fits_X7_isMissing
set_option maxRecDepth 20000 in
theorem ggX7_fits_X7_found : GoodIn wsX7_fits wsX7_found := goodIn_r _ [23, 24, 25, 51, 52, 53, 54, 55, 56, 57, 58, 59, 60, 61, 62, 63, 64, 65, 66, 67, 68, 69, 70, 71, 72, 73, 74, 75, 76, 77, 78] (by decide +kernel) (by decide +kernel)
set_option maxRecDepth 20000 in
theorem gX7_fits_X7_found : GoodIn wsX7_fits (wsV RX7 74 RX7 yX7_found wsX7_found) := goodIn_app (goodIn_of _ (by decide +kernel)) ggX7_fits_X7_found
set_option maxRecDepth 20000 in
theorem ggX7_fits_X7_isPart : GoodIn wsX7_fits wsX7_isPart := goodIn_r _ [29, 30, 51, 52, 53, 54, 55, 56, 57, 58, 59, 60, 61, 62, 63, 64, 65, 66, 67, 68, 69, 70, 71, 72, 73, 74, 75, 76, 77, 78] (by decide +kernel) (by decide +kernel)
set_option maxRecDepth 20000 in
theorem gX7_fits_X7_isPart : GoodIn wsX7_fits (wsV RX7 88 RX7 yX7_isPart wsX7_isPart) := goodIn_app (goodIn_of _ (by decide +kernel)) ggX7_fits_X7_isPart
set_option maxRecDepth 20000 in
theorem ggX7_fits_X7_areSo : GoodIn wsX7_fits wsX7_areSo := goodIn_r _ [34, 2, 35, 36, 37, 38, 7, 39, 40, 41, 42, 43, 44, 45, 46, 9, 10, 11, 51, 52, 53, 54, 55, 56, 57, 58, 59, 60, 61, 62, 63, 64, 65, 66, 67, 68, 69, 70, 71, 72, 73, 74, 75, 76, 77, 78] (by decide +kernel) (by decide +kernel)
set_option maxRecDepth 20000 in
theorem gX7_fits_X7_areSo : GoodIn wsX7_fits (wsV RX7 213 RX7 yX7_areSo wsX7_areSo) := goodIn_app (goodIn_of _ (by decide +kernel)) ggX7_fits_X7_areSo
set_option maxRecDepth 20000 in
theorem ggX7_fits_X7_well : GoodIn wsX7_fits wsX7_well := goodIn_r _ [50, 24, 51, 52, 53, 54, 55, 56, 57, 58, 59, 60, 61, 62, 63, 64, 65, 66, 67, 68, 69, 70, 71, 72, 73, 74, 75, 76, 77, 78] (by decide +kernel) (by decide +kernel)
set_option maxRecDepth 20000 in
theorem gX7_fits_X7_well : GoodIn wsX7_fits (wsV RX7 78 RX7 yX7_well wsX7_well) := goodIn_app (goodIn_of _ (by decide +kernel)) ggX7_fits_X7_well
theorem dX7_fits_0 : decode cX7_fits 0 = .ok (.aload_n 0, 1) := by decide +kernel
theorem dX7_fits_1 : decode cX7_fits 1 = .ok (.iload_n 1, 1) := by decide +kernel
theorem dX7_fits_2 : decode cX7_fits 2 = .ok (.invokevirtual 177, 3) := by decide +kernel
theorem dX7_fits_5 : decode cX7_fits 5 = .ok (.ifCond .eq 31, 3) := by decide +kernel
theorem dX7_fits_8 : decode cX7_fits 8 = .ok (.iload_n 2, 1) := by decide +kernel
theorem dX7_fits_9 : decode cX7_fits 9 = .ok (.invokestatic 69, 3) := by decide +kernel
theorem dX7_fits_12 : decode cX7_fits 12 = .ok (.ifCond .eq 24, 3) := by decide +kernel
theorem dX7_fits_15 : decode cX7_fits 15 = .ok (.iload 4, 2) := by decide +kernel
theorem dX7_fits_17 : decode cX7_fits 17 = .ok (.iconst 1, 1) := by decide +kernel
theorem dX7_fits_18 : decode cX7_fits 18 = .ok (.bipush 12, 2) := by decide +kernel
theorem dX7_fits_20 : decode cX7_fits 20 = .ok (.invokestatic 65, 3) := by decide +kernel
theorem dX7_fits_23 : decode cX7_fits 23 = .ok (.ifCond .eq 13, 3) := by decide +kernel
theorem dX7_fits_26 : decode cX7_fits 26 = .ok (.iload 5, 2) := by decide +kernel
theorem dX7_fits_28 : decode cX7_fits 28 = .ok (.iconst 0, 1) := by decide +kernel
theorem dX7_fits_29 : decode cX7_fits 29 = .ok (.iconst 4, 1) := by decide +kernel
theorem dX7_fits_30 : decode cX7_fits 30 = .ok (.invokestatic 65, 3) := by decide +kernel
theorem dX7_fits_33 : decode cX7_fits 33 = .ok (.ifCond .ne 6, 3) := by decide +kernel
theorem dX7_fits_36 : decode cX7_fits 36 = .ok (.ldc 73, 2) := by decide +kernel
theorem dX7_fits_38 : decode cX7_fits 38 = .ok (.ireturn, 1) := by decide +kernel
theorem dX7_fits_39 : decode cX7_fits 39 = .ok (.aload_n 0, 1) := by decide +kernel
theorem dX7_fits_40 : decode cX7_fits 40 = .ok (.iload_n 2, 1) := by decide +kernel
theorem dX7_fits_41 : decode cX7_fits 41 = .ok (.invokevirtual 81, 3) := by decide +kernel
theorem dX7_fits_44 : decode cX7_fits 44 = .ok (.ifCond .eq 9, 3) := by decide +kernel
theorem dX7_fits_47 : decode cX7_fits 47 = .ok (.aload_n 0, 1) := by decide +kernel
theorem dX7_fits_48 : decode cX7_fits 48 = .ok (.iconst 1, 1) := by decide +kernel
theorem dX7_fits_49 : decode cX7_fits 49 = .ok (.invokevirtual 74, 3) := by decide +kernel
theorem dX7_fits_52 : decode cX7_fits 52 = .ok (.ireturn, 1) := by decide +kernel
theorem dX7_fits_53 : decode cX7_fits 53 = .ok (.aload_n 0, 1) := by decide +kernel
theorem dX7_fits_54 : decode cX7_fits 54 = .ok (.iload_n 2, 1) := by decide +kernel
theorem dX7_fits_55 : decode cX7_fits 55 = .ok (.iload_n 3, 1) := by decide +kernel
theorem dX7_fits_56 : decode cX7_fits 56 = .ok (.iload 4, 2) := by decide +kernel
theorem dX7_fits_58 : decode cX7_fits 58 = .ok (.invokevirtual 88, 3) := by decide +kernel
theorem dX7_fits_61 : decode cX7_fits 61 = .ok (.ifCond .ne 9, 3) := by decide +kernel
theorem dX7_fits_64 : decode cX7_fits 64 = .ok (.aload_n 0, 1) := by decide +kernel
theorem dX7_fits_65 : decode cX7_fits 65 = .ok (.iconst 2, 1) := by decide +kernel
theorem dX7_fits_66 : decode cX7_fits 66 = .ok (.invokevirtual 74, 3) := by decide +kernel
theorem dX7_fits_69 : decode cX7_fits 69 = .ok (.ireturn, 1) := by decide +kernel
theorem dX7_fits_70 : decode cX7_fits 70 = .ok (.iload 5, 2) := by decide +kernel
theorem dX7_fits_72 : decode cX7_fits 72 = .ok (.iconst 2, 1) := by decide +kernel
theorem dX7_fits_73 : decode cX7_fits 73 = .ok (.if_icmp .ge 7, 3) := by decide +kernel
theorem dX7_fits_76 : decode cX7_fits 76 = .ok (.iconst 0, 1) := by decide +kernel
theorem dX7_fits_77 : decode cX7_fits 77 = .ok (.goto 24, 3) := by decide +kernel
theorem dX7_fits_80 : decode cX7_fits 80 = .ok (.iload 5, 2) := by decide +kernel
theorem dX7_fits_82 : decode cX7_fits 82 = .ok (.iconst 2, 1) := by decide +kernel
theorem dX7_fits_83 : decode cX7_fits 83 = .ok (.if_icmp .ne 7, 3) := by decide +kernel
theorem dX7_fits_86 : decode cX7_fits 86 = .ok (.iconst 4, 1) := by decide +kernel
theorem dX7_fits_87 : decode cX7_fits 87 = .ok (.goto 14, 3) := by decide +kernel
theorem dX7_fits_90 : decode cX7_fits 90 = .ok (.iload 5, 2) := by decide +kernel
theorem dX7_fits_92 : decode cX7_fits 92 = .ok (.iconst 3, 1) := by decide +kernel
theorem dX7_fits_93 : decode cX7_fits 93 = .ok (.if_icmp .ne 7, 3) := by decide +kernel
theorem dX7_fits_96 : decode cX7_fits 96 = .ok (.iconst 5, 1) := by decide +kernel
theorem dX7_fits_97 : decode cX7_fits 97 = .ok (.goto 4, 3) := by decide +kernel
theorem dX7_fits_100 : decode cX7_fits 100 = .ok (.iconst 1, 1) := by decide +kernel
theorem dX7_fits_101 : decode cX7_fits 101 = .ok (.istore 6, 2) := by decide +kernel
theorem dX7_fits_103 : decode cX7_fits 103 = .ok (.iload 5, 2) := by decide +kernel
theorem dX7_fits_105 : decode cX7_fits 105 = .ok (.iconst 2, 1) := by decide +kernel
theorem dX7_fits_106 : decode cX7_fits 106 = .ok (.if_icmp .ge 8, 3) := by decide +kernel
theorem dX7_fits_109 : decode cX7_fits 109 = .ok (.bipush 60, 2) := by decide +kernel
theorem dX7_fits_111 : decode cX7_fits 111 = .ok (.goto 31, 3) := by decide +kernel
theorem dX7_fits_114 : decode cX7_fits 114 = .ok (.iload 5, 2) := by decide +kernel
theorem dX7_fits_116 : decode cX7_fits 116 = .ok (.iconst 2, 1) := by decide +kernel
theorem dX7_fits_117 : decode cX7_fits 117 = .ok (.if_icmp .ne 14, 3) := by decide +kernel
theorem dX7_fits_120 : decode cX7_fits 120 = .ok (.aload_n 0, 1) := by decide +kernel
theorem dX7_fits_121 : decode cX7_fits 121 = .ok (.getfield 25, 3) := by decide +kernel
theorem dX7_fits_124 : decode cX7_fits 124 = .ok (.iconst 2, 1) := by decide +kernel
theorem dX7_fits_125 : decode cX7_fits 125 = .ok (.iaload, 1) := by decide +kernel
theorem dX7_fits_126 : decode cX7_fits 126 = .ok (.iconst 1, 1) := by decide +kernel
theorem dX7_fits_127 : decode cX7_fits 127 = .ok (.isub, 1) := by decide +kernel
theorem dX7_fits_128 : decode cX7_fits 128 = .ok (.goto 14, 3) := by decide +kernel
theorem dX7_fits_131 : decode cX7_fits 131 = .ok (.iload 5, 2) := by decide +kernel
theorem dX7_fits_133 : decode cX7_fits 133 = .ok (.iconst 3, 1) := by decide +kernel
theorem dX7_fits_134 : decode cX7_fits 134 = .ok (.if_icmp .ne 7, 3) := by decide +kernel
theorem dX7_fits_137 : decode cX7_fits 137 = .ok (.iconst 1, 1) := by decide +kernel
theorem dX7_fits_138 : decode cX7_fits 138 = .ok (.goto 4, 3) := by decide +kernel
theorem dX7_fits_141 : decode cX7_fits 141 = .ok (.iconst 5, 1) := by decide +kernel
theorem dX7_fits_142 : decode cX7_fits 142 = .ok (.istore 7, 2) := by decide +kernel
theorem dX7_fits_144 : decode cX7_fits 144 = .ok (.iconst 0, 1) := by decide +kernel
theorem dX7_fits_145 : decode cX7_fits 145 = .ok (.istore 8, 2) := by decide +kernel
theorem dX7_fits_147 : decode cX7_fits 147 = .ok (.iconst 0, 1) := by decide +kernel
theorem dX7_fits_148 : decode cX7_fits 148 = .ok (.istore 9, 2) := by decide +kernel
theorem dX7_fits_150 : decode cX7_fits 150 = .ok (.ldc 59, 2) := by decide +kernel
theorem dX7_fits_152 : decode cX7_fits 152 = .ok (.istore 10, 2) := by decide +kernel
theorem dX7_fits_154 : decode cX7_fits 154 = .ok (.iload 7, 2) := by decide +kernel
theorem dX7_fits_156 : decode cX7_fits 156 = .ok (.istore 11, 2) := by decide +kernel
theorem dX7_fits_158 : decode cX7_fits 158 = .ok (.iload 11, 2) := by decide +kernel
theorem dX7_fits_160 : decode cX7_fits 160 = .ok (.ifCond .lt 55, 3) := by decide +kernel
theorem dX7_fits_163 : decode cX7_fits 163 = .ok (.aload_n 0, 1) := by decide +kernel

set_option maxRecDepth 20000 in
theorem gX5_carrot_X1_keep_n105 : GoodIn wsX5_carrot (wsX1_keep) := ggX5_carrot_X1_keep
set_option maxRecDepth 20000 in
theorem ggX5_carrot_X3_giveCarrot : GoodIn wsX5_carrot wsX3_giveCarrot := goodIn_r _ [42, 38, 43, 44, 45, 46, 59, 60, 61, 62, 63, 64, 65, 66, 67, 68] (by decide +kernel) (by decide +kernel)
set_option maxRecDepth 20000 in
theorem gX5_carrot_X3_giveCarrot_n123 : GoodIn wsX5_carrot (wsX3_giveCarrot) := ggX5_carrot_X3_giveCarrot
theorem dX5_carrot_0 : decode cX5_carrot 0 = .ok (.aload_n 0, 1) := by decide +kernel
theorem dX5_carrot_1 : decode cX5_carrot 1 = .ok (.iload_n 1, 1) := by decide +kernel
theorem dX5_carrot_2 : decode cX5_carrot 2 = .ok (.invokevirtual 120, 3) := by decide +kernel
theorem dX5_carrot_5 : decode cX5_carrot 5 = .ok (.ifCond .ne 10, 3) := by decide +kernel
theorem dX5_carrot_8 : decode cX5_carrot 8 = .ok (.aload_n 0, 1) := by decide +kernel
theorem dX5_carrot_9 : decode cX5_carrot 9 = .ok (.bipush (-2), 2) := by decide +kernel
theorem dX5_carrot_11 : decode cX5_carrot 11 = .ok (.invokevirtual 56, 3) := by decide +kernel
theorem dX5_carrot_14 : decode cX5_carrot 14 = .ok (.ireturn, 1) := by decide +kernel
theorem dX5_carrot_15 : decode cX5_carrot 15 = .ok (.aload_n 0, 1) := by decide +kernel
theorem dX5_carrot_16 : decode cX5_carrot 16 = .ok (.getfield 10, 3) := by decide +kernel
theorem dX5_carrot_19 : decode cX5_carrot 19 = .ok (.getfield 82, 3) := by decide +kernel
theorem dX5_carrot_22 : decode cX5_carrot 22 = .ok (.aload_n 0, 1) := by decide +kernel
theorem dX5_carrot_23 : decode cX5_carrot 23 = .ok (.getfield 10, 3) := by decide +kernel
theorem dX5_carrot_26 : decode cX5_carrot 26 = .ok (.getfield 60, 3) := by decide +kernel
theorem dX5_carrot_29 : decode cX5_carrot 29 = .ok (.invokevirtual 105, 3) := by decide +kernel
theorem dX5_carrot_32 : decode cX5_carrot 32 = .ok (.aload_n 0, 1) := by decide +kernel
theorem dX5_carrot_33 : decode cX5_carrot 33 = .ok (.getfield 10, 3) := by decide +kernel
theorem dX5_carrot_36 : decode cX5_carrot 36 = .ok (.getfield 60, 3) := by decide +kernel
theorem dX5_carrot_39 : decode cX5_carrot 39 = .ok (.iload_n 1, 1) := by decide +kernel
theorem dX5_carrot_40 : decode cX5_carrot 40 = .ok (.invokevirtual 123, 3) := by decide +kernel
theorem dX5_carrot_43 : decode cX5_carrot 43 = .ok (.ireturn, 1) := by decide +kernel
set_option maxRecDepth 20000 in
theorem ggX5_moves_X5_isChild : GoodIn wsX5_moves wsX5_isChild := goodIn_r _ [6, 1, 7, 8, 5, 9, 46, 47, 48, 49, 50, 51, 52, 53, 54, 55, 56, 57, 58, 59, 60, 61, 62, 63, 64, 65, 66, 67] (by decide +kernel) (by decide +kernel)
set_option maxRecDepth 20000 in
theorem gX5_moves_X5_isChild : GoodIn wsX5_moves (wsV RX5 120 RX5 yX5_isChild wsX5_isChild) := goodIn_app (goodIn_of _ (by decide +kernel)) ggX5_moves_X5_isChild
set_option maxRecDepth 20000 in
theorem ggX5_moves_X5_isSeat : GoodIn wsX5_moves wsX5_isSeat := goodIn_r _ [12, 7, 8, 5, 9] (by decide +kernel) (by decide +kernel)
set_option maxRecDepth 20000 in
theorem gX5_moves_X5_isSeat : GoodIn wsX5_moves (va_wsS RX5 52 yX5_isSeat wsX5_isSeat) := goodIn_app (goodIn_of _ (by decide +kernel)) ggX5_moves_X5_isSeat
set_option maxRecDepth 20000 in
theorem ggX5_moves_X5_refuse : GoodIn wsX5_moves wsX5_refuse := goodIn_r _ [16, 17, 7, 8, 5, 9, 46, 47, 48, 49, 50, 51, 52, 53, 54] (by decide +kernel) (by decide +kernel)
set_option maxRecDepth 20000 in
theorem gX5_moves_X5_refuse : GoodIn wsX5_moves (wsV RX5 56 RX5 yX5_refuse wsX5_refuse) := goodIn_app (goodIn_of _ (by decide +kernel)) ggX5_moves_X5_refuse
set_option maxRecDepth 20000 in
theorem ggX5_moves_X3_childAt : GoodIn wsX5_moves wsX3_childAt := goodIn_r _ [21, 22, 23, 58, 59, 60, 61, 62, 63, 64, 65, 66, 67] (by decide +kernel) (by decide +kernel)
set_option maxRecDepth 20000 in
theorem gX5_moves_X3_childAt_n79 : GoodIn wsX5_moves (wsX3_childAt) := ggX5_moves_X3_childAt
set_option maxRecDepth 20000 in
theorem ggX5_moves_X1_keep : GoodIn wsX5_moves wsX1_keep := goodIn_r _ [27, 28, 29, 30, 31, 19, 32, 33, 34, 35, 36, 37, 22, 38, 39, 40, 41, 42, 23, 43, 44, 45, 68, 69, 70, 58, 59, 60, 61, 62, 63, 64, 65, 66, 67] (by decide +kernel) (by decide +kernel)
set_option maxRecDepth 20000 in
theorem gX5_moves_X1_keep_n105 : GoodIn wsX5_moves (wsX1_keep) := ggX5_moves_X1_keep
theorem dX5_moves_0 : decode cX5_moves 0 = .ok (.aload_n 0, 1) := by decide +kernel
theorem dX5_moves_1 : decode cX5_moves 1 = .ok (.iload_n 1, 1) := by decide +kernel
theorem dX5_moves_2 : decode cX5_moves 2 = .ok (.invokevirtual 120, 3) := by decide +kernel
theorem dX5_moves_5 : decode cX5_moves 5 = .ok (.ifCond .eq 10, 3) := by decide +kernel
theorem dX5_moves_8 : decode cX5_moves 8 = .ok (.iload_n 2, 1) := by decide +kernel
theorem dX5_moves_9 : decode cX5_moves 9 = .ok (.invokestatic 52, 3) := by decide +kernel
theorem dX5_moves_12 : decode cX5_moves 12 = .ok (.ifCond .ne 10, 3) := by decide +kernel
theorem dX5_moves_15 : decode cX5_moves 15 = .ok (.aload_n 0, 1) := by decide +kernel
theorem dX5_moves_16 : decode cX5_moves 16 = .ok (.bipush (-2), 2) := by decide +kernel
theorem dX5_moves_18 : decode cX5_moves 18 = .ok (.invokevirtual 56, 3) := by decide +kernel
theorem dX5_moves_21 : decode cX5_moves 21 = .ok (.ireturn, 1) := by decide +kernel
theorem dX5_moves_22 : decode cX5_moves 22 = .ok (.aload_n 0, 1) := by decide +kernel
theorem dX5_moves_23 : decode cX5_moves 23 = .ok (.getfield 10, 3) := by decide +kernel
theorem dX5_moves_26 : decode cX5_moves 26 = .ok (.getfield 60, 3) := by decide +kernel
theorem dX5_moves_29 : decode cX5_moves 29 = .ok (.iload_n 2, 1) := by decide +kernel
theorem dX5_moves_30 : decode cX5_moves 30 = .ok (.invokevirtual 79, 3) := by decide +kernel
theorem dX5_moves_33 : decode cX5_moves 33 = .ok (.istore_n 3, 1) := by decide +kernel
theorem dX5_moves_34 : decode cX5_moves 34 = .ok (.iload_n 3, 1) := by decide +kernel
theorem dX5_moves_35 : decode cX5_moves 35 = .ok (.iconst (-1), 1) := by decide +kernel
theorem dX5_moves_36 : decode cX5_moves 36 = .ok (.if_icmp .eq 15, 3) := by decide +kernel
theorem dX5_moves_39 : decode cX5_moves 39 = .ok (.iload_n 3, 1) := by decide +kernel
theorem dX5_moves_40 : decode cX5_moves 40 = .ok (.iload_n 1, 1) := by decide +kernel
theorem dX5_moves_41 : decode cX5_moves 41 = .ok (.if_icmp .eq 10, 3) := by decide +kernel
theorem dX5_moves_44 : decode cX5_moves 44 = .ok (.aload_n 0, 1) := by decide +kernel
theorem dX5_moves_45 : decode cX5_moves 45 = .ok (.bipush (-3), 2) := by decide +kernel
theorem dX5_moves_47 : decode cX5_moves 47 = .ok (.invokevirtual 56, 3) := by decide +kernel
theorem dX5_moves_50 : decode cX5_moves 50 = .ok (.ireturn, 1) := by decide +kernel
theorem dX5_moves_51 : decode cX5_moves 51 = .ok (.aload_n 0, 1) := by decide +kernel
theorem dX5_moves_52 : decode cX5_moves 52 = .ok (.getfield 10, 3) := by decide +kernel
theorem dX5_moves_55 : decode cX5_moves 55 = .ok (.getfield 82, 3) := by decide +kernel
theorem dX5_moves_58 : decode cX5_moves 58 = .ok (.aload_n 0, 1) := by decide +kernel
theorem dX5_moves_59 : decode cX5_moves 59 = .ok (.getfield 10, 3) := by decide +kernel
theorem dX5_moves_62 : decode cX5_moves 62 = .ok (.getfield 60, 3) := by decide +kernel
theorem dX5_moves_65 : decode cX5_moves 65 = .ok (.invokevirtual 105, 3) := by decide +kernel
theorem dX5_moves_68 : decode cX5_moves 68 = .ok (.aload_n 0, 1) := by decide +kernel
theorem dX5_moves_69 : decode cX5_moves 69 = .ok (.getfield 10, 3) := by decide +kernel
theorem dX5_moves_72 : decode cX5_moves 72 = .ok (.getfield 60, 3) := by decide +kernel
theorem dX5_moves_75 : decode cX5_moves 75 = .ok (.getfield 126, 3) := by decide +kernel
theorem dX5_moves_78 : decode cX5_moves 78 = .ok (.iload_n 1, 1) := by decide +kernel
theorem dX5_moves_79 : decode cX5_moves 79 = .ok (.iaload, 1) := by decide +kernel
theorem dX5_moves_80 : decode cX5_moves 80 = .ok (.istore 4, 2) := by decide +kernel
theorem dX5_moves_82 : decode cX5_moves 82 = .ok (.aload_n 0, 1) := by decide +kernel
theorem dX5_moves_83 : decode cX5_moves 83 = .ok (.getfield 10, 3) := by decide +kernel
theorem dX5_moves_86 : decode cX5_moves 86 = .ok (.getfield 60, 3) := by decide +kernel
theorem dX5_moves_89 : decode cX5_moves 89 = .ok (.getfield 126, 3) := by decide +kernel
theorem dX5_moves_92 : decode cX5_moves 92 = .ok (.iload_n 1, 1) := by decide +kernel
theorem dX5_moves_93 : decode cX5_moves 93 = .ok (.iload_n 2, 1) := by decide +kernel
theorem dX5_moves_94 : decode cX5_moves 94 = .ok (.iastore, 1) := by decide +kernel
theorem dX5_moves_95 : decode cX5_moves 95 = .ok (.iload 4, 2) := by decide +kernel
theorem dX5_moves_97 : decode cX5_moves 97 = .ok (.ireturn, 1) := by decide +kernel
set_option maxRecDepth 20000 in
theorem ggX5_woman_X5_isSeat : GoodIn wsX5_woman wsX5_isSeat := goodIn_r _ [5, 6, 7, 4, 8] (by decide +kernel) (by decide +kernel)
set_option maxRecDepth 20000 in
theorem gX5_woman_X5_isSeat : GoodIn wsX5_woman (va_wsS RX5 52 yX5_isSeat wsX5_isSeat) := goodIn_app (goodIn_of _ (by decide +kernel)) ggX5_woman_X5_isSeat
set_option maxRecDepth 20000 in
theorem ggX5_woman_X5_refuse : GoodIn wsX5_woman wsX5_refuse := goodIn_r _ [12, 13, 6, 7, 4, 8, 39, 40, 41, 42, 43, 44, 45, 46, 47] (by decide +kernel) (by decide +kernel)
set_option maxRecDepth 20000 in
theorem gX5_woman_X5_refuse : GoodIn wsX5_woman (wsV RX5 56 RX5 yX5_refuse wsX5_refuse) := goodIn_app (goodIn_of _ (by decide +kernel)) ggX5_woman_X5_refuse
set_option maxRecDepth 20000 in
theorem ggX5_woman_X1_keep : GoodIn wsX5_woman wsX1_keep := goodIn_r _ [17, 18, 19, 20, 21, 22, 23, 24, 25, 26, 27, 28, 29, 30, 31, 32, 33, 34, 35, 36, 37, 38, 61, 62, 63, 51, 52, 53, 54, 55, 56, 57, 58, 59, 60] (by decide +kernel) (by decide +kernel)
set_option maxRecDepth 20000 in
theorem gX5_woman_X1_keep_n105 : GoodIn wsX5_woman (wsX1_keep) := ggX5_woman_X1_keep
theorem dX5_woman_0 : decode cX5_woman 0 = .ok (.iload_n 1, 1) := by decide +kernel
theorem dX5_woman_1 : decode cX5_woman 1 = .ok (.invokestatic 52, 3) := by decide +kernel
theorem dX5_woman_4 : decode cX5_woman 4 = .ok (.ifCond .ne 10, 3) := by decide +kernel
theorem dX5_woman_7 : decode cX5_woman 7 = .ok (.aload_n 0, 1) := by decide +kernel
theorem dX5_woman_8 : decode cX5_woman 8 = .ok (.bipush (-2), 2) := by decide +kernel
theorem dX5_woman_10 : decode cX5_woman 10 = .ok (.invokevirtual 56, 3) := by decide +kernel
theorem dX5_woman_13 : decode cX5_woman 13 = .ok (.ireturn, 1) := by decide +kernel
theorem dX5_woman_14 : decode cX5_woman 14 = .ok (.aload_n 0, 1) := by decide +kernel
theorem dX5_woman_15 : decode cX5_woman 15 = .ok (.getfield 10, 3) := by decide +kernel
theorem dX5_woman_18 : decode cX5_woman 18 = .ok (.getfield 82, 3) := by decide +kernel
theorem dX5_woman_21 : decode cX5_woman 21 = .ok (.aload_n 0, 1) := by decide +kernel
theorem dX5_woman_22 : decode cX5_woman 22 = .ok (.getfield 10, 3) := by decide +kernel
theorem dX5_woman_25 : decode cX5_woman 25 = .ok (.getfield 60, 3) := by decide +kernel
theorem dX5_woman_28 : decode cX5_woman 28 = .ok (.invokevirtual 105, 3) := by decide +kernel
theorem dX5_woman_31 : decode cX5_woman 31 = .ok (.aload_n 0, 1) := by decide +kernel
theorem dX5_woman_32 : decode cX5_woman 32 = .ok (.getfield 10, 3) := by decide +kernel
theorem dX5_woman_35 : decode cX5_woman 35 = .ok (.getfield 60, 3) := by decide +kernel
theorem dX5_woman_38 : decode cX5_woman 38 = .ok (.getfield 129, 3) := by decide +kernel
theorem dX5_woman_41 : decode cX5_woman 41 = .ok (.istore_n 2, 1) := by decide +kernel
theorem dX5_woman_42 : decode cX5_woman 42 = .ok (.aload_n 0, 1) := by decide +kernel
theorem dX5_woman_43 : decode cX5_woman 43 = .ok (.getfield 10, 3) := by decide +kernel
theorem dX5_woman_46 : decode cX5_woman 46 = .ok (.getfield 60, 3) := by decide +kernel
theorem dX5_woman_49 : decode cX5_woman 49 = .ok (.iload_n 1, 1) := by decide +kernel
theorem dX5_woman_50 : decode cX5_woman 50 = .ok (.putfield 129, 3) := by decide +kernel
theorem dX5_woman_53 : decode cX5_woman 53 = .ok (.iload_n 2, 1) := by decide +kernel
theorem dX5_woman_54 : decode cX5_woman 54 = .ok (.ireturn, 1) := by decide +kernel
set_option maxRecDepth 20000 in
theorem ggX5_undo_X5_refuse : GoodIn wsX5_undo wsX5_refuse := goodIn_r _ [6, 7, 8, 9, 5, 10, 36, 37, 38, 39, 40, 41, 42, 43, 44] (by decide +kernel) (by decide +kernel)
set_option maxRecDepth 20000 in
theorem gX5_undo_X5_refuse : GoodIn wsX5_undo (wsV RX5 56 RX5 yX5_refuse wsX5_refuse) := goodIn_app (goodIn_of _ (by decide +kernel)) ggX5_undo_X5_refuse
set_option maxRecDepth 20000 in
theorem ggX5_undo_X1_giveBack : GoodIn wsX5_undo wsX1_giveBack := goodIn_r _ [14, 15, 16, 17, 18, 19, 20, 21, 22, 23, 24, 25, 26, 27, 28, 29, 30, 31, 32, 33, 34, 35, 48, 49, 50, 51, 52, 53, 54, 55, 56, 57, 58, 59, 60] (by decide +kernel) (by decide +kernel)
set_option maxRecDepth 20000 in
theorem gX5_undo_X1_giveBack_n135 : GoodIn wsX5_undo (wsX1_giveBack) := ggX5_undo_X1_giveBack
theorem dX5_undo_0 : decode cX5_undo 0 = .ok (.aload_n 0, 1) := by decide +kernel
theorem dX5_undo_1 : decode cX5_undo 1 = .ok (.getfield 10, 3) := by decide +kernel
theorem dX5_undo_4 : decode cX5_undo 4 = .ok (.getfield 82, 3) := by decide +kernel
theorem dX5_undo_7 : decode cX5_undo 7 = .ok (.getfield 132, 3) := by decide +kernel
theorem dX5_undo_10 : decode cX5_undo 10 = .ok (.ifCond .ne 10, 3) := by decide +kernel
theorem dX5_undo_13 : decode cX5_undo 13 = .ok (.aload_n 0, 1) := by decide +kernel
theorem dX5_undo_14 : decode cX5_undo 14 = .ok (.bipush (-3), 2) := by decide +kernel
theorem dX5_undo_16 : decode cX5_undo 16 = .ok (.invokevirtual 56, 3) := by decide +kernel
theorem dX5_undo_19 : decode cX5_undo 19 = .ok (.ireturn, 1) := by decide +kernel
theorem dX5_undo_20 : decode cX5_undo 20 = .ok (.aload_n 0, 1) := by decide +kernel
theorem dX5_undo_21 : decode cX5_undo 21 = .ok (.getfield 10, 3) := by decide +kernel
theorem dX5_undo_24 : decode cX5_undo 24 = .ok (.getfield 82, 3) := by decide +kernel
theorem dX5_undo_27 : decode cX5_undo 27 = .ok (.aload_n 0, 1) := by decide +kernel
theorem dX5_undo_28 : decode cX5_undo 28 = .ok (.getfield 10, 3) := by decide +kernel
theorem dX5_undo_31 : decode cX5_undo 31 = .ok (.getfield 60, 3) := by decide +kernel
theorem dX5_undo_34 : decode cX5_undo 34 = .ok (.invokevirtual 135, 3) := by decide +kernel
theorem dX5_undo_37 : decode cX5_undo 37 = .ok (.aload_n 0, 1) := by decide +kernel
theorem dX5_undo_38 : decode cX5_undo 38 = .ok (.getfield 10, 3) := by decide +kernel
theorem dX5_undo_41 : decode cX5_undo 41 = .ok (.getfield 60, 3) := by decide +kernel
theorem dX5_undo_44 : decode cX5_undo 44 = .ok (.getfield 108, 3) := by decide +kernel
theorem dX5_undo_47 : decode cX5_undo 47 = .ok (.ireturn, 1) := by decide +kernel
set_option maxRecDepth 20000 in
theorem ggX5_of_X5_isChild : GoodIn wsX5_of wsX5_isChild := goodIn_r _ [6, 1, 7, 8, 5, 9, 41, 42, 43, 44, 45, 46, 47, 48, 49, 50, 51, 52, 53, 54, 55, 56, 57, 58, 59, 60, 61, 62] (by decide +kernel) (by decide +kernel)
set_option maxRecDepth 20000 in
theorem gX5_of_X5_isChild : GoodIn wsX5_of (wsV RX5 120 RX5 yX5_isChild wsX5_isChild) := goodIn_app (goodIn_of _ (by decide +kernel)) ggX5_of_X5_isChild
set_option maxRecDepth 20000 in
theorem ggX5_of_X5_within : GoodIn wsX5_of wsX5_within := goodIn_r _ [9] (by decide +kernel) (by decide +kernel)
set_option maxRecDepth 20000 in
theorem gX5_of_X5_within : GoodIn wsX5_of (va_wsS RX5 75 yX5_within wsX5_within) := goodIn_app (goodIn_of _ (by decide +kernel)) ggX5_of_X5_within
set_option maxRecDepth 20000 in
theorem ggX5_of_X5_refuse : GoodIn wsX5_of wsX5_refuse := goodIn_r _ [13, 14, 7, 8, 5, 9, 41, 42, 43, 44, 45, 46, 47, 48, 49] (by decide +kernel) (by decide +kernel)
set_option maxRecDepth 20000 in
theorem gX5_of_X5_refuse : GoodIn wsX5_of (wsV RX5 56 RX5 yX5_refuse wsX5_refuse) := goodIn_app (goodIn_of _ (by decide +kernel)) ggX5_of_X5_refuse
set_option maxRecDepth 20000 in
theorem ggX5_of_X3_tightOf : GoodIn wsX5_of wsX3_tightOf := goodIn_r _ [18, 19, 20, 21, 22, 16, 23, 24, 25, 26, 27, 28, 29, 30, 31, 32, 33, 53, 54, 55, 56, 57, 58, 59, 60, 61, 62] (by decide +kernel) (by decide +kernel)
set_option maxRecDepth 20000 in
theorem gX5_of_X3_tightOf_n138 : GoodIn wsX5_of (wsX3_tightOf) := ggX5_of_X3_tightOf
set_option maxRecDepth 20000 in
theorem ggX5_of_X3_partOf : GoodIn wsX5_of wsX3_partOf := goodIn_r _ [36, 37, 19, 38, 39, 40, 53, 54, 55, 56, 57, 58, 59, 60, 61, 62] (by decide +kernel) (by decide +kernel)
set_option maxRecDepth 20000 in
theorem gX5_of_X3_partOf_n141 : GoodIn wsX5_of (wsX3_partOf) := ggX5_of_X3_partOf
theorem dX5_of_0 : decode cX5_of 0 = .ok (.aload_n 0, 1) := by decide +kernel
theorem dX5_of_1 : decode cX5_of 1 = .ok (.iload_n 1, 1) := by decide +kernel
theorem dX5_of_2 : decode cX5_of 2 = .ok (.invokevirtual 120, 3) := by decide +kernel
theorem dX5_of_5 : decode cX5_of 5 = .ok (.ifCond .eq 12, 3) := by decide +kernel
theorem dX5_of_8 : decode cX5_of 8 = .ok (.iload_n 2, 1) := by decide +kernel
theorem dX5_of_9 : decode cX5_of 9 = .ok (.iconst 0, 1) := by decide +kernel
theorem dX5_of_10 : decode cX5_of 10 = .ok (.iconst 5, 1) := by decide +kernel
theorem dX5_of_11 : decode cX5_of 11 = .ok (.invokestatic 75, 3) := by decide +kernel
theorem dX5_of_14 : decode cX5_of 14 = .ok (.ifCond .ne 10, 3) := by decide +kernel
theorem dX5_of_17 : decode cX5_of 17 = .ok (.aload_n 0, 1) := by decide +kernel
theorem dX5_of_18 : decode cX5_of 18 = .ok (.bipush (-2), 2) := by decide +kernel
theorem dX5_of_20 : decode cX5_of 20 = .ok (.invokevirtual 56, 3) := by decide +kernel
theorem dX5_of_23 : decode cX5_of 23 = .ok (.ireturn, 1) := by decide +kernel
theorem dX5_of_24 : decode cX5_of 24 = .ok (.iload_n 2, 1) := by decide +kernel
theorem dX5_of_25 : decode cX5_of 25 = .ok (.iconst 5, 1) := by decide +kernel
theorem dX5_of_26 : decode cX5_of 26 = .ok (.if_icmp .ne 17, 3) := by decide +kernel
theorem dX5_of_29 : decode cX5_of 29 = .ok (.aload_n 0, 1) := by decide +kernel
theorem dX5_of_30 : decode cX5_of 30 = .ok (.getfield 10, 3) := by decide +kernel
theorem dX5_of_33 : decode cX5_of 33 = .ok (.getfield 60, 3) := by decide +kernel
theorem dX5_of_36 : decode cX5_of 36 = .ok (.iload_n 1, 1) := by decide +kernel
theorem dX5_of_37 : decode cX5_of 37 = .ok (.invokevirtual 138, 3) := by decide +kernel
theorem dX5_of_40 : decode cX5_of 40 = .ok (.goto 15, 3) := by decide +kernel
theorem dX5_of_43 : decode cX5_of 43 = .ok (.aload_n 0, 1) := by decide +kernel
theorem dX5_of_44 : decode cX5_of 44 = .ok (.getfield 10, 3) := by decide +kernel
theorem dX5_of_47 : decode cX5_of 47 = .ok (.getfield 60, 3) := by decide +kernel
theorem dX5_of_50 : decode cX5_of 50 = .ok (.iload_n 1, 1) := by decide +kernel
theorem dX5_of_51 : decode cX5_of 51 = .ok (.iload_n 2, 1) := by decide +kernel
theorem dX5_of_52 : decode cX5_of 52 = .ok (.invokevirtual 141, 3) := by decide +kernel
theorem dX5_of_55 : decode cX5_of 55 = .ok (.ireturn, 1) := by decide +kernel
set_option maxRecDepth 20000 in
theorem ggX5_now_X5_isChild : GoodIn wsX5_now wsX5_isChild := goodIn_r _ [6, 1, 7, 8, 5, 9, 68, 69, 70, 71, 72, 73, 74, 75, 76, 77, 78, 79, 80, 81, 82, 83, 84, 85, 86, 87, 88, 89] (by decide +kernel) (by decide +kernel)
set_option maxRecDepth 20000 in
theorem gX5_now_X5_isChild : GoodIn wsX5_now (wsV RX5 120 RX5 yX5_isChild wsX5_isChild) := goodIn_app (goodIn_of _ (by decide +kernel)) ggX5_now_X5_isChild
set_option maxRecDepth 20000 in
theorem ggX5_now_X5_within : GoodIn wsX5_now wsX5_within := goodIn_r _ [9] (by decide +kernel) (by decide +kernel)
set_option maxRecDepth 20000 in
theorem gX5_now_X5_within : GoodIn wsX5_now (va_wsS RX5 75 yX5_within wsX5_within) := goodIn_app (goodIn_of _ (by decide +kernel)) ggX5_now_X5_within
set_option maxRecDepth 20000 in
theorem ggX5_now_X5_refuse : GoodIn wsX5_now wsX5_refuse := goodIn_r _ [13, 14, 7, 8, 5, 9, 68, 69, 70, 71, 72, 73, 74, 75, 76] (by decide +kernel) (by decide +kernel)
set_option maxRecDepth 20000 in
theorem gX5_now_X5_refuse : GoodIn wsX5_now (wsV RX5 56 RX5 yX5_refuse wsX5_refuse) := goodIn_app (goodIn_of _ (by decide +kernel)) ggX5_now_X5_refuse
set_option maxRecDepth 20000 in
theorem ggX5_now_X3_nearOf : GoodIn wsX5_now wsX3_nearOf := goodIn_r _ [18, 19, 20, 21, 16, 22, 23, 24, 25, 26, 27, 28, 29, 30, 31, 32, 33, 34, 35, 36, 37, 38, 39, 40, 41, 42, 43, 44, 45, 46, 47, 5, 48, 49, 50, 51, 52, 80, 81, 82, 83, 84, 85, 86, 87, 88, 89] (by decide +kernel) (by decide +kernel)
set_option maxRecDepth 20000 in
theorem gX5_now_X3_nearOf_n144 : GoodIn wsX5_now (wsX3_nearOf) := ggX5_now_X3_nearOf
set_option maxRecDepth 20000 in
theorem ggX5_now_X3_whomOf : GoodIn wsX5_now wsX3_whomOf := goodIn_r _ [55, 23, 32, 33, 16, 34, 56, 57, 58, 59, 28, 35, 36, 37, 80, 81, 82, 83, 84, 85, 86, 87, 88, 89] (by decide +kernel) (by decide +kernel)
set_option maxRecDepth 20000 in
theorem gX5_now_X3_whomOf_n147 : GoodIn wsX5_now (wsX3_whomOf) := ggX5_now_X3_whomOf
set_option maxRecDepth 20000 in
theorem ggX5_now_X3_biters : GoodIn wsX5_now wsX3_biters := goodIn_r _ [62, 28, 23, 24, 25, 26, 16, 27, 29, 30, 31, 32, 33, 34, 35, 36, 37, 63, 64, 65, 66, 67, 38, 39, 40, 41, 42, 43, 44, 45, 46, 47, 5, 48, 49, 50, 51, 52, 80, 81, 82, 83, 84, 85, 86, 87, 88, 89] (by decide +kernel) (by decide +kernel)
set_option maxRecDepth 20000 in
theorem gX5_now_X3_biters_n150 : GoodIn wsX5_now (wsX3_biters) := ggX5_now_X3_biters
theorem dX5_now_0 : decode cX5_now 0 = .ok (.aload_n 0, 1) := by decide +kernel
theorem dX5_now_1 : decode cX5_now 1 = .ok (.iload_n 1, 1) := by decide +kernel
theorem dX5_now_2 : decode cX5_now 2 = .ok (.invokevirtual 120, 3) := by decide +kernel
theorem dX5_now_5 : decode cX5_now 5 = .ok (.ifCond .eq 12, 3) := by decide +kernel
theorem dX5_now_8 : decode cX5_now 8 = .ok (.iload_n 2, 1) := by decide +kernel
theorem dX5_now_9 : decode cX5_now 9 = .ok (.iconst 0, 1) := by decide +kernel
theorem dX5_now_10 : decode cX5_now 10 = .ok (.iconst 2, 1) := by decide +kernel
theorem dX5_now_11 : decode cX5_now 11 = .ok (.invokestatic 75, 3) := by decide +kernel
theorem dX5_now_14 : decode cX5_now 14 = .ok (.ifCond .ne 13, 3) := by decide +kernel
theorem dX5_now_17 : decode cX5_now 17 = .ok (.aload_n 0, 1) := by decide +kernel
theorem dX5_now_18 : decode cX5_now 18 = .ok (.bipush (-2), 2) := by decide +kernel
theorem dX5_now_20 : decode cX5_now 20 = .ok (.invokevirtual 56, 3) := by decide +kernel
theorem dX5_now_23 : decode cX5_now 23 = .ok (.pop, 1) := by decide +kernel
theorem dX5_now_24 : decode cX5_now 24 = .ok (.bipush (-10), 2) := by decide +kernel
theorem dX5_now_26 : decode cX5_now 26 = .ok (.ireturn, 1) := by decide +kernel
theorem dX5_now_27 : decode cX5_now 27 = .ok (.iload_n 2, 1) := by decide +kernel
theorem dX5_now_28 : decode cX5_now 28 = .ok (.ifCond .ne 15, 3) := by decide +kernel
theorem dX5_now_31 : decode cX5_now 31 = .ok (.aload_n 0, 1) := by decide +kernel
theorem dX5_now_32 : decode cX5_now 32 = .ok (.getfield 10, 3) := by decide +kernel
theorem dX5_now_35 : decode cX5_now 35 = .ok (.getfield 60, 3) := by decide +kernel
theorem dX5_now_38 : decode cX5_now 38 = .ok (.iload_n 1, 1) := by decide +kernel
theorem dX5_now_39 : decode cX5_now 39 = .ok (.invokevirtual 144, 3) := by decide +kernel
theorem dX5_now_42 : decode cX5_now 42 = .ok (.ireturn, 1) := by decide +kernel
theorem dX5_now_43 : decode cX5_now 43 = .ok (.iload_n 2, 1) := by decide +kernel
theorem dX5_now_44 : decode cX5_now 44 = .ok (.iconst 1, 1) := by decide +kernel
theorem dX5_now_45 : decode cX5_now 45 = .ok (.if_icmp .ne 17, 3) := by decide +kernel
theorem dX5_now_48 : decode cX5_now 48 = .ok (.aload_n 0, 1) := by decide +kernel
theorem dX5_now_49 : decode cX5_now 49 = .ok (.getfield 10, 3) := by decide +kernel
theorem dX5_now_52 : decode cX5_now 52 = .ok (.getfield 60, 3) := by decide +kernel
theorem dX5_now_55 : decode cX5_now 55 = .ok (.iload_n 1, 1) := by decide +kernel
theorem dX5_now_56 : decode cX5_now 56 = .ok (.invokevirtual 147, 3) := by decide +kernel
theorem dX5_now_59 : decode cX5_now 59 = .ok (.goto 17, 3) := by decide +kernel
theorem dX5_now_62 : decode cX5_now 62 = .ok (.aload_n 0, 1) := by decide +kernel
theorem dX5_now_63 : decode cX5_now 63 = .ok (.getfield 10, 3) := by decide +kernel
theorem dX5_now_66 : decode cX5_now 66 = .ok (.getfield 60, 3) := by decide +kernel
theorem dX5_now_69 : decode cX5_now 69 = .ok (.invokevirtual 150, 3) := by decide +kernel
theorem dX5_now_72 : decode cX5_now 72 = .ok (.iload_n 1, 1) := by decide +kernel
theorem dX5_now_73 : decode cX5_now 73 = .ok (.ishr, 1) := by decide +kernel
theorem dX5_now_74 : decode cX5_now 74 = .ok (.iconst 1, 1) := by decide +kernel
theorem dX5_now_75 : decode cX5_now 75 = .ok (.iand, 1) := by decide +kernel
theorem dX5_now_76 : decode cX5_now 76 = .ok (.ireturn, 1) := by decide +kernel
set_option maxRecDepth 20000 in
theorem ggX5_then_X5_within : GoodIn wsX5_then wsX5_within := goodIn_r _ [6] (by decide +kernel) (by decide +kernel)
set_option maxRecDepth 20000 in
theorem gX5_then_X5_within : GoodIn wsX5_then (va_wsS RX5 75 yX5_within wsX5_within) := goodIn_app (goodIn_of _ (by decide +kernel)) ggX5_then_X5_within
set_option maxRecDepth 20000 in
theorem ggX5_then_X5_isChild : GoodIn wsX5_then wsX5_isChild := goodIn_r _ [10, 2, 3, 4, 5, 6, 95, 96, 97, 98, 99, 100, 101, 102, 103, 104, 105, 106, 107, 108, 109, 110, 111, 112, 113, 114, 115, 116] (by decide +kernel) (by decide +kernel)
set_option maxRecDepth 20000 in
theorem gX5_then_X5_isChild : GoodIn wsX5_then (wsV RX5 120 RX5 yX5_isChild wsX5_isChild) := goodIn_app (goodIn_of _ (by decide +kernel)) ggX5_then_X5_isChild
set_option maxRecDepth 20000 in
theorem ggX5_then_X5_refuse : GoodIn wsX5_then wsX5_refuse := goodIn_r _ [14, 15, 3, 4, 5, 6, 95, 96, 97, 98, 99, 100, 101, 102, 103] (by decide +kernel) (by decide +kernel)
set_option maxRecDepth 20000 in
theorem gX5_then_X5_refuse : GoodIn wsX5_then (wsV RX5 56 RX5 yX5_refuse wsX5_refuse) := goodIn_app (goodIn_of _ (by decide +kernel)) ggX5_then_X5_refuse
set_option maxRecDepth 20000 in
theorem ggX5_then_X3_copyFrom : GoodIn wsX5_then wsX3_copyFrom := goodIn_r _ [19, 20, 21, 22, 23, 24, 25, 26, 27, 28, 29, 30, 31, 32, 33, 107, 108, 109, 110, 111, 112, 113, 114, 115, 116] (by decide +kernel) (by decide +kernel)
set_option maxRecDepth 20000 in
theorem gX5_then_X3_copyFrom_n154 : GoodIn wsX5_then (wsX3_copyFrom) := ggX5_then_X3_copyFrom
set_option maxRecDepth 20000 in
theorem ggX5_then_X3_passMinutes : GoodIn wsX5_then wsX3_passMinutes := goodIn_r _ [36, 37, 38, 39, 17, 40, 24, 33, 32, 41, 42, 43, 44, 45, 46, 47, 23, 22, 21, 48, 49, 50, 51, 30, 52, 53, 54, 55, 56, 57, 58, 59, 60, 61, 62, 63, 64, 65, 66, 67, 68, 20, 69, 70, 71, 72, 25, 31, 73, 5, 74, 75, 76, 77, 78, 79, 80, 81, 82, 83, 84, 85, 86, 87, 88, 89, 90, 91, 92, 93, 94, 107, 108, 109, 110, 111, 112, 113, 114, 115, 116] (by decide +kernel) (by decide +kernel)
set_option maxRecDepth 20000 in
theorem gX5_then_X3_passMinutes_n117 : GoodIn wsX5_then (wsX3_passMinutes) := ggX5_then_X3_passMinutes
theorem dX5_then_0 : decode cX5_then 0 = .ok (.iload_n 1, 1) := by decide +kernel
theorem dX5_then_1 : decode cX5_then 1 = .ok (.iconst 0, 1) := by decide +kernel
theorem dX5_then_2 : decode cX5_then 2 = .ok (.bipush 60, 2) := by decide +kernel
theorem dX5_then_4 : decode cX5_then 4 = .ok (.invokestatic 75, 3) := by decide +kernel
theorem dX5_then_7 : decode cX5_then 7 = .ok (.ifCond .eq 16, 3) := by decide +kernel
theorem dX5_then_10 : decode cX5_then 10 = .ok (.iload_n 2, 1) := by decide +kernel
theorem dX5_then_11 : decode cX5_then 11 = .ok (.iconst (-1), 1) := by decide +kernel
theorem dX5_then_12 : decode cX5_then 12 = .ok (.if_icmp .eq 18, 3) := by decide +kernel
theorem dX5_then_15 : decode cX5_then 15 = .ok (.aload_n 0, 1) := by decide +kernel
theorem dX5_then_16 : decode cX5_then 16 = .ok (.iload_n 2, 1) := by decide +kernel
theorem dX5_then_17 : decode cX5_then 17 = .ok (.invokevirtual 120, 3) := by decide +kernel
theorem dX5_then_20 : decode cX5_then 20 = .ok (.ifCond .ne 10, 3) := by decide +kernel
theorem dX5_then_23 : decode cX5_then 23 = .ok (.aload_n 0, 1) := by decide +kernel
theorem dX5_then_24 : decode cX5_then 24 = .ok (.bipush (-2), 2) := by decide +kernel
theorem dX5_then_26 : decode cX5_then 26 = .ok (.invokevirtual 56, 3) := by decide +kernel
theorem dX5_then_29 : decode cX5_then 29 = .ok (.ireturn, 1) := by decide +kernel
theorem dX5_then_30 : decode cX5_then 30 = .ok (.aload_n 0, 1) := by decide +kernel
theorem dX5_then_31 : decode cX5_then 31 = .ok (.getfield 34, 3) := by decide +kernel
theorem dX5_then_34 : decode cX5_then 34 = .ok (.aload_n 0, 1) := by decide +kernel
theorem dX5_then_35 : decode cX5_then 35 = .ok (.getfield 10, 3) := by decide +kernel
theorem dX5_then_38 : decode cX5_then 38 = .ok (.getfield 60, 3) := by decide +kernel
theorem dX5_then_41 : decode cX5_then 41 = .ok (.invokevirtual 154, 3) := by decide +kernel
theorem dX5_then_44 : decode cX5_then 44 = .ok (.aload_n 0, 1) := by decide +kernel
theorem dX5_then_45 : decode cX5_then 45 = .ok (.getfield 34, 3) := by decide +kernel
theorem dX5_then_48 : decode cX5_then 48 = .ok (.iload_n 1, 1) := by decide +kernel
theorem dX5_then_49 : decode cX5_then 49 = .ok (.invokevirtual 117, 3) := by decide +kernel
theorem dX5_then_52 : decode cX5_then 52 = .ok (.pop, 1) := by decide +kernel
theorem dX5_then_53 : decode cX5_then 53 = .ok (.iload_n 2, 1) := by decide +kernel
theorem dX5_then_54 : decode cX5_then 54 = .ok (.iconst (-1), 1) := by decide +kernel
theorem dX5_then_55 : decode cX5_then 55 = .ok (.if_icmp .ne 13, 3) := by decide +kernel
theorem dX5_then_58 : decode cX5_then 58 = .ok (.aload_n 0, 1) := by decide +kernel
theorem dX5_then_59 : decode cX5_then 59 = .ok (.getfield 34, 3) := by decide +kernel
theorem dX5_then_62 : decode cX5_then 62 = .ok (.getfield 157, 3) := by decide +kernel
theorem dX5_then_65 : decode cX5_then 65 = .ok (.goto 12, 3) := by decide +kernel
theorem dX5_then_68 : decode cX5_then 68 = .ok (.aload_n 0, 1) := by decide +kernel
theorem dX5_then_69 : decode cX5_then 69 = .ok (.getfield 34, 3) := by decide +kernel
theorem dX5_then_72 : decode cX5_then 72 = .ok (.getfield 160, 3) := by decide +kernel
theorem dX5_then_75 : decode cX5_then 75 = .ok (.iload_n 2, 1) := by decide +kernel
theorem dX5_then_76 : decode cX5_then 76 = .ok (.iaload, 1) := by decide +kernel
theorem dX5_then_77 : decode cX5_then 77 = .ok (.ireturn, 1) := by decide +kernel
set_option maxRecDepth 20000 in
theorem ggX5_quiet_X3_copyFrom : GoodIn wsX5_quiet wsX3_copyFrom := goodIn_r _ [6, 7, 8, 9, 10, 11, 12, 13, 14, 15, 16, 17, 18, 19, 20, 91, 92, 93, 94, 95, 96, 97, 98, 99, 100] (by decide +kernel) (by decide +kernel)
set_option maxRecDepth 20000 in
theorem gX5_quiet_X3_copyFrom_n154 : GoodIn wsX5_quiet (wsX3_copyFrom) := ggX5_quiet_X3_copyFrom
set_option maxRecDepth 20000 in
theorem ggX5_quiet_X3_passMinute : GoodIn wsX5_quiet wsX3_passMinute := goodIn_r _ [23, 11, 20, 19, 24, 25, 26, 27, 28, 29, 30, 10, 9, 8, 31, 32, 33, 4, 34, 17, 35, 36, 37, 38, 39, 40, 41, 42, 43, 44, 45, 46, 47, 48, 49, 50, 51, 7, 52, 53, 54, 55, 12, 18, 56, 57, 58, 59, 60, 61, 62, 63, 64, 65, 66, 67, 68, 69, 70, 71, 72, 73, 74, 75, 76, 77, 78, 91, 92, 93, 94, 95, 96, 97, 98, 99, 100] (by decide +kernel) (by decide +kernel)
set_option maxRecDepth 20000 in
theorem gX5_quiet_X3_passMinute_n163 : GoodIn wsX5_quiet (wsX3_passMinute) := ggX5_quiet_X3_passMinute
theorem dX5_quiet_0 : decode cX5_quiet 0 = .ok (.aload_n 0, 1) := by decide +kernel
theorem dX5_quiet_1 : decode cX5_quiet 1 = .ok (.getfield 34, 3) := by decide +kernel
theorem dX5_quiet_4 : decode cX5_quiet 4 = .ok (.aload_n 0, 1) := by decide +kernel
theorem dX5_quiet_5 : decode cX5_quiet 5 = .ok (.getfield 10, 3) := by decide +kernel
theorem dX5_quiet_8 : decode cX5_quiet 8 = .ok (.getfield 60, 3) := by decide +kernel
theorem dX5_quiet_11 : decode cX5_quiet 11 = .ok (.invokevirtual 154, 3) := by decide +kernel
theorem dX5_quiet_14 : decode cX5_quiet 14 = .ok (.iconst 1, 1) := by decide +kernel
theorem dX5_quiet_15 : decode cX5_quiet 15 = .ok (.istore_n 1, 1) := by decide +kernel
theorem dX5_quiet_16 : decode cX5_quiet 16 = .ok (.iload_n 1, 1) := by decide +kernel
theorem dX5_quiet_17 : decode cX5_quiet 17 = .ok (.bipush 60, 2) := by decide +kernel
theorem dX5_quiet_19 : decode cX5_quiet 19 = .ok (.if_icmp .gt 21, 3) := by decide +kernel
theorem dX5_quiet_22 : decode cX5_quiet 22 = .ok (.aload_n 0, 1) := by decide +kernel
theorem dX5_quiet_23 : decode cX5_quiet 23 = .ok (.getfield 34, 3) := by decide +kernel
theorem dX5_quiet_26 : decode cX5_quiet 26 = .ok (.invokevirtual 163, 3) := by decide +kernel
theorem dX5_quiet_29 : decode cX5_quiet 29 = .ok (.ifCond .le 5, 3) := by decide +kernel
theorem dX5_quiet_32 : decode cX5_quiet 32 = .ok (.iload_n 1, 1) := by decide +kernel
theorem dX5_quiet_33 : decode cX5_quiet 33 = .ok (.ireturn, 1) := by decide +kernel
theorem dX5_quiet_34 : decode cX5_quiet 34 = .ok (.iinc 1 1, 3) := by decide +kernel
theorem dX5_quiet_37 : decode cX5_quiet 37 = .ok (.goto (-21), 3) := by decide +kernel
theorem dX5_quiet_40 : decode cX5_quiet 40 = .ok (.iconst (-1), 1) := by decide +kernel
theorem dX5_quiet_41 : decode cX5_quiet 41 = .ok (.ireturn, 1) := by decide +kernel
set_option maxRecDepth 20000 in
theorem ggX5_stand_X5_within : GoodIn wsX5_stand wsX5_within := goodIn_r _ [6] (by decide +kernel) (by decide +kernel)
set_option maxRecDepth 20000 in
theorem gX5_stand_X5_within : GoodIn wsX5_stand (va_wsS RX5 75 yX5_within wsX5_within) := goodIn_app (goodIn_of _ (by decide +kernel)) ggX5_stand_X5_within
set_option maxRecDepth 20000 in
theorem ggX5_stand_X5_refuse : GoodIn wsX5_stand wsX5_refuse := goodIn_r _ [10, 11, 3, 4, 5, 6, 91, 92, 93, 94, 95, 96, 97, 98, 99] (by decide +kernel) (by decide +kernel)
set_option maxRecDepth 20000 in
theorem gX5_stand_X5_refuse : GoodIn wsX5_stand (wsV RX5 56 RX5 yX5_refuse wsX5_refuse) := goodIn_app (goodIn_of _ (by decide +kernel)) ggX5_stand_X5_refuse
set_option maxRecDepth 20000 in
theorem ggX5_stand_X3_copyFrom : GoodIn wsX5_stand wsX3_copyFrom := goodIn_r _ [15, 16, 17, 18, 19, 20, 21, 22, 23, 24, 25, 26, 27, 28, 29, 103, 104, 105, 106, 107, 108, 109, 110, 111, 112] (by decide +kernel) (by decide +kernel)
set_option maxRecDepth 20000 in
theorem gX5_stand_X3_copyFrom_n154 : GoodIn wsX5_stand (wsX3_copyFrom) := ggX5_stand_X3_copyFrom
set_option maxRecDepth 20000 in
theorem ggX5_stand_X3_passMinutes : GoodIn wsX5_stand wsX3_passMinutes := goodIn_r _ [32, 33, 34, 35, 13, 36, 20, 29, 28, 37, 38, 39, 40, 41, 42, 43, 19, 18, 17, 44, 45, 46, 47, 26, 48, 49, 50, 51, 52, 53, 54, 55, 56, 57, 58, 59, 60, 61, 62, 63, 64, 16, 65, 66, 67, 68, 21, 27, 69, 5, 70, 71, 72, 73, 74, 75, 76, 77, 78, 79, 80, 81, 82, 83, 84, 85, 86, 87, 88, 89, 90, 103, 104, 105, 106, 107, 108, 109, 110, 111, 112] (by decide +kernel) (by decide +kernel)
set_option maxRecDepth 20000 in
theorem gX5_stand_X3_passMinutes_n117 : GoodIn wsX5_stand (wsX3_passMinutes) := ggX5_stand_X3_passMinutes
theorem dX5_stand_0 : decode cX5_stand 0 = .ok (.iload_n 1, 1) := by decide +kernel
theorem dX5_stand_1 : decode cX5_stand 1 = .ok (.iconst 1, 1) := by decide +kernel
theorem dX5_stand_2 : decode cX5_stand 2 = .ok (.bipush 60, 2) := by decide +kernel
theorem dX5_stand_4 : decode cX5_stand 4 = .ok (.invokestatic 75, 3) := by decide +kernel
theorem dX5_stand_7 : decode cX5_stand 7 = .ok (.ifCond .eq 12, 3) := by decide +kernel
theorem dX5_stand_10 : decode cX5_stand 10 = .ok (.iload_n 2, 1) := by decide +kernel
theorem dX5_stand_11 : decode cX5_stand 11 = .ok (.iconst 0, 1) := by decide +kernel
theorem dX5_stand_12 : decode cX5_stand 12 = .ok (.iconst 1, 1) := by decide +kernel
theorem dX5_stand_13 : decode cX5_stand 13 = .ok (.invokestatic 75, 3) := by decide +kernel
theorem dX5_stand_16 : decode cX5_stand 16 = .ok (.ifCond .ne 10, 3) := by decide +kernel
theorem dX5_stand_19 : decode cX5_stand 19 = .ok (.aload_n 0, 1) := by decide +kernel
theorem dX5_stand_20 : decode cX5_stand 20 = .ok (.bipush (-2), 2) := by decide +kernel
theorem dX5_stand_22 : decode cX5_stand 22 = .ok (.invokevirtual 56, 3) := by decide +kernel
theorem dX5_stand_25 : decode cX5_stand 25 = .ok (.ireturn, 1) := by decide +kernel
theorem dX5_stand_26 : decode cX5_stand 26 = .ok (.iconst (-1), 1) := by decide +kernel
theorem dX5_stand_27 : decode cX5_stand 27 = .ok (.istore_n 3, 1) := by decide +kernel
theorem dX5_stand_28 : decode cX5_stand 28 = .ok (.bipush 6, 2) := by decide +kernel
theorem dX5_stand_30 : decode cX5_stand 30 = .ok (.iload_n 1, 1) := by decide +kernel
theorem dX5_stand_31 : decode cX5_stand 31 = .ok (.imul, 1) := by decide +kernel
theorem dX5_stand_32 : decode cX5_stand 32 = .ok (.iconst 1, 1) := by decide +kernel
theorem dX5_stand_33 : decode cX5_stand 33 = .ok (.iadd, 1) := by decide +kernel
theorem dX5_stand_34 : decode cX5_stand 34 = .ok (.istore 4, 2) := by decide +kernel
theorem dX5_stand_36 : decode cX5_stand 36 = .ok (.iconst 0, 1) := by decide +kernel
theorem dX5_stand_37 : decode cX5_stand 37 = .ok (.istore 5, 2) := by decide +kernel
theorem dX5_stand_39 : decode cX5_stand 39 = .ok (.iload 5, 2) := by decide +kernel
theorem dX5_stand_41 : decode cX5_stand 41 = .ok (.bipush 8, 2) := by decide +kernel
theorem dX5_stand_43 : decode cX5_stand 43 = .ok (.if_icmp .ge 56, 3) := by decide +kernel
theorem dX5_stand_46 : decode cX5_stand 46 = .ok (.aload_n 0, 1) := by decide +kernel
theorem dX5_stand_47 : decode cX5_stand 47 = .ok (.getfield 34, 3) := by decide +kernel
theorem dX5_stand_50 : decode cX5_stand 50 = .ok (.aload_n 0, 1) := by decide +kernel
theorem dX5_stand_51 : decode cX5_stand 51 = .ok (.getfield 10, 3) := by decide +kernel
theorem dX5_stand_54 : decode cX5_stand 54 = .ok (.getfield 60, 3) := by decide +kernel
theorem dX5_stand_57 : decode cX5_stand 57 = .ok (.invokevirtual 154, 3) := by decide +kernel
theorem dX5_stand_60 : decode cX5_stand 60 = .ok (.aload_n 0, 1) := by decide +kernel
theorem dX5_stand_61 : decode cX5_stand 61 = .ok (.getfield 34, 3) := by decide +kernel
theorem dX5_stand_64 : decode cX5_stand 64 = .ok (.iload 5, 2) := by decide +kernel
theorem dX5_stand_66 : decode cX5_stand 66 = .ok (.putfield 129, 3) := by decide +kernel
theorem dX5_stand_69 : decode cX5_stand 69 = .ok (.aload_n 0, 1) := by decide +kernel
theorem dX5_stand_70 : decode cX5_stand 70 = .ok (.getfield 34, 3) := by decide +kernel
theorem dX5_stand_73 : decode cX5_stand 73 = .ok (.iload_n 1, 1) := by decide +kernel
theorem dX5_stand_74 : decode cX5_stand 74 = .ok (.invokevirtual 117, 3) := by decide +kernel
theorem dX5_stand_77 : decode cX5_stand 77 = .ok (.istore 6, 2) := by decide +kernel
theorem dX5_stand_79 : decode cX5_stand 79 = .ok (.iload 6, 2) := by decide +kernel
theorem dX5_stand_81 : decode cX5_stand 81 = .ok (.iload 4, 2) := by decide +kernel
theorem dX5_stand_83 : decode cX5_stand 83 = .ok (.if_icmp .ge 10, 3) := by decide +kernel
theorem dX5_stand_86 : decode cX5_stand 86 = .ok (.iload 6, 2) := by decide +kernel
theorem dX5_stand_88 : decode cX5_stand 88 = .ok (.istore 4, 2) := by decide +kernel
theorem dX5_stand_90 : decode cX5_stand 90 = .ok (.iload 5, 2) := by decide +kernel
theorem dX5_stand_92 : decode cX5_stand 92 = .ok (.istore_n 3, 1) := by decide +kernel
theorem dX5_stand_93 : decode cX5_stand 93 = .ok (.iinc 5 1, 3) := by decide +kernel
theorem dX5_stand_96 : decode cX5_stand 96 = .ok (.goto (-57), 3) := by decide +kernel
theorem dX5_stand_99 : decode cX5_stand 99 = .ok (.iload_n 2, 1) := by decide +kernel
theorem dX5_stand_100 : decode cX5_stand 100 = .ok (.ifCond .ne 7, 3) := by decide +kernel
theorem dX5_stand_103 : decode cX5_stand 103 = .ok (.iload_n 3, 1) := by decide +kernel
theorem dX5_stand_104 : decode cX5_stand 104 = .ok (.goto 5, 3) := by decide +kernel
theorem dX5_stand_107 : decode cX5_stand 107 = .ok (.iload 4, 2) := by decide +kernel
theorem dX5_stand_109 : decode cX5_stand 109 = .ok (.ireturn, 1) := by decide +kernel
set_option maxRecDepth 20000 in
theorem ggX5_helps_X3_copyFrom : GoodIn wsX5_helps wsX3_copyFrom := goodIn_r _ [6, 7, 8, 9, 10, 11, 12, 13, 14, 15, 16, 17, 18, 19, 20, 102, 103, 104, 105, 106, 107, 108, 109, 110, 111] (by decide +kernel) (by decide +kernel)
set_option maxRecDepth 20000 in
theorem gX5_helps_X3_copyFrom_n154 : GoodIn wsX5_helps (wsX3_copyFrom) := ggX5_helps_X3_copyFrom
set_option maxRecDepth 20000 in
theorem ggX5_helps_X3_passMinutes : GoodIn wsX5_helps wsX3_passMinutes := goodIn_r _ [23, 24, 25, 26, 4, 27, 11, 20, 19, 28, 29, 30, 31, 32, 33, 34, 10, 9, 8, 35, 36, 37, 38, 17, 39, 40, 41, 42, 43, 44, 45, 46, 47, 48, 49, 50, 51, 52, 53, 54, 55, 7, 56, 57, 58, 59, 12, 18, 60, 61, 62, 63, 64, 65, 66, 67, 68, 69, 70, 71, 72, 73, 74, 75, 76, 77, 78, 79, 80, 81, 82, 102, 103, 104, 105, 106, 107, 108, 109, 110, 111] (by decide +kernel) (by decide +kernel)
set_option maxRecDepth 20000 in
theorem gX5_helps_X3_passMinutes_n117 : GoodIn wsX5_helps (wsX3_passMinutes) := ggX5_helps_X3_passMinutes
set_option maxRecDepth 20000 in
theorem ggX5_helps_X5_bitesWithCarrot : GoodIn wsX5_helps wsX5_bitesWithCarrot := goodIn_r _ [86, 1, 2, 3, 4, 5, 6, 7, 8, 9, 10, 11, 12, 13, 14, 15, 16, 17, 18, 19, 20, 21, 22, 23, 24, 25, 26, 27, 28, 29, 30, 31, 32, 33, 34, 35, 36, 37, 38, 39, 40, 41, 42, 43, 44, 45, 46, 47, 48, 49, 50, 51, 52, 53, 54, 55, 56, 57, 58, 59, 60, 61, 62, 63, 64, 65, 66, 67, 68, 69, 70, 71, 72, 73, 74, 75, 76, 77, 78, 79, 80, 81, 82, 87, 88, 89, 90, 91, 92, 93, 94, 95, 96, 97, 98, 99, 100, 101, 102, 103, 104, 105, 106, 107, 108, 109, 110, 111] (by decide +kernel) (by decide +kernel)
set_option maxRecDepth 20000 in
theorem gX5_helps_X5_bitesWithCarrot : GoodIn wsX5_helps (wsV RX5 166 RX5 yX5_bitesWithCarrot wsX5_bitesWithCarrot) := goodIn_app (goodIn_of _ (by decide +kernel)) ggX5_helps_X5_bitesWithCarrot
theorem dX5_helps_0 : decode cX5_helps 0 = .ok (.iconst (-1), 1) := by decide +kernel
theorem dX5_helps_1 : decode cX5_helps 1 = .ok (.istore_n 1, 1) := by decide +kernel
theorem dX5_helps_2 : decode cX5_helps 2 = .ok (.aload_n 0, 1) := by decide +kernel
theorem dX5_helps_3 : decode cX5_helps 3 = .ok (.getfield 34, 3) := by decide +kernel
theorem dX5_helps_6 : decode cX5_helps 6 = .ok (.aload_n 0, 1) := by decide +kernel
theorem dX5_helps_7 : decode cX5_helps 7 = .ok (.getfield 10, 3) := by decide +kernel
theorem dX5_helps_10 : decode cX5_helps 10 = .ok (.getfield 60, 3) := by decide +kernel
theorem dX5_helps_13 : decode cX5_helps 13 = .ok (.invokevirtual 154, 3) := by decide +kernel
theorem dX5_helps_16 : decode cX5_helps 16 = .ok (.aload_n 0, 1) := by decide +kernel
theorem dX5_helps_17 : decode cX5_helps 17 = .ok (.getfield 34, 3) := by decide +kernel
theorem dX5_helps_20 : decode cX5_helps 20 = .ok (.bipush 20, 2) := by decide +kernel
theorem dX5_helps_22 : decode cX5_helps 22 = .ok (.invokevirtual 117, 3) := by decide +kernel
theorem dX5_helps_25 : decode cX5_helps 25 = .ok (.istore_n 2, 1) := by decide +kernel
theorem dX5_helps_26 : decode cX5_helps 26 = .ok (.iconst 0, 1) := by decide +kernel
theorem dX5_helps_27 : decode cX5_helps 27 = .ok (.istore_n 3, 1) := by decide +kernel
theorem dX5_helps_28 : decode cX5_helps 28 = .ok (.iload_n 3, 1) := by decide +kernel
theorem dX5_helps_29 : decode cX5_helps 29 = .ok (.aload_n 0, 1) := by decide +kernel
theorem dX5_helps_30 : decode cX5_helps 30 = .ok (.getfield 10, 3) := by decide +kernel
theorem dX5_helps_33 : decode cX5_helps 33 = .ok (.getfield 60, 3) := by decide +kernel
theorem dX5_helps_36 : decode cX5_helps 36 = .ok (.getfield 63, 3) := by decide +kernel
theorem dX5_helps_39 : decode cX5_helps 39 = .ok (.if_icmp .ge 51, 3) := by decide +kernel
theorem dX5_helps_42 : decode cX5_helps 42 = .ok (.iconst 0, 1) := by decide +kernel
theorem dX5_helps_43 : decode cX5_helps 43 = .ok (.istore 4, 2) := by decide +kernel
theorem dX5_helps_45 : decode cX5_helps 45 = .ok (.iload 4, 2) := by decide +kernel
theorem dX5_helps_47 : decode cX5_helps 47 = .ok (.bipush 10, 2) := by decide +kernel
theorem dX5_helps_49 : decode cX5_helps 49 = .ok (.if_icmp .ge 35, 3) := by decide +kernel
theorem dX5_helps_52 : decode cX5_helps 52 = .ok (.aload_n 0, 1) := by decide +kernel
theorem dX5_helps_53 : decode cX5_helps 53 = .ok (.iload_n 3, 1) := by decide +kernel
theorem dX5_helps_54 : decode cX5_helps 54 = .ok (.iload 4, 2) := by decide +kernel
theorem dX5_helps_56 : decode cX5_helps 56 = .ok (.invokevirtual 166, 3) := by decide +kernel
theorem dX5_helps_59 : decode cX5_helps 59 = .ok (.istore 5, 2) := by decide +kernel
theorem dX5_helps_61 : decode cX5_helps 61 = .ok (.iload 5, 2) := by decide +kernel
theorem dX5_helps_63 : decode cX5_helps 63 = .ok (.iload_n 2, 1) := by decide +kernel
theorem dX5_helps_64 : decode cX5_helps 64 = .ok (.if_icmp .ge 14, 3) := by decide +kernel
theorem dX5_helps_67 : decode cX5_helps 67 = .ok (.iload 5, 2) := by decide +kernel
theorem dX5_helps_69 : decode cX5_helps 69 = .ok (.istore_n 2, 1) := by decide +kernel
theorem dX5_helps_70 : decode cX5_helps 70 = .ok (.bipush 10, 2) := by decide +kernel
theorem dX5_helps_72 : decode cX5_helps 72 = .ok (.iload_n 3, 1) := by decide +kernel
theorem dX5_helps_73 : decode cX5_helps 73 = .ok (.imul, 1) := by decide +kernel
theorem dX5_helps_74 : decode cX5_helps 74 = .ok (.iload 4, 2) := by decide +kernel
theorem dX5_helps_76 : decode cX5_helps 76 = .ok (.iadd, 1) := by decide +kernel
theorem dX5_helps_77 : decode cX5_helps 77 = .ok (.istore_n 1, 1) := by decide +kernel
theorem dX5_helps_78 : decode cX5_helps 78 = .ok (.iinc 4 1, 3) := by decide +kernel
theorem dX5_helps_81 : decode cX5_helps 81 = .ok (.goto (-36), 3) := by decide +kernel
theorem dX5_helps_84 : decode cX5_helps 84 = .ok (.iinc 3 1, 3) := by decide +kernel
theorem dX5_helps_87 : decode cX5_helps 87 = .ok (.goto (-59), 3) := by decide +kernel
theorem dX5_helps_90 : decode cX5_helps 90 = .ok (.iload_n 1, 1) := by decide +kernel
theorem dX5_helps_91 : decode cX5_helps 91 = .ok (.ireturn, 1) := by decide +kernel
set_option maxRecDepth 20000 in
theorem ggX5_seated_X5_isChild : GoodIn wsX5_seated wsX5_isChild := goodIn_r _ [8, 1, 9, 10, 7, 11, 79, 80, 81, 82, 83, 84, 85, 86, 87, 88, 89, 90, 91, 92, 93, 94, 95, 96, 97, 98, 99, 100] (by decide +kernel) (by decide +kernel)
set_option maxRecDepth 20000 in
theorem gX5_seated_X5_isChild : GoodIn wsX5_seated (wsV RX5 120 RX5 yX5_isChild wsX5_isChild) := goodIn_app (goodIn_of _ (by decide +kernel)) ggX5_seated_X5_isChild
set_option maxRecDepth 20000 in
theorem ggX5_seated_X5_refuse : GoodIn wsX5_seated wsX5_refuse := goodIn_r _ [15, 16, 9, 10, 7, 11, 79, 80, 81, 82, 83, 84, 85, 86, 87] (by decide +kernel) (by decide +kernel)
set_option maxRecDepth 20000 in
theorem gX5_seated_X5_refuse : GoodIn wsX5_seated (wsV RX5 56 RX5 yX5_refuse wsX5_refuse) := goodIn_app (goodIn_of _ (by decide +kernel)) ggX5_seated_X5_refuse
set_option maxRecDepth 20000 in
theorem ggX5_seated_X3_copyFrom : GoodIn wsX5_seated wsX3_copyFrom := goodIn_r _ [20, 21, 22, 23, 24, 25, 26, 27, 28, 29, 30, 31, 32, 33, 34, 91, 92, 93, 94, 95, 96, 97, 98, 99, 100] (by decide +kernel) (by decide +kernel)
set_option maxRecDepth 20000 in
theorem gX5_seated_X3_copyFrom_n154 : GoodIn wsX5_seated (wsX3_copyFrom) := ggX5_seated_X3_copyFrom
set_option maxRecDepth 20000 in
theorem ggX5_seated_X5_seatRest : GoodIn wsX5_seated wsX5_seatRest := goodIn_r _ [37, 38, 28, 29, 30, 39, 18, 40, 41, 25, 31, 42, 43, 44, 45, 46, 47, 48, 49, 50, 51, 52, 53, 54, 55, 56, 57, 58, 21, 59, 60, 61, 62, 26, 33, 32, 34, 24, 63, 7, 64, 65, 66, 67, 68, 69, 70, 71, 72, 73, 74, 75, 76, 77, 78, 35, 36, 91, 92, 93, 94, 95, 96, 97, 98, 99, 100] (by decide +kernel) (by decide +kernel)
set_option maxRecDepth 20000 in
theorem gX5_seated_X5_seatRest : GoodIn wsX5_seated (va_wsS RX5 169 yX5_seatRest wsX5_seatRest) := goodIn_app (goodIn_of _ (by decide +kernel)) ggX5_seated_X5_seatRest
theorem dX5_seated_0 : decode cX5_seated 0 = .ok (.iload_n 1, 1) := by decide +kernel
theorem dX5_seated_1 : decode cX5_seated 1 = .ok (.iconst (-1), 1) := by decide +kernel
theorem dX5_seated_2 : decode cX5_seated 2 = .ok (.if_icmp .eq 21, 3) := by decide +kernel
theorem dX5_seated_5 : decode cX5_seated 5 = .ok (.aload_n 0, 1) := by decide +kernel
theorem dX5_seated_6 : decode cX5_seated 6 = .ok (.iload_n 1, 1) := by decide +kernel
theorem dX5_seated_7 : decode cX5_seated 7 = .ok (.invokevirtual 120, 3) := by decide +kernel
theorem dX5_seated_10 : decode cX5_seated 10 = .ok (.ifCond .ne 13, 3) := by decide +kernel
theorem dX5_seated_13 : decode cX5_seated 13 = .ok (.aload_n 0, 1) := by decide +kernel
theorem dX5_seated_14 : decode cX5_seated 14 = .ok (.bipush (-2), 2) := by decide +kernel
theorem dX5_seated_16 : decode cX5_seated 16 = .ok (.invokevirtual 56, 3) := by decide +kernel
theorem dX5_seated_19 : decode cX5_seated 19 = .ok (.pop, 1) := by decide +kernel
theorem dX5_seated_20 : decode cX5_seated 20 = .ok (.bipush (-10), 2) := by decide +kernel
theorem dX5_seated_22 : decode cX5_seated 22 = .ok (.ireturn, 1) := by decide +kernel
theorem dX5_seated_23 : decode cX5_seated 23 = .ok (.aload_n 0, 1) := by decide +kernel
theorem dX5_seated_24 : decode cX5_seated 24 = .ok (.getfield 10, 3) := by decide +kernel
theorem dX5_seated_27 : decode cX5_seated 27 = .ok (.getfield 60, 3) := by decide +kernel
theorem dX5_seated_30 : decode cX5_seated 30 = .ok (.getfield 63, 3) := by decide +kernel
theorem dX5_seated_33 : decode cX5_seated 33 = .ok (.istore_n 2, 1) := by decide +kernel
theorem dX5_seated_34 : decode cX5_seated 34 = .ok (.aload_n 0, 1) := by decide +kernel
theorem dX5_seated_35 : decode cX5_seated 35 = .ok (.getfield 34, 3) := by decide +kernel
theorem dX5_seated_38 : decode cX5_seated 38 = .ok (.aload_n 0, 1) := by decide +kernel
theorem dX5_seated_39 : decode cX5_seated 39 = .ok (.getfield 10, 3) := by decide +kernel
theorem dX5_seated_42 : decode cX5_seated 42 = .ok (.getfield 60, 3) := by decide +kernel
theorem dX5_seated_45 : decode cX5_seated 45 = .ok (.invokevirtual 154, 3) := by decide +kernel
theorem dX5_seated_48 : decode cX5_seated 48 = .ok (.aload_n 0, 1) := by decide +kernel
theorem dX5_seated_49 : decode cX5_seated 49 = .ok (.getfield 34, 3) := by decide +kernel
theorem dX5_seated_52 : decode cX5_seated 52 = .ok (.iconst 0, 1) := by decide +kernel
theorem dX5_seated_53 : decode cX5_seated 53 = .ok (.iload_n 2, 1) := by decide +kernel
theorem dX5_seated_54 : decode cX5_seated 54 = .ok (.iload_n 2, 1) := by decide +kernel
theorem dX5_seated_55 : decode cX5_seated 55 = .ok (.iconst 1, 1) := by decide +kernel
theorem dX5_seated_56 : decode cX5_seated 56 = .ok (.iadd, 1) := by decide +kernel
theorem dX5_seated_57 : decode cX5_seated 57 = .ok (.aload_n 0, 1) := by decide +kernel
theorem dX5_seated_58 : decode cX5_seated 58 = .ok (.getfield 38, 3) := by decide +kernel
theorem dX5_seated_61 : decode cX5_seated 61 = .ok (.invokestatic 169, 3) := by decide +kernel
theorem dX5_seated_64 : decode cX5_seated 64 = .ok (.istore_n 3, 1) := by decide +kernel
theorem dX5_seated_65 : decode cX5_seated 65 = .ok (.iload_n 1, 1) := by decide +kernel
theorem dX5_seated_66 : decode cX5_seated 66 = .ok (.iconst (-1), 1) := by decide +kernel
theorem dX5_seated_67 : decode cX5_seated 67 = .ok (.if_icmp .ne 7, 3) := by decide +kernel
theorem dX5_seated_70 : decode cX5_seated 70 = .ok (.iload_n 3, 1) := by decide +kernel
theorem dX5_seated_71 : decode cX5_seated 71 = .ok (.goto 9, 3) := by decide +kernel
theorem dX5_seated_74 : decode cX5_seated 74 = .ok (.aload_n 0, 1) := by decide +kernel
theorem dX5_seated_75 : decode cX5_seated 75 = .ok (.getfield 38, 3) := by decide +kernel
theorem dX5_seated_78 : decode cX5_seated 78 = .ok (.iload_n 1, 1) := by decide +kernel
theorem dX5_seated_79 : decode cX5_seated 79 = .ok (.iaload, 1) := by decide +kernel
theorem dX5_seated_80 : decode cX5_seated 80 = .ok (.ireturn, 1) := by decide +kernel
set_option maxRecDepth 20000 in
theorem ggX5_words_X5_isChild : GoodIn wsX5_words wsX5_isChild := goodIn_r _ [7, 2, 8, 9, 6, 10, 64, 65, 66, 67, 68, 69, 70, 71, 72, 73, 74, 75, 76, 77, 78, 79, 80, 81, 82, 83, 84, 85] (by decide +kernel) (by decide +kernel)
set_option maxRecDepth 20000 in
theorem gX5_words_X5_isChild : GoodIn wsX5_words (wsV RX5 120 RX5 yX5_isChild wsX5_isChild) := goodIn_app (goodIn_of _ (by decide +kernel)) ggX5_words_X5_isChild
set_option maxRecDepth 20000 in
theorem ggX5_words_X5_refuse : GoodIn wsX5_words wsX5_refuse := goodIn_r _ [14, 15, 8, 9, 6, 10, 64, 65, 66, 67, 68, 69, 70, 71, 72] (by decide +kernel) (by decide +kernel)
set_option maxRecDepth 20000 in
theorem gX5_words_X5_refuse : GoodIn wsX5_words (wsV RX5 56 RX5 yX5_refuse wsX5_refuse) := goodIn_app (goodIn_of _ (by decide +kernel)) ggX5_words_X5_refuse
set_option maxRecDepth 20000 in
theorem ggX5_words_X3_copyFrom : GoodIn wsX5_words wsX3_copyFrom := goodIn_r _ [19, 20, 21, 22, 23, 24, 25, 26, 27, 28, 29, 30, 31, 32, 33, 76, 77, 78, 79, 80, 81, 82, 83, 84, 85] (by decide +kernel) (by decide +kernel)
set_option maxRecDepth 20000 in
theorem gX5_words_X3_copyFrom_n154 : GoodIn wsX5_words (wsX3_copyFrom) := ggX5_words_X3_copyFrom
set_option maxRecDepth 20000 in
theorem ggX5_words_X3_nearOf : GoodIn wsX5_words wsX3_nearOf := goodIn_r _ [36, 37, 38, 39, 17, 40, 30, 41, 42, 43, 44, 24, 45, 46, 47, 48, 49, 50, 51, 52, 53, 54, 55, 56, 57, 25, 32, 31, 33, 23, 58, 6, 59, 60, 61, 62, 63, 76, 77, 78, 79, 80, 81, 82, 83, 84, 85] (by decide +kernel) (by decide +kernel)
set_option maxRecDepth 20000 in
theorem gX5_words_X3_nearOf_n144 : GoodIn wsX5_words (wsX3_nearOf) := ggX5_words_X3_nearOf
theorem dX5_words_0 : decode cX5_words 0 = .ok (.aload_n 0, 1) := by decide +kernel
theorem dX5_words_1 : decode cX5_words 1 = .ok (.iload_n 1, 1) := by decide +kernel
theorem dX5_words_2 : decode cX5_words 2 = .ok (.invokevirtual 120, 3) := by decide +kernel
theorem dX5_words_5 : decode cX5_words 5 = .ok (.ifCond .ne 10, 3) := by decide +kernel
theorem dX5_words_8 : decode cX5_words 8 = .ok (.aload_n 0, 1) := by decide +kernel
theorem dX5_words_9 : decode cX5_words 9 = .ok (.bipush (-2), 2) := by decide +kernel
theorem dX5_words_11 : decode cX5_words 11 = .ok (.invokevirtual 56, 3) := by decide +kernel
theorem dX5_words_14 : decode cX5_words 14 = .ok (.ireturn, 1) := by decide +kernel
theorem dX5_words_15 : decode cX5_words 15 = .ok (.aload_n 0, 1) := by decide +kernel
theorem dX5_words_16 : decode cX5_words 16 = .ok (.getfield 34, 3) := by decide +kernel
theorem dX5_words_19 : decode cX5_words 19 = .ok (.aload_n 0, 1) := by decide +kernel
theorem dX5_words_20 : decode cX5_words 20 = .ok (.getfield 10, 3) := by decide +kernel
theorem dX5_words_23 : decode cX5_words 23 = .ok (.getfield 60, 3) := by decide +kernel
theorem dX5_words_26 : decode cX5_words 26 = .ok (.invokevirtual 154, 3) := by decide +kernel
theorem dX5_words_29 : decode cX5_words 29 = .ok (.iconst 0, 1) := by decide +kernel
theorem dX5_words_30 : decode cX5_words 30 = .ok (.istore_n 2, 1) := by decide +kernel
theorem dX5_words_31 : decode cX5_words 31 = .ok (.iload_n 2, 1) := by decide +kernel
theorem dX5_words_32 : decode cX5_words 32 = .ok (.bipush 40, 2) := by decide +kernel
theorem dX5_words_34 : decode cX5_words 34 = .ok (.if_icmp .gt 47, 3) := by decide +kernel
theorem dX5_words_37 : decode cX5_words 37 = .ok (.aload_n 0, 1) := by decide +kernel
theorem dX5_words_38 : decode cX5_words 38 = .ok (.getfield 34, 3) := by decide +kernel
theorem dX5_words_41 : decode cX5_words 41 = .ok (.getfield 173, 3) := by decide +kernel
theorem dX5_words_44 : decode cX5_words 44 = .ok (.iload_n 1, 1) := by decide +kernel
theorem dX5_words_45 : decode cX5_words 45 = .ok (.aload_n 0, 1) := by decide +kernel
theorem dX5_words_46 : decode cX5_words 46 = .ok (.getfield 10, 3) := by decide +kernel
theorem dX5_words_49 : decode cX5_words 49 = .ok (.getfield 60, 3) := by decide +kernel
theorem dX5_words_52 : decode cX5_words 52 = .ok (.getfield 173, 3) := by decide +kernel
theorem dX5_words_55 : decode cX5_words 55 = .ok (.iload_n 1, 1) := by decide +kernel
theorem dX5_words_56 : decode cX5_words 56 = .ok (.iaload, 1) := by decide +kernel
theorem dX5_words_57 : decode cX5_words 57 = .ok (.iload_n 2, 1) := by decide +kernel
theorem dX5_words_58 : decode cX5_words 58 = .ok (.iadd, 1) := by decide +kernel
theorem dX5_words_59 : decode cX5_words 59 = .ok (.iastore, 1) := by decide +kernel
theorem dX5_words_60 : decode cX5_words 60 = .ok (.aload_n 0, 1) := by decide +kernel
theorem dX5_words_61 : decode cX5_words 61 = .ok (.getfield 34, 3) := by decide +kernel
theorem dX5_words_64 : decode cX5_words 64 = .ok (.iload_n 1, 1) := by decide +kernel
theorem dX5_words_65 : decode cX5_words 65 = .ok (.invokevirtual 144, 3) := by decide +kernel
theorem dX5_words_68 : decode cX5_words 68 = .ok (.bipush 12, 2) := by decide +kernel
theorem dX5_words_70 : decode cX5_words 70 = .ok (.if_icmp .ge 5, 3) := by decide +kernel
theorem dX5_words_73 : decode cX5_words 73 = .ok (.iload_n 2, 1) := by decide +kernel
theorem dX5_words_74 : decode cX5_words 74 = .ok (.ireturn, 1) := by decide +kernel
theorem dX5_words_75 : decode cX5_words 75 = .ok (.iinc 2 1, 3) := by decide +kernel
theorem dX5_words_78 : decode cX5_words 78 = .ok (.goto (-47), 3) := by decide +kernel
theorem dX5_words_81 : decode cX5_words 81 = .ok (.iconst (-1), 1) := by decide +kernel
theorem dX5_words_82 : decode cX5_words 82 = .ok (.ireturn, 1) := by decide +kernel
set_option maxRecDepth 20000 in
theorem ggX5_say_X3_copyFrom : GoodIn wsX5_say wsX3_copyFrom := goodIn_r _ [6, 7, 8, 9, 10, 11, 12, 13, 14, 15, 16, 17, 18, 19, 20, 95, 96, 97, 98, 99, 100, 101, 102, 103, 104] (by decide +kernel) (by decide +kernel)
set_option maxRecDepth 20000 in
theorem gX5_say_X3_copyFrom_n154 : GoodIn wsX5_say (wsX3_copyFrom) := ggX5_say_X3_copyFrom
set_option maxRecDepth 20000 in
theorem ggX5_say_X3_passMinutes : GoodIn wsX5_say wsX3_passMinutes := goodIn_r _ [23, 24, 25, 26, 4, 27, 11, 20, 19, 28, 29, 30, 31, 32, 33, 34, 10, 9, 8, 35, 36, 37, 38, 17, 39, 40, 41, 42, 43, 44, 45, 46, 47, 48, 49, 50, 51, 52, 53, 54, 55, 7, 56, 57, 58, 59, 12, 18, 60, 61, 62, 63, 64, 65, 66, 67, 68, 69, 70, 71, 72, 73, 74, 75, 76, 77, 78, 79, 80, 81, 82, 95, 96, 97, 98, 99, 100, 101, 102, 103, 104] (by decide +kernel) (by decide +kernel)
set_option maxRecDepth 20000 in
theorem gX5_say_X3_passMinutes_n117 : GoodIn wsX5_say (wsX3_passMinutes) := ggX5_say_X3_passMinutes
theorem dX5_say_0 : decode cX5_say 0 = .ok (.iconst (-1), 1) := by decide +kernel
theorem dX5_say_1 : decode cX5_say 1 = .ok (.istore_n 1, 1) := by decide +kernel
theorem dX5_say_2 : decode cX5_say 2 = .ok (.bipush 121, 2) := by decide +kernel
theorem dX5_say_4 : decode cX5_say 4 = .ok (.istore_n 2, 1) := by decide +kernel
theorem dX5_say_5 : decode cX5_say 5 = .ok (.iconst 0, 1) := by decide +kernel
theorem dX5_say_6 : decode cX5_say 6 = .ok (.istore_n 3, 1) := by decide +kernel
theorem dX5_say_7 : decode cX5_say 7 = .ok (.iload_n 3, 1) := by decide +kernel
theorem dX5_say_8 : decode cX5_say 8 = .ok (.aload_n 0, 1) := by decide +kernel
theorem dX5_say_9 : decode cX5_say 9 = .ok (.getfield 10, 3) := by decide +kernel
theorem dX5_say_12 : decode cX5_say 12 = .ok (.getfield 60, 3) := by decide +kernel
theorem dX5_say_15 : decode cX5_say 15 = .ok (.getfield 63, 3) := by decide +kernel
theorem dX5_say_18 : decode cX5_say 18 = .ok (.if_icmp .ge 59, 3) := by decide +kernel
theorem dX5_say_21 : decode cX5_say 21 = .ok (.aload_n 0, 1) := by decide +kernel
theorem dX5_say_22 : decode cX5_say 22 = .ok (.getfield 34, 3) := by decide +kernel
theorem dX5_say_25 : decode cX5_say 25 = .ok (.aload_n 0, 1) := by decide +kernel
theorem dX5_say_26 : decode cX5_say 26 = .ok (.getfield 10, 3) := by decide +kernel
theorem dX5_say_29 : decode cX5_say 29 = .ok (.getfield 60, 3) := by decide +kernel
theorem dX5_say_32 : decode cX5_say 32 = .ok (.invokevirtual 154, 3) := by decide +kernel
theorem dX5_say_35 : decode cX5_say 35 = .ok (.aload_n 0, 1) := by decide +kernel
theorem dX5_say_36 : decode cX5_say 36 = .ok (.getfield 34, 3) := by decide +kernel
theorem dX5_say_39 : decode cX5_say 39 = .ok (.getfield 173, 3) := by decide +kernel
theorem dX5_say_42 : decode cX5_say 42 = .ok (.iload_n 3, 1) := by decide +kernel
theorem dX5_say_43 : decode cX5_say 43 = .ok (.dup2, 1) := by decide +kernel
theorem dX5_say_44 : decode cX5_say 44 = .ok (.iaload, 1) := by decide +kernel
theorem dX5_say_45 : decode cX5_say 45 = .ok (.bipush 10, 2) := by decide +kernel
theorem dX5_say_47 : decode cX5_say 47 = .ok (.iadd, 1) := by decide +kernel
theorem dX5_say_48 : decode cX5_say 48 = .ok (.iastore, 1) := by decide +kernel
theorem dX5_say_49 : decode cX5_say 49 = .ok (.aload_n 0, 1) := by decide +kernel
theorem dX5_say_50 : decode cX5_say 50 = .ok (.getfield 34, 3) := by decide +kernel
theorem dX5_say_53 : decode cX5_say 53 = .ok (.bipush 20, 2) := by decide +kernel
theorem dX5_say_55 : decode cX5_say 55 = .ok (.invokevirtual 117, 3) := by decide +kernel
theorem dX5_say_58 : decode cX5_say 58 = .ok (.istore 4, 2) := by decide +kernel
theorem dX5_say_60 : decode cX5_say 60 = .ok (.iload 4, 2) := by decide +kernel
theorem dX5_say_62 : decode cX5_say 62 = .ok (.iload_n 2, 1) := by decide +kernel
theorem dX5_say_63 : decode cX5_say 63 = .ok (.if_icmp .ge 8, 3) := by decide +kernel
theorem dX5_say_66 : decode cX5_say 66 = .ok (.iload 4, 2) := by decide +kernel
theorem dX5_say_68 : decode cX5_say 68 = .ok (.istore_n 2, 1) := by decide +kernel
theorem dX5_say_69 : decode cX5_say 69 = .ok (.iload_n 3, 1) := by decide +kernel
theorem dX5_say_70 : decode cX5_say 70 = .ok (.istore_n 1, 1) := by decide +kernel
theorem dX5_say_71 : decode cX5_say 71 = .ok (.iinc 3 1, 3) := by decide +kernel
theorem dX5_say_74 : decode cX5_say 74 = .ok (.goto (-67), 3) := by decide +kernel
theorem dX5_say_77 : decode cX5_say 77 = .ok (.iload_n 1, 1) := by decide +kernel
theorem dX5_say_78 : decode cX5_say 78 = .ok (.ireturn, 1) := by decide +kernel
set_option maxRecDepth 20000 in
theorem ggX5_note_X5_isChild : GoodIn wsX5_note wsX5_isChild := goodIn_r _ [6, 1, 7, 8, 5, 9, 21, 22, 23, 24, 25, 26, 27, 28, 29, 30, 31, 32, 35, 36, 37, 38, 39, 40, 41, 42, 43, 44] (by decide +kernel) (by decide +kernel)
set_option maxRecDepth 20000 in
theorem gX5_note_X5_isChild : GoodIn wsX5_note (wsV RX5 120 RX5 yX5_isChild wsX5_isChild) := goodIn_app (goodIn_of _ (by decide +kernel)) ggX5_note_X5_isChild
set_option maxRecDepth 20000 in
theorem ggX5_note_X5_within : GoodIn wsX5_note wsX5_within := goodIn_r _ [9] (by decide +kernel) (by decide +kernel)
set_option maxRecDepth 20000 in
theorem gX5_note_X5_within : GoodIn wsX5_note (va_wsS RX5 75 yX5_within wsX5_within) := goodIn_app (goodIn_of _ (by decide +kernel)) ggX5_note_X5_within
set_option maxRecDepth 20000 in
theorem ggX5_note_X5_refuse : GoodIn wsX5_note wsX5_refuse := goodIn_r _ [13, 14, 7, 8, 5, 9, 21, 22, 23, 24, 25, 26, 27, 28, 29] (by decide +kernel) (by decide +kernel)
set_option maxRecDepth 20000 in
theorem gX5_note_X5_refuse : GoodIn wsX5_note (wsV RX5 56 RX5 yX5_refuse wsX5_refuse) := goodIn_app (goodIn_of _ (by decide +kernel)) ggX5_note_X5_refuse
set_option maxRecDepth 20000 in
theorem ggX5_note_X0_add : GoodIn wsX5_note wsX0_add := goodIn_r _ [18, 19, 20, 33, 34] (by decide +kernel) (by decide +kernel)
set_option maxRecDepth 20000 in
theorem gX5_note_X0_add_n183 : GoodIn wsX5_note (wsX0_add) := ggX5_note_X0_add
theorem dX5_note_0 : decode cX5_note 0 = .ok (.aload_n 0, 1) := by decide +kernel
theorem dX5_note_1 : decode cX5_note 1 = .ok (.iload_n 1, 1) := by decide +kernel
theorem dX5_note_2 : decode cX5_note 2 = .ok (.invokevirtual 120, 3) := by decide +kernel
theorem dX5_note_5 : decode cX5_note 5 = .ok (.ifCond .eq 70, 3) := by decide +kernel
theorem dX5_note_8 : decode cX5_note 8 = .ok (.iload_n 2, 1) := by decide +kernel
theorem dX5_note_9 : decode cX5_note 9 = .ok (.iconst 0, 1) := by decide +kernel
theorem dX5_note_10 : decode cX5_note 10 = .ok (.bipush 30, 2) := by decide +kernel
theorem dX5_note_12 : decode cX5_note 12 = .ok (.invokestatic 75, 3) := by decide +kernel
theorem dX5_note_15 : decode cX5_note 15 = .ok (.ifCond .eq 60, 3) := by decide +kernel
theorem dX5_note_18 : decode cX5_note 18 = .ok (.iload_n 3, 1) := by decide +kernel
theorem dX5_note_19 : decode cX5_note 19 = .ok (.iconst 0, 1) := by decide +kernel
theorem dX5_note_20 : decode cX5_note 20 = .ok (.iconst 2, 1) := by decide +kernel
theorem dX5_note_21 : decode cX5_note 21 = .ok (.invokestatic 75, 3) := by decide +kernel
theorem dX5_note_24 : decode cX5_note 24 = .ok (.ifCond .eq 51, 3) := by decide +kernel
theorem dX5_note_27 : decode cX5_note 27 = .ok (.iload 4, 2) := by decide +kernel
theorem dX5_note_29 : decode cX5_note 29 = .ok (.iconst 0, 1) := by decide +kernel
theorem dX5_note_30 : decode cX5_note 30 = .ok (.bipush 20, 2) := by decide +kernel
theorem dX5_note_32 : decode cX5_note 32 = .ok (.invokestatic 75, 3) := by decide +kernel
theorem dX5_note_35 : decode cX5_note 35 = .ok (.ifCond .eq 40, 3) := by decide +kernel
theorem dX5_note_38 : decode cX5_note 38 = .ok (.iload 5, 2) := by decide +kernel
theorem dX5_note_40 : decode cX5_note 40 = .ok (.iconst 0, 1) := by decide +kernel
theorem dX5_note_41 : decode cX5_note 41 = .ok (.bipush 9, 2) := by decide +kernel
theorem dX5_note_43 : decode cX5_note 43 = .ok (.invokestatic 75, 3) := by decide +kernel
theorem dX5_note_46 : decode cX5_note 46 = .ok (.ifCond .eq 29, 3) := by decide +kernel
theorem dX5_note_49 : decode cX5_note 49 = .ok (.iload 6, 2) := by decide +kernel
theorem dX5_note_51 : decode cX5_note 51 = .ok (.iconst 0, 1) := by decide +kernel
theorem dX5_note_52 : decode cX5_note 52 = .ok (.bipush 6, 2) := by decide +kernel
theorem dX5_note_54 : decode cX5_note 54 = .ok (.invokestatic 75, 3) := by decide +kernel
theorem dX5_note_57 : decode cX5_note 57 = .ok (.ifCond .eq 18, 3) := by decide +kernel
theorem dX5_note_60 : decode cX5_note 60 = .ok (.iload 7, 2) := by decide +kernel
theorem dX5_note_62 : decode cX5_note 62 = .ok (.iconst 0, 1) := by decide +kernel
theorem dX5_note_63 : decode cX5_note 63 = .ok (.bipush 60, 2) := by decide +kernel
theorem dX5_note_65 : decode cX5_note 65 = .ok (.invokestatic 75, 3) := by decide +kernel
theorem dX5_note_68 : decode cX5_note 68 = .ok (.ifCond .eq 7, 3) := by decide +kernel
theorem dX5_note_71 : decode cX5_note 71 = .ok (.iconst 1, 1) := by decide +kernel
theorem dX5_note_72 : decode cX5_note 72 = .ok (.goto 4, 3) := by decide +kernel
theorem dX5_note_75 : decode cX5_note 75 = .ok (.iconst 0, 1) := by decide +kernel
theorem dX5_note_76 : decode cX5_note 76 = .ok (.istore 8, 2) := by decide +kernel
theorem dX5_note_78 : decode cX5_note 78 = .ok (.iload 8, 2) := by decide +kernel
theorem dX5_note_80 : decode cX5_note 80 = .ok (.ifCond .ne 10, 3) := by decide +kernel
theorem dX5_note_83 : decode cX5_note 83 = .ok (.aload_n 0, 1) := by decide +kernel
theorem dX5_note_84 : decode cX5_note 84 = .ok (.bipush (-2), 2) := by decide +kernel
theorem dX5_note_86 : decode cX5_note 86 = .ok (.invokevirtual 56, 3) := by decide +kernel
theorem dX5_note_89 : decode cX5_note 89 = .ok (.ireturn, 1) := by decide +kernel
theorem dX5_note_90 : decode cX5_note 90 = .ok (.aload_n 0, 1) := by decide +kernel
theorem dX5_note_91 : decode cX5_note 91 = .ok (.getfield 10, 3) := by decide +kernel
theorem dX5_note_94 : decode cX5_note 94 = .ok (.getfield 176, 3) := by decide +kernel
theorem dX5_note_97 : decode cX5_note 97 = .ok (.getfield 180, 3) := by decide +kernel
theorem dX5_note_100 : decode cX5_note 100 = .ok (.bipush 6, 2) := by decide +kernel
theorem dX5_note_102 : decode cX5_note 102 = .ok (.if_icmp .lt 10, 3) := by decide +kernel
theorem dX5_note_105 : decode cX5_note 105 = .ok (.aload_n 0, 1) := by decide +kernel
theorem dX5_note_106 : decode cX5_note 106 = .ok (.bipush (-4), 2) := by decide +kernel
theorem dX5_note_108 : decode cX5_note 108 = .ok (.invokevirtual 56, 3) := by decide +kernel
theorem dX5_note_111 : decode cX5_note 111 = .ok (.ireturn, 1) := by decide +kernel
theorem dX5_note_112 : decode cX5_note 112 = .ok (.aload_n 0, 1) := by decide +kernel
theorem dX5_note_113 : decode cX5_note 113 = .ok (.getfield 10, 3) := by decide +kernel
theorem dX5_note_116 : decode cX5_note 116 = .ok (.getfield 176, 3) := by decide +kernel
theorem dX5_note_119 : decode cX5_note 119 = .ok (.iload_n 1, 1) := by decide +kernel
theorem dX5_note_120 : decode cX5_note 120 = .ok (.iload_n 2, 1) := by decide +kernel
theorem dX5_note_121 : decode cX5_note 121 = .ok (.iload_n 3, 1) := by decide +kernel
theorem dX5_note_122 : decode cX5_note 122 = .ok (.iload 4, 2) := by decide +kernel
theorem dX5_note_124 : decode cX5_note 124 = .ok (.iload 5, 2) := by decide +kernel
theorem dX5_note_126 : decode cX5_note 126 = .ok (.iload 6, 2) := by decide +kernel
theorem dX5_note_128 : decode cX5_note 128 = .ok (.iload 7, 2) := by decide +kernel
theorem dX5_note_130 : decode cX5_note 130 = .ok (.invokevirtual 183, 3) := by decide +kernel
theorem dX5_note_133 : decode cX5_note 133 = .ok (.ireturn, 1) := by decide +kernel
theorem dX5_forget_0 : decode cX5_forget 0 = .ok (.aload_n 0, 1) := by decide +kernel
theorem dX5_forget_1 : decode cX5_forget 1 = .ok (.getfield 10, 3) := by decide +kernel
theorem dX5_forget_4 : decode cX5_forget 4 = .ok (.getfield 176, 3) := by decide +kernel
theorem dX5_forget_7 : decode cX5_forget 7 = .ok (.getfield 180, 3) := by decide +kernel
theorem dX5_forget_10 : decode cX5_forget 10 = .ok (.istore_n 1, 1) := by decide +kernel
theorem dX5_forget_11 : decode cX5_forget 11 = .ok (.aload_n 0, 1) := by decide +kernel
theorem dX5_forget_12 : decode cX5_forget 12 = .ok (.getfield 10, 3) := by decide +kernel
theorem dX5_forget_15 : decode cX5_forget 15 = .ok (.getfield 176, 3) := by decide +kernel
theorem dX5_forget_18 : decode cX5_forget 18 = .ok (.iconst 0, 1) := by decide +kernel
theorem dX5_forget_19 : decode cX5_forget 19 = .ok (.putfield 180, 3) := by decide +kernel
theorem dX5_forget_22 : decode cX5_forget 22 = .ok (.iload_n 1, 1) := by decide +kernel
theorem dX5_forget_23 : decode cX5_forget 23 = .ok (.ireturn, 1) := by decide +kernel
set_option maxRecDepth 20000 in
theorem ggX5_is_X5_isChild : GoodIn wsX5_is wsX5_isChild := goodIn_r _ [6, 1, 7, 8, 5, 9, 30, 31, 32, 33, 34, 35, 36, 37, 38, 39, 40, 41, 42, 43, 44, 45, 46, 47, 48, 49, 50, 51] (by decide +kernel) (by decide +kernel)
set_option maxRecDepth 20000 in
theorem gX5_is_X5_isChild : GoodIn wsX5_is (wsV RX5 120 RX5 yX5_isChild wsX5_isChild) := goodIn_app (goodIn_of _ (by decide +kernel)) ggX5_is_X5_isChild
set_option maxRecDepth 20000 in
theorem ggX5_is_X0_kindsOf : GoodIn wsX5_is wsX0_kindsOf := goodIn_r _ [13, 14, 15, 16, 5, 17, 18, 19, 20, 21, 22, 23, 24, 52, 53] (by decide +kernel) (by decide +kernel)
set_option maxRecDepth 20000 in
theorem gX5_is_X0_kindsOf_n187 : GoodIn wsX5_is (wsX0_kindsOf) := ggX5_is_X0_kindsOf
set_option maxRecDepth 20000 in
theorem ggX5_is_X5_refuse : GoodIn wsX5_is wsX5_refuse := goodIn_r _ [28, 29, 7, 8, 5, 9, 30, 31, 32, 33, 34, 35, 36, 37, 38] (by decide +kernel) (by decide +kernel)
set_option maxRecDepth 20000 in
theorem gX5_is_X5_refuse : GoodIn wsX5_is (wsV RX5 56 RX5 yX5_refuse wsX5_refuse) := goodIn_app (goodIn_of _ (by decide +kernel)) ggX5_is_X5_refuse
theorem dX5_is_0 : decode cX5_is 0 = .ok (.aload_n 0, 1) := by decide +kernel
theorem dX5_is_1 : decode cX5_is 1 = .ok (.iload_n 1, 1) := by decide +kernel
theorem dX5_is_2 : decode cX5_is 2 = .ok (.invokevirtual 120, 3) := by decide +kernel
theorem dX5_is_5 : decode cX5_is 5 = .ok (.ifCond .eq 17, 3) := by decide +kernel
theorem dX5_is_8 : decode cX5_is 8 = .ok (.aload_n 0, 1) := by decide +kernel
theorem dX5_is_9 : decode cX5_is 9 = .ok (.getfield 10, 3) := by decide +kernel
theorem dX5_is_12 : decode cX5_is 12 = .ok (.getfield 176, 3) := by decide +kernel
theorem dX5_is_15 : decode cX5_is 15 = .ok (.iload_n 1, 1) := by decide +kernel
theorem dX5_is_16 : decode cX5_is 16 = .ok (.invokevirtual 187, 3) := by decide +kernel
theorem dX5_is_19 : decode cX5_is 19 = .ok (.goto 9, 3) := by decide +kernel
theorem dX5_is_22 : decode cX5_is 22 = .ok (.aload_n 0, 1) := by decide +kernel
theorem dX5_is_23 : decode cX5_is 23 = .ok (.bipush (-2), 2) := by decide +kernel
theorem dX5_is_25 : decode cX5_is 25 = .ok (.invokevirtual 56, 3) := by decide +kernel
theorem dX5_is_28 : decode cX5_is 28 = .ok (.ireturn, 1) := by decide +kernel
set_option maxRecDepth 20000 in
theorem ggX5_look_X5_isChild : GoodIn wsX5_look wsX5_isChild := goodIn_r _ [6, 1, 7, 8, 5, 9, 41, 42, 43, 44, 45, 46, 47, 48, 49, 50, 51, 52, 53, 54, 55, 56, 57, 58, 59, 60, 61, 62] (by decide +kernel) (by decide +kernel)
set_option maxRecDepth 20000 in
theorem gX5_look_X5_isChild : GoodIn wsX5_look (wsV RX5 120 RX5 yX5_isChild wsX5_isChild) := goodIn_app (goodIn_of _ (by decide +kernel)) ggX5_look_X5_isChild
set_option maxRecDepth 20000 in
theorem ggX5_look_X5_refuse : GoodIn wsX5_look wsX5_refuse := goodIn_r _ [13, 14, 7, 8, 5, 9, 41, 42, 43, 44, 45, 46, 47, 48, 49] (by decide +kernel) (by decide +kernel)
set_option maxRecDepth 20000 in
theorem gX5_look_X5_refuse : GoodIn wsX5_look (wsV RX5 56 RX5 yX5_refuse wsX5_refuse) := goodIn_app (goodIn_of _ (by decide +kernel)) ggX5_look_X5_refuse
set_option maxRecDepth 20000 in
theorem ggX5_look_X0_kindsOf : GoodIn wsX5_look wsX0_kindsOf := goodIn_r _ [18, 19, 20, 21, 5, 22, 23, 24, 25, 26, 27, 28, 29, 63, 64] (by decide +kernel) (by decide +kernel)
set_option maxRecDepth 20000 in
theorem gX5_look_X0_kindsOf_n187 : GoodIn wsX5_look (wsX0_kindsOf) := ggX5_look_X0_kindsOf
set_option maxRecDepth 20000 in
theorem ggX5_look_X5_mostAlike : GoodIn wsX5_look wsX5_mostAlike := goodIn_r _ [32, 26, 27, 28, 29, 23, 24, 5, 25, 33, 21, 22, 34, 35, 36, 37, 38, 39, 40] (by decide +kernel) (by decide +kernel)
set_option maxRecDepth 20000 in
theorem gX5_look_X5_mostAlike : GoodIn wsX5_look (va_wsS RX5 193 yX5_mostAlike wsX5_mostAlike) := goodIn_app (goodIn_of _ (by decide +kernel)) ggX5_look_X5_mostAlike
theorem dX5_look_0 : decode cX5_look 0 = .ok (.aload_n 0, 1) := by decide +kernel
theorem dX5_look_1 : decode cX5_look 1 = .ok (.iload_n 1, 1) := by decide +kernel
theorem dX5_look_2 : decode cX5_look 2 = .ok (.invokevirtual 120, 3) := by decide +kernel
theorem dX5_look_5 : decode cX5_look 5 = .ok (.ifCond .ne 10, 3) := by decide +kernel
theorem dX5_look_8 : decode cX5_look 8 = .ok (.aload_n 0, 1) := by decide +kernel
theorem dX5_look_9 : decode cX5_look 9 = .ok (.bipush (-2), 2) := by decide +kernel
theorem dX5_look_11 : decode cX5_look 11 = .ok (.invokevirtual 56, 3) := by decide +kernel
theorem dX5_look_14 : decode cX5_look 14 = .ok (.ireturn, 1) := by decide +kernel
theorem dX5_look_15 : decode cX5_look 15 = .ok (.aload_n 0, 1) := by decide +kernel
theorem dX5_look_16 : decode cX5_look 16 = .ok (.getfield 10, 3) := by decide +kernel
theorem dX5_look_19 : decode cX5_look 19 = .ok (.getfield 176, 3) := by decide +kernel
theorem dX5_look_22 : decode cX5_look 22 = .ok (.iload_n 1, 1) := by decide +kernel
theorem dX5_look_23 : decode cX5_look 23 = .ok (.invokevirtual 187, 3) := by decide +kernel
theorem dX5_look_26 : decode cX5_look 26 = .ok (.istore_n 2, 1) := by decide +kernel
theorem dX5_look_27 : decode cX5_look 27 = .ok (.iload_n 2, 1) := by decide +kernel
theorem dX5_look_28 : decode cX5_look 28 = .ok (.ifCond .ne 5, 3) := by decide +kernel
theorem dX5_look_31 : decode cX5_look 31 = .ok (.iconst (-1), 1) := by decide +kernel
theorem dX5_look_32 : decode cX5_look 32 = .ok (.ireturn, 1) := by decide +kernel
theorem dX5_look_33 : decode cX5_look 33 = .ok (.iconst (-1), 1) := by decide +kernel
theorem dX5_look_34 : decode cX5_look 34 = .ok (.istore_n 3, 1) := by decide +kernel
theorem dX5_look_35 : decode cX5_look 35 = .ok (.bipush 7, 2) := by decide +kernel
theorem dX5_look_37 : decode cX5_look 37 = .ok (.istore 4, 2) := by decide +kernel
theorem dX5_look_39 : decode cX5_look 39 = .ok (.iconst 0, 1) := by decide +kernel
theorem dX5_look_40 : decode cX5_look 40 = .ok (.istore 5, 2) := by decide +kernel
theorem dX5_look_42 : decode cX5_look 42 = .ok (.iload 5, 2) := by decide +kernel
theorem dX5_look_44 : decode cX5_look 44 = .ok (.iconst 2, 1) := by decide +kernel
theorem dX5_look_45 : decode cX5_look 45 = .ok (.if_icmp .gt 101, 3) := by decide +kernel
theorem dX5_look_48 : decode cX5_look 48 = .ok (.iconst 0, 1) := by decide +kernel
theorem dX5_look_49 : decode cX5_look 49 = .ok (.istore 6, 2) := by decide +kernel
theorem dX5_look_51 : decode cX5_look 51 = .ok (.iload 6, 2) := by decide +kernel
theorem dX5_look_53 : decode cX5_look 53 = .ok (.iconst 2, 1) := by decide +kernel
theorem dX5_look_54 : decode cX5_look 54 = .ok (.if_icmp .gt 86, 3) := by decide +kernel
theorem dX5_look_57 : decode cX5_look 57 = .ok (.iconst 0, 1) := by decide +kernel
theorem dX5_look_58 : decode cX5_look 58 = .ok (.istore 7, 2) := by decide +kernel
theorem dX5_look_60 : decode cX5_look 60 = .ok (.iload 7, 2) := by decide +kernel
theorem dX5_look_62 : decode cX5_look 62 = .ok (.iconst 2, 1) := by decide +kernel
theorem dX5_look_63 : decode cX5_look 63 = .ok (.if_icmp .gt 71, 3) := by decide +kernel
theorem dX5_look_66 : decode cX5_look 66 = .ok (.iload_n 2, 1) := by decide +kernel
theorem dX5_look_67 : decode cX5_look 67 = .ok (.aload_n 0, 1) := by decide +kernel
theorem dX5_look_68 : decode cX5_look 68 = .ok (.getfield 10, 3) := by decide +kernel
theorem dX5_look_71 : decode cX5_look 71 = .ok (.getfield 60, 3) := by decide +kernel
theorem dX5_look_74 : decode cX5_look 74 = .ok (.getfield 190, 3) := by decide +kernel
theorem dX5_look_77 : decode cX5_look 77 = .ok (.iload_n 1, 1) := by decide +kernel
theorem dX5_look_78 : decode cX5_look 78 = .ok (.iaload, 1) := by decide +kernel
theorem dX5_look_79 : decode cX5_look 79 = .ok (.iload 6, 2) := by decide +kernel
theorem dX5_look_81 : decode cX5_look 81 = .ok (.aload_n 0, 1) := by decide +kernel
theorem dX5_look_82 : decode cX5_look 82 = .ok (.getfield 10, 3) := by decide +kernel
theorem dX5_look_85 : decode cX5_look 85 = .ok (.getfield 60, 3) := by decide +kernel
theorem dX5_look_88 : decode cX5_look 88 = .ok (.getfield 173, 3) := by decide +kernel
theorem dX5_look_91 : decode cX5_look 91 = .ok (.iload_n 1, 1) := by decide +kernel
theorem dX5_look_92 : decode cX5_look 92 = .ok (.iaload, 1) := by decide +kernel
theorem dX5_look_93 : decode cX5_look 93 = .ok (.iload 7, 2) := by decide +kernel
theorem dX5_look_95 : decode cX5_look 95 = .ok (.iload 5, 2) := by decide +kernel
theorem dX5_look_97 : decode cX5_look 97 = .ok (.invokestatic 193, 3) := by decide +kernel
theorem dX5_look_100 : decode cX5_look 100 = .ok (.istore 8, 2) := by decide +kernel
theorem dX5_look_102 : decode cX5_look 102 = .ok (.iload 8, 2) := by decide +kernel
theorem dX5_look_104 : decode cX5_look 104 = .ok (.iload 4, 2) := by decide +kernel
theorem dX5_look_106 : decode cX5_look 106 = .ok (.if_icmp .ge 22, 3) := by decide +kernel
theorem dX5_look_109 : decode cX5_look 109 = .ok (.iload 8, 2) := by decide +kernel
theorem dX5_look_111 : decode cX5_look 111 = .ok (.istore 4, 2) := by decide +kernel
theorem dX5_look_113 : decode cX5_look 113 = .ok (.bipush 100, 2) := by decide +kernel
theorem dX5_look_115 : decode cX5_look 115 = .ok (.iload 5, 2) := by decide +kernel
theorem dX5_look_117 : decode cX5_look 117 = .ok (.imul, 1) := by decide +kernel
theorem dX5_look_118 : decode cX5_look 118 = .ok (.bipush 10, 2) := by decide +kernel
theorem dX5_look_120 : decode cX5_look 120 = .ok (.iload 6, 2) := by decide +kernel
theorem dX5_look_122 : decode cX5_look 122 = .ok (.imul, 1) := by decide +kernel
theorem dX5_look_123 : decode cX5_look 123 = .ok (.iadd, 1) := by decide +kernel
theorem dX5_look_124 : decode cX5_look 124 = .ok (.iload 7, 2) := by decide +kernel
theorem dX5_look_126 : decode cX5_look 126 = .ok (.iadd, 1) := by decide +kernel
theorem dX5_look_127 : decode cX5_look 127 = .ok (.istore_n 3, 1) := by decide +kernel
theorem dX5_look_128 : decode cX5_look 128 = .ok (.iinc 7 1, 3) := by decide +kernel
theorem dX5_look_131 : decode cX5_look 131 = .ok (.goto (-71), 3) := by decide +kernel
theorem dX5_look_134 : decode cX5_look 134 = .ok (.iinc 6 1, 3) := by decide +kernel
theorem dX5_look_137 : decode cX5_look 137 = .ok (.goto (-86), 3) := by decide +kernel
theorem dX5_look_140 : decode cX5_look 140 = .ok (.iinc 5 1, 3) := by decide +kernel
theorem dX5_look_143 : decode cX5_look 143 = .ok (.goto (-101), 3) := by decide +kernel
theorem dX5_look_146 : decode cX5_look 146 = .ok (.iload_n 3, 1) := by decide +kernel
theorem dX5_look_147 : decode cX5_look 147 = .ok (.ireturn, 1) := by decide +kernel
set_option maxRecDepth 20000 in
theorem ggX5_who_X5_isChild : GoodIn wsX5_who wsX5_isChild := goodIn_r _ [6, 1, 7, 8, 5, 9, 31, 32, 33, 34, 35, 36, 37, 38, 39, 40, 41, 42, 43, 44, 45, 46, 47, 48, 49, 50, 51, 52] (by decide +kernel) (by decide +kernel)
set_option maxRecDepth 20000 in
theorem gX5_who_X5_isChild : GoodIn wsX5_who (wsV RX5 120 RX5 yX5_isChild wsX5_isChild) := goodIn_app (goodIn_of _ (by decide +kernel)) ggX5_who_X5_isChild
set_option maxRecDepth 20000 in
theorem ggX5_who_X5_refuse : GoodIn wsX5_who wsX5_refuse := goodIn_r _ [13, 14, 7, 8, 5, 9, 31, 32, 33, 34, 35, 36, 37, 38, 39] (by decide +kernel) (by decide +kernel)
set_option maxRecDepth 20000 in
theorem gX5_who_X5_refuse : GoodIn wsX5_who (wsV RX5 56 RX5 yX5_refuse wsX5_refuse) := goodIn_app (goodIn_of _ (by decide +kernel)) ggX5_who_X5_refuse
set_option maxRecDepth 20000 in
theorem ggX5_who_X3_whomOf : GoodIn wsX5_who wsX3_whomOf := goodIn_r _ [18, 19, 20, 21, 16, 22, 23, 24, 25, 26, 27, 28, 29, 30, 43, 44, 45, 46, 47, 48, 49, 50, 51, 52] (by decide +kernel) (by decide +kernel)
set_option maxRecDepth 20000 in
theorem gX5_who_X3_whomOf_n147 : GoodIn wsX5_who (wsX3_whomOf) := ggX5_who_X3_whomOf
theorem dX5_who_0 : decode cX5_who 0 = .ok (.aload_n 0, 1) := by decide +kernel
theorem dX5_who_1 : decode cX5_who 1 = .ok (.iload_n 1, 1) := by decide +kernel
theorem dX5_who_2 : decode cX5_who 2 = .ok (.invokevirtual 120, 3) := by decide +kernel
theorem dX5_who_5 : decode cX5_who 5 = .ok (.ifCond .ne 10, 3) := by decide +kernel
theorem dX5_who_8 : decode cX5_who 8 = .ok (.aload_n 0, 1) := by decide +kernel
theorem dX5_who_9 : decode cX5_who 9 = .ok (.bipush (-2), 2) := by decide +kernel
theorem dX5_who_11 : decode cX5_who 11 = .ok (.invokevirtual 56, 3) := by decide +kernel
theorem dX5_who_14 : decode cX5_who 14 = .ok (.ireturn, 1) := by decide +kernel
theorem dX5_who_15 : decode cX5_who 15 = .ok (.iconst 0, 1) := by decide +kernel
theorem dX5_who_16 : decode cX5_who 16 = .ok (.istore_n 2, 1) := by decide +kernel
theorem dX5_who_17 : decode cX5_who 17 = .ok (.iconst 0, 1) := by decide +kernel
theorem dX5_who_18 : decode cX5_who 18 = .ok (.istore_n 3, 1) := by decide +kernel
theorem dX5_who_19 : decode cX5_who 19 = .ok (.iload_n 3, 1) := by decide +kernel
theorem dX5_who_20 : decode cX5_who 20 = .ok (.aload_n 0, 1) := by decide +kernel
theorem dX5_who_21 : decode cX5_who 21 = .ok (.getfield 10, 3) := by decide +kernel
theorem dX5_who_24 : decode cX5_who 24 = .ok (.getfield 60, 3) := by decide +kernel
theorem dX5_who_27 : decode cX5_who 27 = .ok (.getfield 63, 3) := by decide +kernel
theorem dX5_who_30 : decode cX5_who 30 = .ok (.if_icmp .ge 30, 3) := by decide +kernel
theorem dX5_who_33 : decode cX5_who 33 = .ok (.aload_n 0, 1) := by decide +kernel
theorem dX5_who_34 : decode cX5_who 34 = .ok (.getfield 10, 3) := by decide +kernel
theorem dX5_who_37 : decode cX5_who 37 = .ok (.getfield 60, 3) := by decide +kernel
theorem dX5_who_40 : decode cX5_who 40 = .ok (.iload_n 3, 1) := by decide +kernel
theorem dX5_who_41 : decode cX5_who 41 = .ok (.invokevirtual 147, 3) := by decide +kernel
theorem dX5_who_44 : decode cX5_who 44 = .ok (.iload_n 1, 1) := by decide +kernel
theorem dX5_who_45 : decode cX5_who 45 = .ok (.if_icmp .ne 9, 3) := by decide +kernel
theorem dX5_who_48 : decode cX5_who 48 = .ok (.iload_n 2, 1) := by decide +kernel
theorem dX5_who_49 : decode cX5_who 49 = .ok (.iconst 1, 1) := by decide +kernel
theorem dX5_who_50 : decode cX5_who 50 = .ok (.iload_n 3, 1) := by decide +kernel
theorem dX5_who_51 : decode cX5_who 51 = .ok (.ishl, 1) := by decide +kernel
theorem dX5_who_52 : decode cX5_who 52 = .ok (.ior, 1) := by decide +kernel
theorem dX5_who_53 : decode cX5_who 53 = .ok (.istore_n 2, 1) := by decide +kernel
theorem dX5_who_54 : decode cX5_who 54 = .ok (.iinc 3 1, 3) := by decide +kernel
theorem dX5_who_57 : decode cX5_who 57 = .ok (.goto (-38), 3) := by decide +kernel
theorem dX5_who_60 : decode cX5_who 60 = .ok (.iload_n 2, 1) := by decide +kernel
theorem dX5_who_61 : decode cX5_who 61 = .ok (.ireturn, 1) := by decide +kernel
set_option maxRecDepth 20000 in
theorem ggX5_rings_X5_isChild : GoodIn wsX5_rings wsX5_isChild := goodIn_r _ [5, 6, 7, 8, 4, 9, 69, 70, 71, 72, 73, 74, 75, 76, 77, 78, 79, 80, 81, 82, 83, 84, 85, 86, 87, 88, 89, 90] (by decide +kernel) (by decide +kernel)
set_option maxRecDepth 20000 in
theorem gX5_rings_X5_isChild : GoodIn wsX5_rings (wsV RX5 120 RX5 yX5_isChild wsX5_isChild) := goodIn_app (goodIn_of _ (by decide +kernel)) ggX5_rings_X5_isChild
set_option maxRecDepth 20000 in
theorem ggX5_rings_X5_refuse : GoodIn wsX5_rings wsX5_refuse := goodIn_r _ [13, 14, 7, 8, 4, 9, 69, 70, 71, 72, 73, 74, 75, 76, 77] (by decide +kernel) (by decide +kernel)
set_option maxRecDepth 20000 in
theorem gX5_rings_X5_refuse : GoodIn wsX5_rings (wsV RX5 56 RX5 yX5_refuse wsX5_refuse) := goodIn_app (goodIn_of _ (by decide +kernel)) ggX5_rings_X5_refuse
set_option maxRecDepth 20000 in
theorem ggX5_rings_X5_ringGain : GoodIn wsX5_rings wsX5_ringGain := goodIn_r _ [18, 6, 19, 20, 21, 22, 23, 24, 25, 26, 27, 28, 29, 30, 31, 32, 33, 34, 35, 36, 37, 38, 39, 40, 41, 42, 43, 44, 45, 46, 47, 48, 49, 50, 51, 52, 4, 53, 54, 55, 56, 57, 58, 59, 60, 61, 62, 63, 64, 65, 66, 67, 68, 69, 70, 71, 72, 73, 74, 75, 76, 77, 78, 79, 80, 81, 82, 83, 84, 85, 86, 87, 88, 89, 90] (by decide +kernel) (by decide +kernel)
set_option maxRecDepth 20000 in
theorem gX5_rings_X5_ringGain : GoodIn wsX5_rings (wsV RX5 197 RX5 yX5_ringGain wsX5_ringGain) := goodIn_app (goodIn_of _ (by decide +kernel)) ggX5_rings_X5_ringGain
theorem dX5_rings_0 : decode cX5_rings 0 = .ok (.aload_n 0, 1) := by decide +kernel
theorem dX5_rings_1 : decode cX5_rings 1 = .ok (.iload_n 1, 1) := by decide +kernel
theorem dX5_rings_2 : decode cX5_rings 2 = .ok (.invokevirtual 120, 3) := by decide +kernel
theorem dX5_rings_5 : decode cX5_rings 5 = .ok (.ifCond .eq 16, 3) := by decide +kernel
theorem dX5_rings_8 : decode cX5_rings 8 = .ok (.aload_n 0, 1) := by decide +kernel
theorem dX5_rings_9 : decode cX5_rings 9 = .ok (.iload_n 2, 1) := by decide +kernel
theorem dX5_rings_10 : decode cX5_rings 10 = .ok (.invokevirtual 120, 3) := by decide +kernel
theorem dX5_rings_13 : decode cX5_rings 13 = .ok (.ifCond .eq 8, 3) := by decide +kernel
theorem dX5_rings_16 : decode cX5_rings 16 = .ok (.iload_n 1, 1) := by decide +kernel
theorem dX5_rings_17 : decode cX5_rings 17 = .ok (.iload_n 2, 1) := by decide +kernel
theorem dX5_rings_18 : decode cX5_rings 18 = .ok (.if_icmp .ne 10, 3) := by decide +kernel
theorem dX5_rings_21 : decode cX5_rings 21 = .ok (.aload_n 0, 1) := by decide +kernel
theorem dX5_rings_22 : decode cX5_rings 22 = .ok (.bipush (-2), 2) := by decide +kernel
theorem dX5_rings_24 : decode cX5_rings 24 = .ok (.invokevirtual 56, 3) := by decide +kernel
theorem dX5_rings_27 : decode cX5_rings 27 = .ok (.ireturn, 1) := by decide +kernel
theorem dX5_rings_28 : decode cX5_rings 28 = .ok (.iconst 0, 1) := by decide +kernel
theorem dX5_rings_29 : decode cX5_rings 29 = .ok (.istore_n 3, 1) := by decide +kernel
theorem dX5_rings_30 : decode cX5_rings 30 = .ok (.iconst 0, 1) := by decide +kernel
theorem dX5_rings_31 : decode cX5_rings 31 = .ok (.istore 4, 2) := by decide +kernel
theorem dX5_rings_33 : decode cX5_rings 33 = .ok (.iload 4, 2) := by decide +kernel
theorem dX5_rings_35 : decode cX5_rings 35 = .ok (.iconst 4, 1) := by decide +kernel
theorem dX5_rings_36 : decode cX5_rings 36 = .ok (.if_icmp .ge 86, 3) := by decide +kernel
theorem dX5_rings_39 : decode cX5_rings 39 = .ok (.aload_n 0, 1) := by decide +kernel
theorem dX5_rings_40 : decode cX5_rings 40 = .ok (.iload_n 1, 1) := by decide +kernel
theorem dX5_rings_41 : decode cX5_rings 41 = .ok (.iload 4, 2) := by decide +kernel
theorem dX5_rings_43 : decode cX5_rings 43 = .ok (.iload_n 1, 1) := by decide +kernel
theorem dX5_rings_44 : decode cX5_rings 44 = .ok (.iload_n 2, 1) := by decide +kernel
theorem dX5_rings_45 : decode cX5_rings 45 = .ok (.invokevirtual 197, 3) := by decide +kernel
theorem dX5_rings_48 : decode cX5_rings 48 = .ok (.aload_n 0, 1) := by decide +kernel
theorem dX5_rings_49 : decode cX5_rings 49 = .ok (.iload_n 1, 1) := by decide +kernel
theorem dX5_rings_50 : decode cX5_rings 50 = .ok (.iload 4, 2) := by decide +kernel
theorem dX5_rings_52 : decode cX5_rings 52 = .ok (.iconst 1, 1) := by decide +kernel
theorem dX5_rings_53 : decode cX5_rings 53 = .ok (.ixor, 1) := by decide +kernel
theorem dX5_rings_54 : decode cX5_rings 54 = .ok (.iload_n 1, 1) := by decide +kernel
theorem dX5_rings_55 : decode cX5_rings 55 = .ok (.iload_n 2, 1) := by decide +kernel
theorem dX5_rings_56 : decode cX5_rings 56 = .ok (.invokevirtual 197, 3) := by decide +kernel
theorem dX5_rings_59 : decode cX5_rings 59 = .ok (.if_icmp .lt 7, 3) := by decide +kernel
theorem dX5_rings_62 : decode cX5_rings 62 = .ok (.iconst 1, 1) := by decide +kernel
theorem dX5_rings_63 : decode cX5_rings 63 = .ok (.goto 4, 3) := by decide +kernel
theorem dX5_rings_66 : decode cX5_rings 66 = .ok (.iconst 0, 1) := by decide +kernel
theorem dX5_rings_67 : decode cX5_rings 67 = .ok (.istore 5, 2) := by decide +kernel
theorem dX5_rings_69 : decode cX5_rings 69 = .ok (.aload_n 0, 1) := by decide +kernel
theorem dX5_rings_70 : decode cX5_rings 70 = .ok (.iload_n 2, 1) := by decide +kernel
theorem dX5_rings_71 : decode cX5_rings 71 = .ok (.iload 4, 2) := by decide +kernel
theorem dX5_rings_73 : decode cX5_rings 73 = .ok (.iload_n 1, 1) := by decide +kernel
theorem dX5_rings_74 : decode cX5_rings 74 = .ok (.iload_n 2, 1) := by decide +kernel
theorem dX5_rings_75 : decode cX5_rings 75 = .ok (.invokevirtual 197, 3) := by decide +kernel
theorem dX5_rings_78 : decode cX5_rings 78 = .ok (.aload_n 0, 1) := by decide +kernel
theorem dX5_rings_79 : decode cX5_rings 79 = .ok (.iload_n 2, 1) := by decide +kernel
theorem dX5_rings_80 : decode cX5_rings 80 = .ok (.iload 4, 2) := by decide +kernel
theorem dX5_rings_82 : decode cX5_rings 82 = .ok (.iconst 2, 1) := by decide +kernel
theorem dX5_rings_83 : decode cX5_rings 83 = .ok (.ixor, 1) := by decide +kernel
theorem dX5_rings_84 : decode cX5_rings 84 = .ok (.iload_n 1, 1) := by decide +kernel
theorem dX5_rings_85 : decode cX5_rings 85 = .ok (.iload_n 2, 1) := by decide +kernel
theorem dX5_rings_86 : decode cX5_rings 86 = .ok (.invokevirtual 197, 3) := by decide +kernel
theorem dX5_rings_89 : decode cX5_rings 89 = .ok (.if_icmp .lt 7, 3) := by decide +kernel
theorem dX5_rings_92 : decode cX5_rings 92 = .ok (.iconst 1, 1) := by decide +kernel
theorem dX5_rings_93 : decode cX5_rings 93 = .ok (.goto 4, 3) := by decide +kernel
theorem dX5_rings_96 : decode cX5_rings 96 = .ok (.iconst 0, 1) := by decide +kernel
theorem dX5_rings_97 : decode cX5_rings 97 = .ok (.istore 6, 2) := by decide +kernel
theorem dX5_rings_99 : decode cX5_rings 99 = .ok (.iload 5, 2) := by decide +kernel
theorem dX5_rings_101 : decode cX5_rings 101 = .ok (.ifCond .eq 15, 3) := by decide +kernel
theorem dX5_rings_104 : decode cX5_rings 104 = .ok (.iload 6, 2) := by decide +kernel
theorem dX5_rings_106 : decode cX5_rings 106 = .ok (.ifCond .eq 10, 3) := by decide +kernel
theorem dX5_rings_109 : decode cX5_rings 109 = .ok (.iload_n 3, 1) := by decide +kernel
theorem dX5_rings_110 : decode cX5_rings 110 = .ok (.iconst 1, 1) := by decide +kernel
theorem dX5_rings_111 : decode cX5_rings 111 = .ok (.iload 4, 2) := by decide +kernel
theorem dX5_rings_113 : decode cX5_rings 113 = .ok (.ishl, 1) := by decide +kernel
theorem dX5_rings_114 : decode cX5_rings 114 = .ok (.ior, 1) := by decide +kernel
theorem dX5_rings_115 : decode cX5_rings 115 = .ok (.istore_n 3, 1) := by decide +kernel
theorem dX5_rings_116 : decode cX5_rings 116 = .ok (.iinc 4 1, 3) := by decide +kernel
theorem dX5_rings_119 : decode cX5_rings 119 = .ok (.goto (-86), 3) := by decide +kernel
theorem dX5_rings_122 : decode cX5_rings 122 = .ok (.iload_n 3, 1) := by decide +kernel
theorem dX5_rings_123 : decode cX5_rings 123 = .ok (.ireturn, 1) := by decide +kernel
set_option maxRecDepth 20000 in
theorem ggX5_eyes_X5_within : GoodIn wsX5_eyes wsX5_within := goodIn_r _ [7] (by decide +kernel) (by decide +kernel)
set_option maxRecDepth 20000 in
theorem gX5_eyes_X5_within : GoodIn wsX5_eyes (va_wsS RX5 75 yX5_within wsX5_within) := goodIn_app (goodIn_of _ (by decide +kernel)) ggX5_eyes_X5_within
set_option maxRecDepth 20000 in
theorem ggX5_eyes_X5_refuse : GoodIn wsX5_eyes wsX5_refuse := goodIn_r _ [11, 12, 4, 5, 6, 7, 59, 60, 61, 62, 63, 64, 65, 66, 67] (by decide +kernel) (by decide +kernel)
set_option maxRecDepth 20000 in
theorem gX5_eyes_X5_refuse : GoodIn wsX5_eyes (wsV RX5 56 RX5 yX5_refuse wsX5_refuse) := goodIn_app (goodIn_of _ (by decide +kernel)) ggX5_eyes_X5_refuse
set_option maxRecDepth 20000 in
theorem ggX5_eyes_X3_biters : GoodIn wsX5_eyes wsX3_biters := goodIn_r _ [16, 17, 18, 19, 20, 21, 14, 22, 23, 24, 25, 26, 27, 28, 29, 30, 31, 32, 33, 34, 35, 36, 37, 38, 39, 40, 41, 42, 43, 44, 45, 46, 6, 47, 48, 49, 50, 51, 71, 72, 73, 74, 75, 76, 77, 78, 79, 80] (by decide +kernel) (by decide +kernel)
set_option maxRecDepth 20000 in
theorem gX5_eyes_X3_biters_n150 : GoodIn wsX5_eyes (wsX3_biters) := ggX5_eyes_X3_biters
set_option maxRecDepth 20000 in
theorem ggX5_eyes_J6_bitCount_0f7a4 : GoodIn wsX5_eyes wsJ6_bitCount_0f7a4 := goodIn_r _ [55, 56, 57, 58] (by decide +kernel) (by decide +kernel)
set_option maxRecDepth 20000 in
theorem gX5_eyes_J6_bitCount_0f7a4 : GoodIn wsX5_eyes (va_wsS RX5 200 yJ6_bitCount_0f7a4 wsJ6_bitCount_0f7a4) := goodIn_app (goodIn_of _ (by decide +kernel)) ggX5_eyes_J6_bitCount_0f7a4
theorem dX5_eyes_0 : decode cX5_eyes 0 = .ok (.iload_n 1, 1) := by decide +kernel
theorem dX5_eyes_1 : decode cX5_eyes 1 = .ok (.iconst 0, 1) := by decide +kernel
theorem dX5_eyes_2 : decode cX5_eyes 2 = .ok (.bipush 10, 2) := by decide +kernel
theorem dX5_eyes_4 : decode cX5_eyes 4 = .ok (.invokestatic 75, 3) := by decide +kernel
theorem dX5_eyes_7 : decode cX5_eyes 7 = .ok (.ifCond .ne 10, 3) := by decide +kernel
theorem dX5_eyes_10 : decode cX5_eyes 10 = .ok (.aload_n 0, 1) := by decide +kernel
theorem dX5_eyes_11 : decode cX5_eyes 11 = .ok (.bipush (-2), 2) := by decide +kernel
theorem dX5_eyes_13 : decode cX5_eyes 13 = .ok (.invokevirtual 56, 3) := by decide +kernel
theorem dX5_eyes_16 : decode cX5_eyes 16 = .ok (.ireturn, 1) := by decide +kernel
theorem dX5_eyes_17 : decode cX5_eyes 17 = .ok (.aload_n 0, 1) := by decide +kernel
theorem dX5_eyes_18 : decode cX5_eyes 18 = .ok (.getfield 10, 3) := by decide +kernel
theorem dX5_eyes_21 : decode cX5_eyes 21 = .ok (.getfield 60, 3) := by decide +kernel
theorem dX5_eyes_24 : decode cX5_eyes 24 = .ok (.invokevirtual 150, 3) := by decide +kernel
theorem dX5_eyes_27 : decode cX5_eyes 27 = .ok (.invokestatic 200, 3) := by decide +kernel
theorem dX5_eyes_30 : decode cX5_eyes 30 = .ok (.bipush 10, 2) := by decide +kernel
theorem dX5_eyes_32 : decode cX5_eyes 32 = .ok (.iload_n 1, 1) := by decide +kernel
theorem dX5_eyes_33 : decode cX5_eyes 33 = .ok (.isub, 1) := by decide +kernel
theorem dX5_eyes_34 : decode cX5_eyes 34 = .ok (.imul, 1) := by decide +kernel
theorem dX5_eyes_35 : decode cX5_eyes 35 = .ok (.istore_n 2, 1) := by decide +kernel
theorem dX5_eyes_36 : decode cX5_eyes 36 = .ok (.bipush 10, 2) := by decide +kernel
theorem dX5_eyes_38 : decode cX5_eyes 38 = .ok (.istore_n 3, 1) := by decide +kernel
theorem dX5_eyes_39 : decode cX5_eyes 39 = .ok (.iload_n 3, 1) := by decide +kernel
theorem dX5_eyes_40 : decode cX5_eyes 40 = .ok (.iconst 1, 1) := by decide +kernel
theorem dX5_eyes_41 : decode cX5_eyes 41 = .ok (.if_icmp .le 22, 3) := by decide +kernel
theorem dX5_eyes_44 : decode cX5_eyes 44 = .ok (.iload_n 2, 1) := by decide +kernel
theorem dX5_eyes_45 : decode cX5_eyes 45 = .ok (.iload_n 3, 1) := by decide +kernel
theorem dX5_eyes_46 : decode cX5_eyes 46 = .ok (.irem, 1) := by decide +kernel
theorem dX5_eyes_47 : decode cX5_eyes 47 = .ok (.ifCond .ne 10, 3) := by decide +kernel
theorem dX5_eyes_50 : decode cX5_eyes 50 = .ok (.bipush 10, 2) := by decide +kernel
theorem dX5_eyes_52 : decode cX5_eyes 52 = .ok (.iload_n 3, 1) := by decide +kernel
theorem dX5_eyes_53 : decode cX5_eyes 53 = .ok (.irem, 1) := by decide +kernel
theorem dX5_eyes_54 : decode cX5_eyes 54 = .ok (.ifCond .eq 9, 3) := by decide +kernel
theorem dX5_eyes_57 : decode cX5_eyes 57 = .ok (.iinc 3 (-1), 3) := by decide +kernel
theorem dX5_eyes_60 : decode cX5_eyes 60 = .ok (.goto (-21), 3) := by decide +kernel
theorem dX5_eyes_63 : decode cX5_eyes 63 = .ok (.aload_n 0, 1) := by decide +kernel
theorem dX5_eyes_64 : decode cX5_eyes 64 = .ok (.iload_n 2, 1) := by decide +kernel
theorem dX5_eyes_65 : decode cX5_eyes 65 = .ok (.iload_n 3, 1) := by decide +kernel
theorem dX5_eyes_66 : decode cX5_eyes 66 = .ok (.idiv, 1) := by decide +kernel
theorem dX5_eyes_67 : decode cX5_eyes 67 = .ok (.i2l, 1) := by decide +kernel
theorem dX5_eyes_68 : decode cX5_eyes 68 = .ok (.putfield 45, 3) := by decide +kernel
theorem dX5_eyes_71 : decode cX5_eyes 71 = .ok (.aload_n 0, 1) := by decide +kernel
theorem dX5_eyes_72 : decode cX5_eyes 72 = .ok (.bipush 10, 2) := by decide +kernel
theorem dX5_eyes_74 : decode cX5_eyes 74 = .ok (.iload_n 3, 1) := by decide +kernel
theorem dX5_eyes_75 : decode cX5_eyes 75 = .ok (.idiv, 1) := by decide +kernel
theorem dX5_eyes_76 : decode cX5_eyes 76 = .ok (.i2l, 1) := by decide +kernel
theorem dX5_eyes_77 : decode cX5_eyes 77 = .ok (.putfield 49, 3) := by decide +kernel
theorem dX5_eyes_80 : decode cX5_eyes 80 = .ok (.iconst 1, 1) := by decide +kernel
theorem dX5_eyes_81 : decode cX5_eyes 81 = .ok (.ireturn, 1) := by decide +kernel
set_option maxRecDepth 20000 in
theorem ggX5_weeks_X5_within : GoodIn wsX5_weeks wsX5_within := goodIn_r _ [12] (by decide +kernel) (by decide +kernel)
set_option maxRecDepth 20000 in
theorem gX5_weeks_X5_within : GoodIn wsX5_weeks (va_wsS RX5 75 yX5_within wsX5_within) := goodIn_app (goodIn_of _ (by decide +kernel)) ggX5_weeks_X5_within
set_option maxRecDepth 20000 in
theorem ggX5_weeks_X5_refuse : GoodIn wsX5_weeks wsX5_refuse := goodIn_r _ [16, 17, 9, 10, 11, 12, 97, 98, 99, 100, 101, 102, 103, 104, 105] (by decide +kernel) (by decide +kernel)
set_option maxRecDepth 20000 in
theorem gX5_weeks_X5_refuse : GoodIn wsX5_weeks (wsV RX5 56 RX5 yX5_refuse wsX5_refuse) := goodIn_app (goodIn_of _ (by decide +kernel)) ggX5_weeks_X5_refuse
set_option maxRecDepth 20000 in
theorem ggX5_weeks_X3_copyFrom : GoodIn wsX5_weeks wsX3_copyFrom := goodIn_r _ [21, 22, 23, 24, 25, 26, 27, 28, 29, 30, 31, 32, 33, 34, 35, 109, 110, 111, 112, 113, 114, 115, 116, 117, 118] (by decide +kernel) (by decide +kernel)
set_option maxRecDepth 20000 in
theorem gX5_weeks_X3_copyFrom_n154 : GoodIn wsX5_weeks (wsX3_copyFrom) := ggX5_weeks_X3_copyFrom
set_option maxRecDepth 20000 in
theorem ggX5_weeks_X3_passMinutes : GoodIn wsX5_weeks wsX3_passMinutes := goodIn_r _ [38, 39, 40, 41, 19, 42, 26, 35, 34, 43, 44, 45, 46, 47, 48, 49, 25, 24, 23, 50, 51, 52, 53, 32, 54, 55, 56, 57, 58, 59, 60, 61, 62, 63, 64, 65, 66, 67, 68, 69, 70, 22, 71, 72, 73, 74, 27, 33, 75, 11, 76, 77, 78, 79, 80, 81, 82, 83, 84, 85, 86, 87, 88, 89, 90, 91, 92, 93, 94, 95, 96, 109, 110, 111, 112, 113, 114, 115, 116, 117, 118] (by decide +kernel) (by decide +kernel)
set_option maxRecDepth 20000 in
theorem gX5_weeks_X3_passMinutes_n117 : GoodIn wsX5_weeks (wsX3_passMinutes) := ggX5_weeks_X3_passMinutes
theorem dX5_weeks_0 : decode cX5_weeks 0 = .ok (.iload_n 1, 1) := by decide +kernel
theorem dX5_weeks_1 : decode cX5_weeks 1 = .ok (.iconst 0, 1) := by decide +kernel
theorem dX5_weeks_2 : decode cX5_weeks 2 = .ok (.ldc 205, 2) := by decide +kernel
theorem dX5_weeks_4 : decode cX5_weeks 4 = .ok (.invokestatic 75, 3) := by decide +kernel
theorem dX5_weeks_7 : decode cX5_weeks 7 = .ok (.ifCond .eq 13, 3) := by decide +kernel
theorem dX5_weeks_10 : decode cX5_weeks 10 = .ok (.iload_n 2, 1) := by decide +kernel
theorem dX5_weeks_11 : decode cX5_weeks 11 = .ok (.iconst 0, 1) := by decide +kernel
theorem dX5_weeks_12 : decode cX5_weeks 12 = .ok (.bipush 60, 2) := by decide +kernel
theorem dX5_weeks_14 : decode cX5_weeks 14 = .ok (.invokestatic 75, 3) := by decide +kernel
theorem dX5_weeks_17 : decode cX5_weeks 17 = .ok (.ifCond .ne 10, 3) := by decide +kernel
theorem dX5_weeks_20 : decode cX5_weeks 20 = .ok (.aload_n 0, 1) := by decide +kernel
theorem dX5_weeks_21 : decode cX5_weeks 21 = .ok (.bipush (-2), 2) := by decide +kernel
theorem dX5_weeks_23 : decode cX5_weeks 23 = .ok (.invokevirtual 56, 3) := by decide +kernel
theorem dX5_weeks_26 : decode cX5_weeks 26 = .ok (.ireturn, 1) := by decide +kernel
theorem dX5_weeks_27 : decode cX5_weeks 27 = .ok (.iload_n 1, 1) := by decide +kernel
theorem dX5_weeks_28 : decode cX5_weeks 28 = .ok (.i2l, 1) := by decide +kernel
theorem dX5_weeks_29 : decode cX5_weeks 29 = .ok (.lstore_n 3, 1) := by decide +kernel
theorem dX5_weeks_30 : decode cX5_weeks 30 = .ok (.iconst 0, 1) := by decide +kernel
theorem dX5_weeks_31 : decode cX5_weeks 31 = .ok (.istore 5, 2) := by decide +kernel
theorem dX5_weeks_33 : decode cX5_weeks 33 = .ok (.iconst 0, 1) := by decide +kernel
theorem dX5_weeks_34 : decode cX5_weeks 34 = .ok (.istore 6, 2) := by decide +kernel
theorem dX5_weeks_36 : decode cX5_weeks 36 = .ok (.iload 6, 2) := by decide +kernel
theorem dX5_weeks_38 : decode cX5_weeks 38 = .ok (.iload_n 2, 1) := by decide +kernel
theorem dX5_weeks_39 : decode cX5_weeks 39 = .ok (.if_icmp .ge 91, 3) := by decide +kernel
theorem dX5_weeks_42 : decode cX5_weeks 42 = .ok (.aload_n 0, 1) := by decide +kernel
theorem dX5_weeks_43 : decode cX5_weeks 43 = .ok (.getfield 34, 3) := by decide +kernel
theorem dX5_weeks_46 : decode cX5_weeks 46 = .ok (.aload_n 0, 1) := by decide +kernel
theorem dX5_weeks_47 : decode cX5_weeks 47 = .ok (.getfield 10, 3) := by decide +kernel
theorem dX5_weeks_50 : decode cX5_weeks 50 = .ok (.getfield 60, 3) := by decide +kernel
theorem dX5_weeks_53 : decode cX5_weeks 53 = .ok (.invokevirtual 154, 3) := by decide +kernel
theorem dX5_weeks_56 : decode cX5_weeks 56 = .ok (.iconst 0, 1) := by decide +kernel
theorem dX5_weeks_57 : decode cX5_weeks 57 = .ok (.istore 7, 2) := by decide +kernel
theorem dX5_weeks_59 : decode cX5_weeks 59 = .ok (.iload 7, 2) := by decide +kernel
theorem dX5_weeks_61 : decode cX5_weeks 61 = .ok (.aload_n 0, 1) := by decide +kernel
theorem dX5_weeks_62 : decode cX5_weeks 62 = .ok (.getfield 34, 3) := by decide +kernel
theorem dX5_weeks_65 : decode cX5_weeks 65 = .ok (.getfield 63, 3) := by decide +kernel
theorem dX5_weeks_68 : decode cX5_weeks 68 = .ok (.if_icmp .ge 43, 3) := by decide +kernel
theorem dX5_weeks_71 : decode cX5_weeks 71 = .ok (.lload_n 3, 1) := by decide +kernel
theorem dX5_weeks_72 : decode cX5_weeks 72 = .ok (.ldc2_w 206, 3) := by decide +kernel
theorem dX5_weeks_75 : decode cX5_weeks 75 = .ok (.lmul, 1) := by decide +kernel
theorem dX5_weeks_76 : decode cX5_weeks 76 = .ok (.ldc2_w 208, 3) := by decide +kernel
theorem dX5_weeks_79 : decode cX5_weeks 79 = .ok (.ladd, 1) := by decide +kernel
theorem dX5_weeks_80 : decode cX5_weeks 80 = .ok (.ldc2_w 210, 3) := by decide +kernel
theorem dX5_weeks_83 : decode cX5_weeks 83 = .ok (.lrem, 1) := by decide +kernel
theorem dX5_weeks_84 : decode cX5_weeks 84 = .ok (.lstore_n 3, 1) := by decide +kernel
theorem dX5_weeks_85 : decode cX5_weeks 85 = .ok (.aload_n 0, 1) := by decide +kernel
theorem dX5_weeks_86 : decode cX5_weeks 86 = .ok (.getfield 34, 3) := by decide +kernel
theorem dX5_weeks_89 : decode cX5_weeks 89 = .ok (.getfield 190, 3) := by decide +kernel
theorem dX5_weeks_92 : decode cX5_weeks 92 = .ok (.iload 7, 2) := by decide +kernel
theorem dX5_weeks_94 : decode cX5_weeks 94 = .ok (.lload_n 3, 1) := by decide +kernel
theorem dX5_weeks_95 : decode cX5_weeks 95 = .ok (.ldc2_w 212, 3) := by decide +kernel
theorem dX5_weeks_98 : decode cX5_weeks 98 = .ok (.ldiv, 1) := by decide +kernel
theorem dX5_weeks_99 : decode cX5_weeks 99 = .ok (.ldc2_w 214, 3) := by decide +kernel
theorem dX5_weeks_102 : decode cX5_weeks 102 = .ok (.lrem, 1) := by decide +kernel
theorem dX5_weeks_103 : decode cX5_weeks 103 = .ok (.l2i, 1) := by decide +kernel
theorem dX5_weeks_104 : decode cX5_weeks 104 = .ok (.iastore, 1) := by decide +kernel
theorem dX5_weeks_105 : decode cX5_weeks 105 = .ok (.iinc 7 1, 3) := by decide +kernel
theorem dX5_weeks_108 : decode cX5_weeks 108 = .ok (.goto (-49), 3) := by decide +kernel
theorem dX5_weeks_111 : decode cX5_weeks 111 = .ok (.iload 5, 2) := by decide +kernel
theorem dX5_weeks_113 : decode cX5_weeks 113 = .ok (.aload_n 0, 1) := by decide +kernel
theorem dX5_weeks_114 : decode cX5_weeks 114 = .ok (.getfield 34, 3) := by decide +kernel
theorem dX5_weeks_117 : decode cX5_weeks 117 = .ok (.iconst 3, 1) := by decide +kernel
theorem dX5_weeks_118 : decode cX5_weeks 118 = .ok (.invokevirtual 117, 3) := by decide +kernel
theorem dX5_weeks_121 : decode cX5_weeks 121 = .ok (.iadd, 1) := by decide +kernel
theorem dX5_weeks_122 : decode cX5_weeks 122 = .ok (.istore 5, 2) := by decide +kernel
theorem dX5_weeks_124 : decode cX5_weeks 124 = .ok (.iinc 6 1, 3) := by decide +kernel
theorem dX5_weeks_127 : decode cX5_weeks 127 = .ok (.goto (-91), 3) := by decide +kernel
theorem dX5_weeks_130 : decode cX5_weeks 130 = .ok (.iload 5, 2) := by decide +kernel
theorem dX5_weeks_132 : decode cX5_weeks 132 = .ok (.ireturn, 1) := by decide +kernel
set_option maxRecDepth 20000 in
theorem ggX5_part_X5_within : GoodIn wsX5_part wsX5_within := goodIn_r _ [6] (by decide +kernel) (by decide +kernel)
set_option maxRecDepth 20000 in
theorem gX5_part_X5_within : GoodIn wsX5_part (va_wsS RX5 75 yX5_within wsX5_within) := goodIn_app (goodIn_of _ (by decide +kernel)) ggX5_part_X5_within
set_option maxRecDepth 20000 in
theorem ggX5_part_X5_refuse : GoodIn wsX5_part wsX5_refuse := goodIn_r _ [10, 11, 3, 4, 5, 6, 12, 13, 14, 15, 16, 17, 18, 19, 20] (by decide +kernel) (by decide +kernel)
set_option maxRecDepth 20000 in
theorem gX5_part_X5_refuse : GoodIn wsX5_part (wsV RX5 56 RX5 yX5_refuse wsX5_refuse) := goodIn_app (goodIn_of _ (by decide +kernel)) ggX5_part_X5_refuse
theorem dX5_part_0 : decode cX5_part 0 = .ok (.iload_n 1, 1) := by decide +kernel
theorem dX5_part_1 : decode cX5_part 1 = .ok (.iconst 0, 1) := by decide +kernel
theorem dX5_part_2 : decode cX5_part 2 = .ok (.iconst 1, 1) := by decide +kernel
theorem dX5_part_3 : decode cX5_part 3 = .ok (.invokestatic 75, 3) := by decide +kernel
theorem dX5_part_6 : decode cX5_part 6 = .ok (.ifCond .ne 11, 3) := by decide +kernel
theorem dX5_part_9 : decode cX5_part 9 = .ok (.aload_n 0, 1) := by decide +kernel
theorem dX5_part_10 : decode cX5_part 10 = .ok (.bipush (-2), 2) := by decide +kernel
theorem dX5_part_12 : decode cX5_part 12 = .ok (.invokevirtual 56, 3) := by decide +kernel
theorem dX5_part_15 : decode cX5_part 15 = .ok (.i2l, 1) := by decide +kernel
theorem dX5_part_16 : decode cX5_part 16 = .ok (.lreturn, 1) := by decide +kernel
theorem dX5_part_17 : decode cX5_part 17 = .ok (.iload_n 1, 1) := by decide +kernel
theorem dX5_part_18 : decode cX5_part 18 = .ok (.ifCond .ne 10, 3) := by decide +kernel
theorem dX5_part_21 : decode cX5_part 21 = .ok (.aload_n 0, 1) := by decide +kernel
theorem dX5_part_22 : decode cX5_part 22 = .ok (.getfield 45, 3) := by decide +kernel
theorem dX5_part_25 : decode cX5_part 25 = .ok (.goto 7, 3) := by decide +kernel
theorem dX5_part_28 : decode cX5_part 28 = .ok (.aload_n 0, 1) := by decide +kernel
theorem dX5_part_29 : decode cX5_part 29 = .ok (.getfield 49, 3) := by decide +kernel
theorem dX5_part_32 : decode cX5_part 32 = .ok (.lreturn, 1) := by decide +kernel
set_option maxRecDepth 20000 in
theorem ggX5_image_X5_within : GoodIn wsX5_image wsX5_within := goodIn_r _ [7] (by decide +kernel) (by decide +kernel)
set_option maxRecDepth 20000 in
theorem gX5_image_X5_within : GoodIn wsX5_image (va_wsS RX5 75 yX5_within wsX5_within) := goodIn_app (goodIn_of _ (by decide +kernel)) ggX5_image_X5_within
set_option maxRecDepth 20000 in
theorem ggX5_image_X5_refuse : GoodIn wsX5_image wsX5_refuse := goodIn_r _ [11, 12, 4, 5, 6, 7, 52, 53, 54, 55, 56, 57, 58, 59, 60] (by decide +kernel) (by decide +kernel)
set_option maxRecDepth 20000 in
theorem gX5_image_X5_refuse : GoodIn wsX5_image (wsV RX5 56 RX5 yX5_refuse wsX5_refuse) := goodIn_app (goodIn_of _ (by decide +kernel)) ggX5_image_X5_refuse
set_option maxRecDepth 20000 in
theorem ggX5_image_X2_copyFrom : GoodIn wsX5_image wsX2_copyFrom := goodIn_r _ [16, 17, 18, 19, 20, 21, 22, 23, 24, 25, 26, 27, 28, 29, 30, 31, 32, 33, 34, 35, 36, 37, 38, 39, 40, 41, 42, 43, 44, 45, 46, 47, 48, 49, 50, 51, 61, 62, 63, 64, 65, 66, 67, 68, 69, 70, 71, 72, 73, 74, 75, 76, 77, 78] (by decide +kernel) (by decide +kernel)
set_option maxRecDepth 20000 in
theorem gX5_image_X2_copyFrom_n216 : GoodIn wsX5_image (wsX2_copyFrom) := ggX5_image_X2_copyFrom
theorem dX5_image_0 : decode cX5_image 0 = .ok (.iload_n 1, 1) := by decide +kernel
theorem dX5_image_1 : decode cX5_image 1 = .ok (.iconst 0, 1) := by decide +kernel
theorem dX5_image_2 : decode cX5_image 2 = .ok (.iconst 1, 1) := by decide +kernel
theorem dX5_image_3 : decode cX5_image 3 = .ok (.invokestatic 75, 3) := by decide +kernel
theorem dX5_image_6 : decode cX5_image 6 = .ok (.ifCond .ne 10, 3) := by decide +kernel
theorem dX5_image_9 : decode cX5_image 9 = .ok (.aload_n 0, 1) := by decide +kernel
theorem dX5_image_10 : decode cX5_image 10 = .ok (.bipush (-2), 2) := by decide +kernel
theorem dX5_image_12 : decode cX5_image 12 = .ok (.invokevirtual 56, 3) := by decide +kernel
theorem dX5_image_15 : decode cX5_image 15 = .ok (.ireturn, 1) := by decide +kernel
theorem dX5_image_16 : decode cX5_image 16 = .ok (.aload_n 0, 1) := by decide +kernel
theorem dX5_image_17 : decode cX5_image 17 = .ok (.getfield 16, 3) := by decide +kernel
theorem dX5_image_20 : decode cX5_image 20 = .ok (.iload_n 1, 1) := by decide +kernel
theorem dX5_image_21 : decode cX5_image 21 = .ok (.aaload, 1) := by decide +kernel
theorem dX5_image_22 : decode cX5_image 22 = .ok (.aload_n 0, 1) := by decide +kernel
theorem dX5_image_23 : decode cX5_image 23 = .ok (.getfield 10, 3) := by decide +kernel
theorem dX5_image_26 : decode cX5_image 26 = .ok (.invokevirtual 216, 3) := by decide +kernel
theorem dX5_image_29 : decode cX5_image 29 = .ok (.aload_n 0, 1) := by decide +kernel
theorem dX5_image_30 : decode cX5_image 30 = .ok (.getfield 20, 3) := by decide +kernel
theorem dX5_image_33 : decode cX5_image 33 = .ok (.iload_n 1, 1) := by decide +kernel
theorem dX5_image_34 : decode cX5_image 34 = .ok (.iconst 1, 1) := by decide +kernel
theorem dX5_image_35 : decode cX5_image 35 = .ok (.bastore, 1) := by decide +kernel
theorem dX5_image_36 : decode cX5_image 36 = .ok (.iconst 1, 1) := by decide +kernel
theorem dX5_image_37 : decode cX5_image 37 = .ok (.ireturn, 1) := by decide +kernel
set_option maxRecDepth 20000 in
theorem ggX5_from_X5_within : GoodIn wsX5_from wsX5_within := goodIn_r _ [7] (by decide +kernel) (by decide +kernel)
set_option maxRecDepth 20000 in
theorem gX5_from_X5_within : GoodIn wsX5_from (va_wsS RX5 75 yX5_within wsX5_within) := goodIn_app (goodIn_of _ (by decide +kernel)) ggX5_from_X5_within
set_option maxRecDepth 20000 in
theorem ggX5_from_X5_refuse : GoodIn wsX5_from wsX5_refuse := goodIn_r _ [11, 12, 4, 5, 6, 7, 52, 53, 54, 55, 56, 57, 58, 59, 60] (by decide +kernel) (by decide +kernel)
set_option maxRecDepth 20000 in
theorem gX5_from_X5_refuse : GoodIn wsX5_from (wsV RX5 56 RX5 yX5_refuse wsX5_refuse) := goodIn_app (goodIn_of _ (by decide +kernel)) ggX5_from_X5_refuse
set_option maxRecDepth 20000 in
theorem ggX5_from_X2_copyFrom : GoodIn wsX5_from wsX2_copyFrom := goodIn_r _ [16, 17, 18, 19, 20, 21, 22, 23, 24, 25, 26, 27, 28, 29, 30, 31, 32, 33, 34, 35, 36, 37, 38, 39, 40, 41, 42, 43, 44, 45, 46, 47, 48, 49, 50, 51, 61, 62, 63, 64, 65, 66, 67, 68, 69, 70, 71, 72, 73, 74, 75, 76, 77, 78] (by decide +kernel) (by decide +kernel)
set_option maxRecDepth 20000 in
theorem gX5_from_X2_copyFrom_n216 : GoodIn wsX5_from (wsX2_copyFrom) := ggX5_from_X2_copyFrom
theorem dX5_from_0 : decode cX5_from 0 = .ok (.iload_n 1, 1) := by decide +kernel
theorem dX5_from_1 : decode cX5_from 1 = .ok (.iconst 0, 1) := by decide +kernel
theorem dX5_from_2 : decode cX5_from 2 = .ok (.iconst 1, 1) := by decide +kernel
theorem dX5_from_3 : decode cX5_from 3 = .ok (.invokestatic 75, 3) := by decide +kernel
theorem dX5_from_6 : decode cX5_from 6 = .ok (.ifCond .ne 10, 3) := by decide +kernel
theorem dX5_from_9 : decode cX5_from 9 = .ok (.aload_n 0, 1) := by decide +kernel
theorem dX5_from_10 : decode cX5_from 10 = .ok (.bipush (-2), 2) := by decide +kernel
theorem dX5_from_12 : decode cX5_from 12 = .ok (.invokevirtual 56, 3) := by decide +kernel
theorem dX5_from_15 : decode cX5_from 15 = .ok (.ireturn, 1) := by decide +kernel
theorem dX5_from_16 : decode cX5_from 16 = .ok (.aload_n 0, 1) := by decide +kernel
theorem dX5_from_17 : decode cX5_from 17 = .ok (.getfield 20, 3) := by decide +kernel
theorem dX5_from_20 : decode cX5_from 20 = .ok (.iload_n 1, 1) := by decide +kernel
theorem dX5_from_21 : decode cX5_from 21 = .ok (.baload, 1) := by decide +kernel
theorem dX5_from_22 : decode cX5_from 22 = .ok (.ifCond .ne 10, 3) := by decide +kernel
theorem dX5_from_25 : decode cX5_from 25 = .ok (.aload_n 0, 1) := by decide +kernel
theorem dX5_from_26 : decode cX5_from 26 = .ok (.bipush (-3), 2) := by decide +kernel
theorem dX5_from_28 : decode cX5_from 28 = .ok (.invokevirtual 56, 3) := by decide +kernel
theorem dX5_from_31 : decode cX5_from 31 = .ok (.ireturn, 1) := by decide +kernel
theorem dX5_from_32 : decode cX5_from 32 = .ok (.aload_n 0, 1) := by decide +kernel
theorem dX5_from_33 : decode cX5_from 33 = .ok (.getfield 10, 3) := by decide +kernel
theorem dX5_from_36 : decode cX5_from 36 = .ok (.aload_n 0, 1) := by decide +kernel
theorem dX5_from_37 : decode cX5_from 37 = .ok (.getfield 16, 3) := by decide +kernel
theorem dX5_from_40 : decode cX5_from 40 = .ok (.iload_n 1, 1) := by decide +kernel
theorem dX5_from_41 : decode cX5_from 41 = .ok (.aaload, 1) := by decide +kernel
theorem dX5_from_42 : decode cX5_from 42 = .ok (.invokevirtual 216, 3) := by decide +kernel
theorem dX5_from_45 : decode cX5_from 45 = .ok (.iconst 1, 1) := by decide +kernel
theorem dX5_from_46 : decode cX5_from 46 = .ok (.ireturn, 1) := by decide +kernel
set_option maxRecDepth 20000 in
theorem ggX5_status_X5_within : GoodIn wsX5_status wsX5_within := goodIn_r _ [5] (by decide +kernel) (by decide +kernel)
set_option maxRecDepth 20000 in
theorem gX5_status_X5_within : GoodIn wsX5_status (va_wsS RX5 75 yX5_within wsX5_within) := goodIn_app (goodIn_of _ (by decide +kernel)) ggX5_status_X5_within
set_option maxRecDepth 20000 in
theorem ggX5_status_X5_refuse : GoodIn wsX5_status wsX5_refuse := goodIn_r _ [9, 1, 2, 3, 4, 5, 10, 11, 12, 13, 14, 15, 16, 17, 18] (by decide +kernel) (by decide +kernel)
set_option maxRecDepth 20000 in
theorem gX5_status_X5_refuse : GoodIn wsX5_status (wsV RX5 56 RX5 yX5_refuse wsX5_refuse) := goodIn_app (goodIn_of _ (by decide +kernel)) ggX5_status_X5_refuse
theorem dX5_status_0 : decode cX5_status 0 = .ok (.iload_n 1, 1) := by decide +kernel
theorem dX5_status_1 : decode cX5_status 1 = .ok (.iconst 0, 1) := by decide +kernel
theorem dX5_status_2 : decode cX5_status 2 = .ok (.iconst 2, 1) := by decide +kernel
theorem dX5_status_3 : decode cX5_status 3 = .ok (.invokestatic 75, 3) := by decide +kernel
theorem dX5_status_6 : decode cX5_status 6 = .ok (.ifCond .ne 12, 3) := by decide +kernel
theorem dX5_status_9 : decode cX5_status 9 = .ok (.aload_n 0, 1) := by decide +kernel
theorem dX5_status_10 : decode cX5_status 10 = .ok (.bipush (-2), 2) := by decide +kernel
theorem dX5_status_12 : decode cX5_status 12 = .ok (.invokevirtual 56, 3) := by decide +kernel
theorem dX5_status_15 : decode cX5_status 15 = .ok (.pop, 1) := by decide +kernel
theorem dX5_status_16 : decode cX5_status 16 = .ok (.iconst (-1), 1) := by decide +kernel
theorem dX5_status_17 : decode cX5_status 17 = .ok (.ireturn, 1) := by decide +kernel
theorem dX5_status_18 : decode cX5_status 18 = .ok (.aload_n 0, 1) := by decide +kernel
theorem dX5_status_19 : decode cX5_status 19 = .ok (.getfield 42, 3) := by decide +kernel
theorem dX5_status_22 : decode cX5_status 22 = .ok (.iload_n 1, 1) := by decide +kernel
theorem dX5_status_23 : decode cX5_status 23 = .ok (.iaload, 1) := by decide +kernel
theorem dX5_status_24 : decode cX5_status 24 = .ok (.ireturn, 1) := by decide +kernel
set_option maxRecDepth 20000 in
theorem ggX5_count_X5_within : GoodIn wsX5_count wsX5_within := goodIn_r _ [4] (by decide +kernel) (by decide +kernel)
set_option maxRecDepth 20000 in
theorem gX5_count_X5_within : GoodIn wsX5_count (va_wsS RX5 75 yX5_within wsX5_within) := goodIn_app (goodIn_of _ (by decide +kernel)) ggX5_count_X5_within
set_option maxRecDepth 20000 in
theorem ggX5_count_X5_howMany : GoodIn wsX5_count wsX5_howMany := goodIn_r _ [8, 9, 10, 16, 17, 18, 19, 20, 21, 22, 23, 24, 25, 26, 27, 28, 29, 30, 31, 32, 33, 34, 35, 36, 37, 38, 39, 40, 41, 42, 43, 44, 45, 46, 47, 48] (by decide +kernel) (by decide +kernel)
set_option maxRecDepth 20000 in
theorem gX5_count_X5_howMany : GoodIn wsX5_count (wsV RX5 219 RX5 yX5_howMany wsX5_howMany) := goodIn_app (goodIn_of _ (by decide +kernel)) ggX5_count_X5_howMany
set_option maxRecDepth 20000 in
theorem ggX5_count_X5_refuse : GoodIn wsX5_count wsX5_refuse := goodIn_r _ [14, 15, 1, 2, 3, 4, 16, 17, 18, 19, 20, 21, 22, 23, 24] (by decide +kernel) (by decide +kernel)
set_option maxRecDepth 20000 in
theorem gX5_count_X5_refuse : GoodIn wsX5_count (wsV RX5 56 RX5 yX5_refuse wsX5_refuse) := goodIn_app (goodIn_of _ (by decide +kernel)) ggX5_count_X5_refuse
theorem dX5_count_0 : decode cX5_count 0 = .ok (.iload_n 1, 1) := by decide +kernel
theorem dX5_count_1 : decode cX5_count 1 = .ok (.iconst 0, 1) := by decide +kernel
theorem dX5_count_2 : decode cX5_count 2 = .ok (.bipush 7, 2) := by decide +kernel
theorem dX5_count_4 : decode cX5_count 4 = .ok (.invokestatic 75, 3) := by decide +kernel
theorem dX5_count_7 : decode cX5_count 7 = .ok (.ifCond .eq 11, 3) := by decide +kernel
theorem dX5_count_10 : decode cX5_count 10 = .ok (.aload_n 0, 1) := by decide +kernel
theorem dX5_count_11 : decode cX5_count 11 = .ok (.iload_n 1, 1) := by decide +kernel
theorem dX5_count_12 : decode cX5_count 12 = .ok (.invokevirtual 219, 3) := by decide +kernel
theorem dX5_count_15 : decode cX5_count 15 = .ok (.goto 9, 3) := by decide +kernel
theorem dX5_count_18 : decode cX5_count 18 = .ok (.aload_n 0, 1) := by decide +kernel
theorem dX5_count_19 : decode cX5_count 19 = .ok (.bipush (-2), 2) := by decide +kernel
theorem dX5_count_21 : decode cX5_count 21 = .ok (.invokevirtual 56, 3) := by decide +kernel
theorem dX5_count_24 : decode cX5_count 24 = .ok (.ireturn, 1) := by decide +kernel
set_option maxRecDepth 20000 in
theorem ggX5_digest_X5_howMany : GoodIn wsX5_digest wsX5_howMany := goodIn_r _ [10, 3, 11, 21, 22, 23, 24, 25, 26, 27, 28, 29, 30, 31, 32, 33, 34, 35, 36, 37, 38, 39, 40, 41, 42, 43, 44, 45, 46, 47, 48, 49, 50, 51, 52, 53] (by decide +kernel) (by decide +kernel)
set_option maxRecDepth 20000 in
theorem gX5_digest_X5_howMany : GoodIn wsX5_digest (wsV RX5 219 RX5 yX5_howMany wsX5_howMany) := goodIn_app (goodIn_of _ (by decide +kernel)) ggX5_digest_X5_howMany
set_option maxRecDepth 20000 in
theorem ggX5_digest_X3_partOf : GoodIn wsX5_digest wsX3_partOf := goodIn_r _ [15, 16, 17, 18, 19, 20, 33, 34, 35, 36, 37, 38, 39, 40, 41, 42] (by decide +kernel) (by decide +kernel)
set_option maxRecDepth 20000 in
theorem gX5_digest_X3_partOf_n141 : GoodIn wsX5_digest (wsX3_partOf) := ggX5_digest_X3_partOf
theorem dX5_digest_0 : decode cX5_digest 0 = .ok (.ldc2_w 222, 3) := by decide +kernel
theorem dX5_digest_3 : decode cX5_digest 3 = .ok (.lstore_n 1, 1) := by decide +kernel
theorem dX5_digest_4 : decode cX5_digest 4 = .ok (.iconst 0, 1) := by decide +kernel
theorem dX5_digest_5 : decode cX5_digest 5 = .ok (.istore_n 3, 1) := by decide +kernel
theorem dX5_digest_6 : decode cX5_digest 6 = .ok (.iload_n 3, 1) := by decide +kernel
theorem dX5_digest_7 : decode cX5_digest 7 = .ok (.bipush 7, 2) := by decide +kernel
theorem dX5_digest_9 : decode cX5_digest 9 = .ok (.if_icmp .gt 22, 3) := by decide +kernel
theorem dX5_digest_12 : decode cX5_digest 12 = .ok (.ldc2_w 214, 3) := by decide +kernel
theorem dX5_digest_15 : decode cX5_digest 15 = .ok (.lload_n 1, 1) := by decide +kernel
theorem dX5_digest_16 : decode cX5_digest 16 = .ok (.lmul, 1) := by decide +kernel
theorem dX5_digest_17 : decode cX5_digest 17 = .ok (.aload_n 0, 1) := by decide +kernel
theorem dX5_digest_18 : decode cX5_digest 18 = .ok (.iload_n 3, 1) := by decide +kernel
theorem dX5_digest_19 : decode cX5_digest 19 = .ok (.invokevirtual 219, 3) := by decide +kernel
theorem dX5_digest_22 : decode cX5_digest 22 = .ok (.i2l, 1) := by decide +kernel
theorem dX5_digest_23 : decode cX5_digest 23 = .ok (.ladd, 1) := by decide +kernel
theorem dX5_digest_24 : decode cX5_digest 24 = .ok (.lstore_n 1, 1) := by decide +kernel
theorem dX5_digest_25 : decode cX5_digest 25 = .ok (.iinc 3 1, 3) := by decide +kernel
theorem dX5_digest_28 : decode cX5_digest 28 = .ok (.goto (-22), 3) := by decide +kernel
theorem dX5_digest_31 : decode cX5_digest 31 = .ok (.iconst 0, 1) := by decide +kernel
theorem dX5_digest_32 : decode cX5_digest 32 = .ok (.istore_n 3, 1) := by decide +kernel
theorem dX5_digest_33 : decode cX5_digest 33 = .ok (.iload_n 3, 1) := by decide +kernel
theorem dX5_digest_34 : decode cX5_digest 34 = .ok (.aload_n 0, 1) := by decide +kernel
theorem dX5_digest_35 : decode cX5_digest 35 = .ok (.getfield 10, 3) := by decide +kernel
theorem dX5_digest_38 : decode cX5_digest 38 = .ok (.getfield 60, 3) := by decide +kernel
theorem dX5_digest_41 : decode cX5_digest 41 = .ok (.getfield 63, 3) := by decide +kernel
theorem dX5_digest_44 : decode cX5_digest 44 = .ok (.if_icmp .ge 45, 3) := by decide +kernel
theorem dX5_digest_47 : decode cX5_digest 47 = .ok (.iconst 0, 1) := by decide +kernel
theorem dX5_digest_48 : decode cX5_digest 48 = .ok (.istore 4, 2) := by decide +kernel
theorem dX5_digest_50 : decode cX5_digest 50 = .ok (.iload 4, 2) := by decide +kernel
theorem dX5_digest_52 : decode cX5_digest 52 = .ok (.iconst 4, 1) := by decide +kernel
theorem dX5_digest_53 : decode cX5_digest 53 = .ok (.if_icmp .gt 30, 3) := by decide +kernel
theorem dX5_digest_56 : decode cX5_digest 56 = .ok (.ldc2_w 214, 3) := by decide +kernel
theorem dX5_digest_59 : decode cX5_digest 59 = .ok (.lload_n 1, 1) := by decide +kernel
theorem dX5_digest_60 : decode cX5_digest 60 = .ok (.lmul, 1) := by decide +kernel
theorem dX5_digest_61 : decode cX5_digest 61 = .ok (.aload_n 0, 1) := by decide +kernel
theorem dX5_digest_62 : decode cX5_digest 62 = .ok (.getfield 10, 3) := by decide +kernel
theorem dX5_digest_65 : decode cX5_digest 65 = .ok (.getfield 60, 3) := by decide +kernel
theorem dX5_digest_68 : decode cX5_digest 68 = .ok (.iload_n 3, 1) := by decide +kernel
theorem dX5_digest_69 : decode cX5_digest 69 = .ok (.iload 4, 2) := by decide +kernel
theorem dX5_digest_71 : decode cX5_digest 71 = .ok (.invokevirtual 141, 3) := by decide +kernel
theorem dX5_digest_74 : decode cX5_digest 74 = .ok (.i2l, 1) := by decide +kernel
theorem dX5_digest_75 : decode cX5_digest 75 = .ok (.ladd, 1) := by decide +kernel
theorem dX5_digest_76 : decode cX5_digest 76 = .ok (.lstore_n 1, 1) := by decide +kernel
theorem dX5_digest_77 : decode cX5_digest 77 = .ok (.iinc 4 1, 3) := by decide +kernel
theorem dX5_digest_80 : decode cX5_digest 80 = .ok (.goto (-30), 3) := by decide +kernel
theorem dX5_digest_83 : decode cX5_digest 83 = .ok (.iinc 3 1, 3) := by decide +kernel
theorem dX5_digest_86 : decode cX5_digest 86 = .ok (.goto (-53), 3) := by decide +kernel
theorem dX5_digest_89 : decode cX5_digest 89 = .ok (.iconst 0, 1) := by decide +kernel
theorem dX5_digest_90 : decode cX5_digest 90 = .ok (.istore_n 3, 1) := by decide +kernel
theorem dX5_digest_91 : decode cX5_digest 91 = .ok (.iload_n 3, 1) := by decide +kernel
theorem dX5_digest_92 : decode cX5_digest 92 = .ok (.aload_n 0, 1) := by decide +kernel
theorem dX5_digest_93 : decode cX5_digest 93 = .ok (.getfield 10, 3) := by decide +kernel
theorem dX5_digest_96 : decode cX5_digest 96 = .ok (.getfield 176, 3) := by decide +kernel
theorem dX5_digest_99 : decode cX5_digest 99 = .ok (.getfield 180, 3) := by decide +kernel
theorem dX5_digest_102 : decode cX5_digest 102 = .ok (.bipush 7, 2) := by decide +kernel
theorem dX5_digest_104 : decode cX5_digest 104 = .ok (.imul, 1) := by decide +kernel
theorem dX5_digest_105 : decode cX5_digest 105 = .ok (.if_icmp .ge 29, 3) := by decide +kernel
theorem dX5_digest_108 : decode cX5_digest 108 = .ok (.ldc2_w 214, 3) := by decide +kernel
theorem dX5_digest_111 : decode cX5_digest 111 = .ok (.lload_n 1, 1) := by decide +kernel
theorem dX5_digest_112 : decode cX5_digest 112 = .ok (.lmul, 1) := by decide +kernel
theorem dX5_digest_113 : decode cX5_digest 113 = .ok (.aload_n 0, 1) := by decide +kernel
theorem dX5_digest_114 : decode cX5_digest 114 = .ok (.getfield 10, 3) := by decide +kernel
theorem dX5_digest_117 : decode cX5_digest 117 = .ok (.getfield 176, 3) := by decide +kernel
theorem dX5_digest_120 : decode cX5_digest 120 = .ok (.getfield 224, 3) := by decide +kernel
theorem dX5_digest_123 : decode cX5_digest 123 = .ok (.iload_n 3, 1) := by decide +kernel
theorem dX5_digest_124 : decode cX5_digest 124 = .ok (.iaload, 1) := by decide +kernel
theorem dX5_digest_125 : decode cX5_digest 125 = .ok (.i2l, 1) := by decide +kernel
theorem dX5_digest_126 : decode cX5_digest 126 = .ok (.ladd, 1) := by decide +kernel
theorem dX5_digest_127 : decode cX5_digest 127 = .ok (.lstore_n 1, 1) := by decide +kernel
theorem dX5_digest_128 : decode cX5_digest 128 = .ok (.iinc 3 1, 3) := by decide +kernel
theorem dX5_digest_131 : decode cX5_digest 131 = .ok (.goto (-40), 3) := by decide +kernel
theorem dX5_digest_134 : decode cX5_digest 134 = .ok (.ldc2_w 214, 3) := by decide +kernel
theorem dX5_digest_137 : decode cX5_digest 137 = .ok (.lload_n 1, 1) := by decide +kernel
theorem dX5_digest_138 : decode cX5_digest 138 = .ok (.lmul, 1) := by decide +kernel
theorem dX5_digest_139 : decode cX5_digest 139 = .ok (.aload_n 0, 1) := by decide +kernel
theorem dX5_digest_140 : decode cX5_digest 140 = .ok (.getfield 45, 3) := by decide +kernel
theorem dX5_digest_143 : decode cX5_digest 143 = .ok (.ladd, 1) := by decide +kernel
theorem dX5_digest_144 : decode cX5_digest 144 = .ok (.lstore_n 1, 1) := by decide +kernel
theorem dX5_digest_145 : decode cX5_digest 145 = .ok (.ldc2_w 214, 3) := by decide +kernel
theorem dX5_digest_148 : decode cX5_digest 148 = .ok (.lload_n 1, 1) := by decide +kernel
theorem dX5_digest_149 : decode cX5_digest 149 = .ok (.lmul, 1) := by decide +kernel
theorem dX5_digest_150 : decode cX5_digest 150 = .ok (.aload_n 0, 1) := by decide +kernel
theorem dX5_digest_151 : decode cX5_digest 151 = .ok (.getfield 49, 3) := by decide +kernel
theorem dX5_digest_154 : decode cX5_digest 154 = .ok (.ladd, 1) := by decide +kernel
theorem dX5_digest_155 : decode cX5_digest 155 = .ok (.lreturn, 1) := by decide +kernel
theorem dX5_within_0 : decode cX5_within 0 = .ok (.iload_n 0, 1) := by decide +kernel
theorem dX5_within_1 : decode cX5_within 1 = .ok (.iload_n 1, 1) := by decide +kernel
theorem dX5_within_2 : decode cX5_within 2 = .ok (.if_icmp .lt 12, 3) := by decide +kernel
theorem dX5_within_5 : decode cX5_within 5 = .ok (.iload_n 0, 1) := by decide +kernel
theorem dX5_within_6 : decode cX5_within 6 = .ok (.iload_n 2, 1) := by decide +kernel
theorem dX5_within_7 : decode cX5_within 7 = .ok (.if_icmp .gt 7, 3) := by decide +kernel
theorem dX5_within_10 : decode cX5_within 10 = .ok (.iconst 1, 1) := by decide +kernel
theorem dX5_within_11 : decode cX5_within 11 = .ok (.goto 4, 3) := by decide +kernel
theorem dX5_within_14 : decode cX5_within 14 = .ok (.iconst 0, 1) := by decide +kernel
theorem dX5_within_15 : decode cX5_within 15 = .ok (.ireturn, 1) := by decide +kernel
set_option maxRecDepth 20000 in
theorem ggX5_isSeat_X5_within : GoodIn wsX5_isSeat wsX5_within := goodIn_r _ [4] (by decide +kernel) (by decide +kernel)
set_option maxRecDepth 20000 in
theorem gX5_isSeat_X5_within : GoodIn wsX5_isSeat (va_wsS RX5 75 yX5_within wsX5_within) := goodIn_app (goodIn_of _ (by decide +kernel)) ggX5_isSeat_X5_within
theorem dX5_isSeat_0 : decode cX5_isSeat 0 = .ok (.iload_n 0, 1) := by decide +kernel
theorem dX5_isSeat_1 : decode cX5_isSeat 1 = .ok (.iconst 0, 1) := by decide +kernel
theorem dX5_isSeat_2 : decode cX5_isSeat 2 = .ok (.bipush 7, 2) := by decide +kernel
theorem dX5_isSeat_4 : decode cX5_isSeat 4 = .ok (.invokestatic 75, 3) := by decide +kernel
theorem dX5_isSeat_7 : decode cX5_isSeat 7 = .ok (.ireturn, 1) := by decide +kernel
set_option maxRecDepth 20000 in
theorem ggX5_isChild_X5_within : GoodIn wsX5_isChild wsX5_within := goodIn_r _ [5] (by decide +kernel) (by decide +kernel)
set_option maxRecDepth 20000 in
theorem gX5_isChild_X5_within : GoodIn wsX5_isChild (va_wsS RX5 75 yX5_within wsX5_within) := goodIn_app (goodIn_of _ (by decide +kernel)) ggX5_isChild_X5_within
theorem dX5_isChild_0 : decode cX5_isChild 0 = .ok (.iload_n 1, 1) := by decide +kernel
theorem dX5_isChild_1 : decode cX5_isChild 1 = .ok (.iconst 0, 1) := by decide +kernel
theorem dX5_isChild_2 : decode cX5_isChild 2 = .ok (.aload_n 0, 1) := by decide +kernel
theorem dX5_isChild_3 : decode cX5_isChild 3 = .ok (.getfield 10, 3) := by decide +kernel
theorem dX5_isChild_6 : decode cX5_isChild 6 = .ok (.getfield 60, 3) := by decide +kernel
theorem dX5_isChild_9 : decode cX5_isChild 9 = .ok (.getfield 63, 3) := by decide +kernel
theorem dX5_isChild_12 : decode cX5_isChild 12 = .ok (.iconst 1, 1) := by decide +kernel
theorem dX5_isChild_13 : decode cX5_isChild 13 = .ok (.isub, 1) := by decide +kernel
theorem dX5_isChild_14 : decode cX5_isChild 14 = .ok (.invokestatic 75, 3) := by decide +kernel
theorem dX5_isChild_17 : decode cX5_isChild 17 = .ok (.ireturn, 1) := by decide +kernel
set_option maxRecDepth 20000 in
theorem ggX5_refuse_X5_within : GoodIn wsX5_refuse wsX5_within := goodIn_r _ [5] (by decide +kernel) (by decide +kernel)
set_option maxRecDepth 20000 in
theorem gX5_refuse_X5_within : GoodIn wsX5_refuse (va_wsS RX5 75 yX5_within wsX5_within) := goodIn_app (goodIn_of _ (by decide +kernel)) ggX5_refuse_X5_within
theorem dX5_refuse_0 : decode cX5_refuse 0 = .ok (.bipush (-2), 2) := by decide +kernel
theorem dX5_refuse_2 : decode cX5_refuse 2 = .ok (.iload_n 1, 1) := by decide +kernel
theorem dX5_refuse_3 : decode cX5_refuse 3 = .ok (.isub, 1) := by decide +kernel
theorem dX5_refuse_4 : decode cX5_refuse 4 = .ok (.istore_n 2, 1) := by decide +kernel
theorem dX5_refuse_5 : decode cX5_refuse 5 = .ok (.iload_n 2, 1) := by decide +kernel
theorem dX5_refuse_6 : decode cX5_refuse 6 = .ok (.iconst 0, 1) := by decide +kernel
theorem dX5_refuse_7 : decode cX5_refuse 7 = .ok (.aload_n 0, 1) := by decide +kernel
theorem dX5_refuse_8 : decode cX5_refuse 8 = .ok (.getfield 42, 3) := by decide +kernel
theorem dX5_refuse_11 : decode cX5_refuse 11 = .ok (.arraylength, 1) := by decide +kernel
theorem dX5_refuse_12 : decode cX5_refuse 12 = .ok (.iconst 1, 1) := by decide +kernel
theorem dX5_refuse_13 : decode cX5_refuse 13 = .ok (.isub, 1) := by decide +kernel
theorem dX5_refuse_14 : decode cX5_refuse 14 = .ok (.invokestatic 75, 3) := by decide +kernel
theorem dX5_refuse_17 : decode cX5_refuse 17 = .ok (.ifCond .eq 13, 3) := by decide +kernel
theorem dX5_refuse_20 : decode cX5_refuse 20 = .ok (.aload_n 0, 1) := by decide +kernel
theorem dX5_refuse_21 : decode cX5_refuse 21 = .ok (.getfield 42, 3) := by decide +kernel
theorem dX5_refuse_24 : decode cX5_refuse 24 = .ok (.iload_n 2, 1) := by decide +kernel
theorem dX5_refuse_25 : decode cX5_refuse 25 = .ok (.dup2, 1) := by decide +kernel
theorem dX5_refuse_26 : decode cX5_refuse 26 = .ok (.iaload, 1) := by decide +kernel
theorem dX5_refuse_27 : decode cX5_refuse 27 = .ok (.iconst 1, 1) := by decide +kernel
theorem dX5_refuse_28 : decode cX5_refuse 28 = .ok (.iadd, 1) := by decide +kernel
theorem dX5_refuse_29 : decode cX5_refuse 29 = .ok (.iastore, 1) := by decide +kernel
theorem dX5_refuse_30 : decode cX5_refuse 30 = .ok (.iload_n 1, 1) := by decide +kernel
theorem dX5_refuse_31 : decode cX5_refuse 31 = .ok (.ireturn, 1) := by decide +kernel
theorem dX5_howMany_0 : decode cX5_howMany 0 = .ok (.iload_n 1, 1) := by decide +kernel
theorem dX5_howMany_1 : decode cX5_howMany 1 = .ok (.tableswitch 120 0 6 #[43, 54, 65, 76, 87, 98, 109], 43) := by decide +kernel
theorem dX5_howMany_44 : decode cX5_howMany 44 = .ok (.aload_n 0, 1) := by decide +kernel
theorem dX5_howMany_45 : decode cX5_howMany 45 = .ok (.getfield 10, 3) := by decide +kernel
theorem dX5_howMany_48 : decode cX5_howMany 48 = .ok (.getfield 60, 3) := by decide +kernel
theorem dX5_howMany_51 : decode cX5_howMany 51 = .ok (.getfield 63, 3) := by decide +kernel
theorem dX5_howMany_54 : decode cX5_howMany 54 = .ok (.ireturn, 1) := by decide +kernel
theorem dX5_howMany_55 : decode cX5_howMany 55 = .ok (.aload_n 0, 1) := by decide +kernel
theorem dX5_howMany_56 : decode cX5_howMany 56 = .ok (.getfield 10, 3) := by decide +kernel
theorem dX5_howMany_59 : decode cX5_howMany 59 = .ok (.getfield 60, 3) := by decide +kernel
theorem dX5_howMany_62 : decode cX5_howMany 62 = .ok (.getfield 108, 3) := by decide +kernel
theorem dX5_howMany_65 : decode cX5_howMany 65 = .ok (.ireturn, 1) := by decide +kernel
theorem dX5_howMany_66 : decode cX5_howMany 66 = .ok (.aload_n 0, 1) := by decide +kernel
theorem dX5_howMany_67 : decode cX5_howMany 67 = .ok (.getfield 10, 3) := by decide +kernel
theorem dX5_howMany_70 : decode cX5_howMany 70 = .ok (.getfield 60, 3) := by decide +kernel
theorem dX5_howMany_73 : decode cX5_howMany 73 = .ok (.getfield 157, 3) := by decide +kernel
theorem dX5_howMany_76 : decode cX5_howMany 76 = .ok (.ireturn, 1) := by decide +kernel
theorem dX5_howMany_77 : decode cX5_howMany 77 = .ok (.aload_n 0, 1) := by decide +kernel
theorem dX5_howMany_78 : decode cX5_howMany 78 = .ok (.getfield 10, 3) := by decide +kernel
theorem dX5_howMany_81 : decode cX5_howMany 81 = .ok (.getfield 60, 3) := by decide +kernel
theorem dX5_howMany_84 : decode cX5_howMany 84 = .ok (.getfield 227, 3) := by decide +kernel
theorem dX5_howMany_87 : decode cX5_howMany 87 = .ok (.ireturn, 1) := by decide +kernel
theorem dX5_howMany_88 : decode cX5_howMany 88 = .ok (.aload_n 0, 1) := by decide +kernel
theorem dX5_howMany_89 : decode cX5_howMany 89 = .ok (.getfield 10, 3) := by decide +kernel
theorem dX5_howMany_92 : decode cX5_howMany 92 = .ok (.getfield 60, 3) := by decide +kernel
theorem dX5_howMany_95 : decode cX5_howMany 95 = .ok (.getfield 129, 3) := by decide +kernel
theorem dX5_howMany_98 : decode cX5_howMany 98 = .ok (.ireturn, 1) := by decide +kernel
theorem dX5_howMany_99 : decode cX5_howMany 99 = .ok (.aload_n 0, 1) := by decide +kernel
theorem dX5_howMany_100 : decode cX5_howMany 100 = .ok (.getfield 10, 3) := by decide +kernel
theorem dX5_howMany_103 : decode cX5_howMany 103 = .ok (.getfield 176, 3) := by decide +kernel
theorem dX5_howMany_106 : decode cX5_howMany 106 = .ok (.getfield 180, 3) := by decide +kernel
theorem dX5_howMany_109 : decode cX5_howMany 109 = .ok (.ireturn, 1) := by decide +kernel
theorem dX5_howMany_110 : decode cX5_howMany 110 = .ok (.aload_n 0, 1) := by decide +kernel
theorem dX5_howMany_111 : decode cX5_howMany 111 = .ok (.getfield 10, 3) := by decide +kernel
theorem dX5_howMany_114 : decode cX5_howMany 114 = .ok (.getfield 82, 3) := by decide +kernel
theorem dX5_howMany_117 : decode cX5_howMany 117 = .ok (.getfield 132, 3) := by decide +kernel
theorem dX5_howMany_120 : decode cX5_howMany 120 = .ok (.ireturn, 1) := by decide +kernel
theorem dX5_howMany_121 : decode cX5_howMany 121 = .ok (.aload_n 0, 1) := by decide +kernel
theorem dX5_howMany_122 : decode cX5_howMany 122 = .ok (.getfield 27, 3) := by decide +kernel
theorem dX5_howMany_125 : decode cX5_howMany 125 = .ok (.getfield 95, 3) := by decide +kernel
theorem dX5_howMany_128 : decode cX5_howMany 128 = .ok (.ireturn, 1) := by decide +kernel
set_option maxRecDepth 20000 in
theorem ggX5_bitesWithCarrot_X3_copyFrom : GoodIn wsX5_bitesWithCarrot wsX3_copyFrom := goodIn_r _ [6, 7, 8, 9, 10, 11, 12, 13, 14, 15, 16, 17, 18, 19, 20, 98, 99, 100, 101, 102, 103, 104, 105, 106, 107] (by decide +kernel) (by decide +kernel)
set_option maxRecDepth 20000 in
theorem gX5_bitesWithCarrot_X3_copyFrom_n154 : GoodIn wsX5_bitesWithCarrot (wsX3_copyFrom) := ggX5_bitesWithCarrot_X3_copyFrom
set_option maxRecDepth 20000 in
theorem ggX5_bitesWithCarrot_X3_passMinutes : GoodIn wsX5_bitesWithCarrot wsX3_passMinutes := goodIn_r _ [23, 24, 25, 26, 4, 27, 11, 20, 19, 28, 29, 30, 31, 32, 33, 34, 10, 9, 8, 35, 36, 37, 38, 17, 39, 40, 41, 42, 43, 44, 45, 46, 47, 48, 49, 50, 51, 52, 53, 54, 55, 7, 56, 57, 58, 59, 12, 18, 60, 61, 62, 63, 64, 65, 66, 67, 68, 69, 70, 71, 72, 73, 74, 75, 76, 77, 78, 79, 80, 81, 82, 98, 99, 100, 101, 102, 103, 104, 105, 106, 107] (by decide +kernel) (by decide +kernel)
set_option maxRecDepth 20000 in
theorem gX5_bitesWithCarrot_X3_passMinutes_n117 : GoodIn wsX5_bitesWithCarrot (wsX3_passMinutes) := ggX5_bitesWithCarrot_X3_passMinutes
set_option maxRecDepth 20000 in
theorem ggX5_bitesWithCarrot_X3_giveCarrot : GoodIn wsX5_bitesWithCarrot wsX3_giveCarrot := goodIn_r _ [85, 19, 28, 29, 30, 31, 98, 99, 100, 101, 102, 103, 104, 105, 106, 107] (by decide +kernel) (by decide +kernel)
set_option maxRecDepth 20000 in
theorem gX5_bitesWithCarrot_X3_giveCarrot_n123 : GoodIn wsX5_bitesWithCarrot (wsX3_giveCarrot) := ggX5_bitesWithCarrot_X3_giveCarrot
theorem dX5_bitesWithCarrot_0 : decode cX5_bitesWithCarrot 0 = .ok (.aload_n 0, 1) := by decide +kernel
theorem dX5_bitesWithCarrot_1 : decode cX5_bitesWithCarrot 1 = .ok (.getfield 34, 3) := by decide +kernel
theorem dX5_bitesWithCarrot_4 : decode cX5_bitesWithCarrot 4 = .ok (.aload_n 0, 1) := by decide +kernel
theorem dX5_bitesWithCarrot_5 : decode cX5_bitesWithCarrot 5 = .ok (.getfield 10, 3) := by decide +kernel
theorem dX5_bitesWithCarrot_8 : decode cX5_bitesWithCarrot 8 = .ok (.getfield 60, 3) := by decide +kernel
theorem dX5_bitesWithCarrot_11 : decode cX5_bitesWithCarrot 11 = .ok (.invokevirtual 154, 3) := by decide +kernel
theorem dX5_bitesWithCarrot_14 : decode cX5_bitesWithCarrot 14 = .ok (.aload_n 0, 1) := by decide +kernel
theorem dX5_bitesWithCarrot_15 : decode cX5_bitesWithCarrot 15 = .ok (.getfield 34, 3) := by decide +kernel
theorem dX5_bitesWithCarrot_18 : decode cX5_bitesWithCarrot 18 = .ok (.iload_n 2, 1) := by decide +kernel
theorem dX5_bitesWithCarrot_19 : decode cX5_bitesWithCarrot 19 = .ok (.invokevirtual 117, 3) := by decide +kernel
theorem dX5_bitesWithCarrot_22 : decode cX5_bitesWithCarrot 22 = .ok (.istore_n 3, 1) := by decide +kernel
theorem dX5_bitesWithCarrot_23 : decode cX5_bitesWithCarrot 23 = .ok (.aload_n 0, 1) := by decide +kernel
theorem dX5_bitesWithCarrot_24 : decode cX5_bitesWithCarrot 24 = .ok (.getfield 34, 3) := by decide +kernel
theorem dX5_bitesWithCarrot_27 : decode cX5_bitesWithCarrot 27 = .ok (.iload_n 1, 1) := by decide +kernel
theorem dX5_bitesWithCarrot_28 : decode cX5_bitesWithCarrot 28 = .ok (.invokevirtual 123, 3) := by decide +kernel
theorem dX5_bitesWithCarrot_31 : decode cX5_bitesWithCarrot 31 = .ok (.pop, 1) := by decide +kernel
theorem dX5_bitesWithCarrot_32 : decode cX5_bitesWithCarrot 32 = .ok (.iload_n 3, 1) := by decide +kernel
theorem dX5_bitesWithCarrot_33 : decode cX5_bitesWithCarrot 33 = .ok (.aload_n 0, 1) := by decide +kernel
theorem dX5_bitesWithCarrot_34 : decode cX5_bitesWithCarrot 34 = .ok (.getfield 34, 3) := by decide +kernel
theorem dX5_bitesWithCarrot_37 : decode cX5_bitesWithCarrot 37 = .ok (.bipush 20, 2) := by decide +kernel
theorem dX5_bitesWithCarrot_39 : decode cX5_bitesWithCarrot 39 = .ok (.iload_n 2, 1) := by decide +kernel
theorem dX5_bitesWithCarrot_40 : decode cX5_bitesWithCarrot 40 = .ok (.isub, 1) := by decide +kernel
theorem dX5_bitesWithCarrot_41 : decode cX5_bitesWithCarrot 41 = .ok (.invokevirtual 117, 3) := by decide +kernel
theorem dX5_bitesWithCarrot_44 : decode cX5_bitesWithCarrot 44 = .ok (.iadd, 1) := by decide +kernel
theorem dX5_bitesWithCarrot_45 : decode cX5_bitesWithCarrot 45 = .ok (.ireturn, 1) := by decide +kernel
set_option maxRecDepth 20000 in
theorem ggX5_seatRest_X3_biters : GoodIn wsX5_seatRest wsX3_biters := goodIn_r _ [8, 9, 10, 11, 12, 13, 6, 14, 15, 16, 17, 18, 19, 20, 21, 22, 23, 24, 25, 26, 27, 28, 29, 30, 31, 32, 33, 34, 35, 36, 37, 38, 39, 40, 41, 42, 43, 44, 57, 58, 59, 60, 61, 62, 63, 64, 65, 66] (by decide +kernel) (by decide +kernel)
set_option maxRecDepth 20000 in
theorem gX5_seatRest_X3_biters_n150 : GoodIn wsX5_seatRest (wsX3_biters) := ggX5_seatRest_X3_biters
set_option maxRecDepth 20000 in
theorem ggX5_seatRest_J6_bitCount_0f7a4 : GoodIn wsX5_seatRest wsJ6_bitCount_0f7a4 := goodIn_r _ [48, 49, 50, 51] (by decide +kernel) (by decide +kernel)
set_option maxRecDepth 20000 in
theorem gX5_seatRest_J6_bitCount_0f7a4 : GoodIn wsX5_seatRest (va_wsS RX5 200 yJ6_bitCount_0f7a4 wsJ6_bitCount_0f7a4) := goodIn_app (goodIn_of _ (by decide +kernel)) ggX5_seatRest_J6_bitCount_0f7a4
set_option maxRecDepth 20000 in
theorem ggX5_seatRest_X3_childAt : GoodIn wsX5_seatRest wsX3_childAt := goodIn_r _ [54, 9, 10, 57, 58, 59, 60, 61, 62, 63, 64, 65, 66] (by decide +kernel) (by decide +kernel)
set_option maxRecDepth 20000 in
theorem gX5_seatRest_X3_childAt_n79 : GoodIn wsX5_seatRest (wsX3_childAt) := ggX5_seatRest_X3_childAt
set_option maxRecDepth 20000 in
theorem ggX5_seatRest_X5_seatRest : GoodIn wsX5_seatRest wsX5_seatRest := goodIn_r _ [0, 1, 2, 3, 4, 5, 6, 7, 8, 9, 10, 11, 12, 13, 14, 15, 16, 17, 18, 19, 20, 21, 22, 23, 24, 25, 26, 27, 28, 29, 30, 31, 32, 33, 34, 35, 36, 37, 38, 39, 40, 41, 42, 43, 44, 45, 46, 47, 48, 49, 50, 51, 52, 53, 54, 55, 56, 57, 58, 59, 60, 61, 62, 63, 64, 65, 66] (by decide +kernel) (by decide +kernel)
set_option maxRecDepth 20000 in
theorem gX5_seatRest_X5_seatRest : GoodIn wsX5_seatRest (va_wsS RX5 169 yX5_seatRest wsX5_seatRest) := goodIn_app (goodIn_of _ (by decide +kernel)) ggX5_seatRest_X5_seatRest
theorem dX5_seatRest_0 : decode cX5_seatRest 0 = .ok (.aload_n 0, 1) := by decide +kernel
theorem dX5_seatRest_1 : decode cX5_seatRest 1 = .ok (.iload_n 1, 1) := by decide +kernel
theorem dX5_seatRest_2 : decode cX5_seatRest 2 = .ok (.putfield 63, 3) := by decide +kernel
theorem dX5_seatRest_5 : decode cX5_seatRest 5 = .ok (.aload_n 0, 1) := by decide +kernel
theorem dX5_seatRest_6 : decode cX5_seatRest 6 = .ok (.invokevirtual 150, 3) := by decide +kernel
theorem dX5_seatRest_9 : decode cX5_seatRest 9 = .ok (.invokestatic 200, 3) := by decide +kernel
theorem dX5_seatRest_12 : decode cX5_seatRest 12 = .ok (.istore 5, 2) := by decide +kernel
theorem dX5_seatRest_14 : decode cX5_seatRest 14 = .ok (.iload 5, 2) := by decide +kernel
theorem dX5_seatRest_16 : decode cX5_seatRest 16 = .ok (.iload_n 3, 1) := by decide +kernel
theorem dX5_seatRest_17 : decode cX5_seatRest 17 = .ok (.if_icmp .lt 5, 3) := by decide +kernel
theorem dX5_seatRest_20 : decode cX5_seatRest 20 = .ok (.iload_n 3, 1) := by decide +kernel
theorem dX5_seatRest_21 : decode cX5_seatRest 21 = .ok (.ireturn, 1) := by decide +kernel
theorem dX5_seatRest_22 : decode cX5_seatRest 22 = .ok (.iload_n 1, 1) := by decide +kernel
theorem dX5_seatRest_23 : decode cX5_seatRest 23 = .ok (.iload_n 2, 1) := by decide +kernel
theorem dX5_seatRest_24 : decode cX5_seatRest 24 = .ok (.if_icmp .ge 9, 3) := by decide +kernel
theorem dX5_seatRest_27 : decode cX5_seatRest 27 = .ok (.iload_n 1, 1) := by decide +kernel
theorem dX5_seatRest_28 : decode cX5_seatRest 28 = .ok (.bipush 6, 2) := by decide +kernel
theorem dX5_seatRest_30 : decode cX5_seatRest 30 = .ok (.if_icmp .lt 19, 3) := by decide +kernel
theorem dX5_seatRest_33 : decode cX5_seatRest 33 = .ok (.aload_n 0, 1) := by decide +kernel
theorem dX5_seatRest_34 : decode cX5_seatRest 34 = .ok (.getfield 126, 3) := by decide +kernel
theorem dX5_seatRest_37 : decode cX5_seatRest 37 = .ok (.iconst 0, 1) := by decide +kernel
theorem dX5_seatRest_38 : decode cX5_seatRest 38 = .ok (.aload 4, 2) := by decide +kernel
theorem dX5_seatRest_40 : decode cX5_seatRest 40 = .ok (.iconst 0, 1) := by decide +kernel
theorem dX5_seatRest_41 : decode cX5_seatRest 41 = .ok (.bipush 6, 2) := by decide +kernel
theorem dX5_seatRest_43 : decode cX5_seatRest 43 = .ok (.invokestatic 230, 3) := by decide +kernel
theorem dX5_seatRest_46 : decode cX5_seatRest 46 = .ok (.iload 5, 2) := by decide +kernel
theorem dX5_seatRest_48 : decode cX5_seatRest 48 = .ok (.ireturn, 1) := by decide +kernel
theorem dX5_seatRest_49 : decode cX5_seatRest 49 = .ok (.iload_n 3, 1) := by decide +kernel
theorem dX5_seatRest_50 : decode cX5_seatRest 50 = .ok (.istore 6, 2) := by decide +kernel
theorem dX5_seatRest_52 : decode cX5_seatRest 52 = .ok (.iconst 0, 1) := by decide +kernel
theorem dX5_seatRest_53 : decode cX5_seatRest 53 = .ok (.istore 7, 2) := by decide +kernel
theorem dX5_seatRest_55 : decode cX5_seatRest 55 = .ok (.iload 7, 2) := by decide +kernel
theorem dX5_seatRest_57 : decode cX5_seatRest 57 = .ok (.bipush 8, 2) := by decide +kernel
theorem dX5_seatRest_59 : decode cX5_seatRest 59 = .ok (.if_icmp .ge 46, 3) := by decide +kernel
theorem dX5_seatRest_62 : decode cX5_seatRest 62 = .ok (.aload_n 0, 1) := by decide +kernel
theorem dX5_seatRest_63 : decode cX5_seatRest 63 = .ok (.iload_n 1, 1) := by decide +kernel
theorem dX5_seatRest_64 : decode cX5_seatRest 64 = .ok (.putfield 63, 3) := by decide +kernel
theorem dX5_seatRest_67 : decode cX5_seatRest 67 = .ok (.aload_n 0, 1) := by decide +kernel
theorem dX5_seatRest_68 : decode cX5_seatRest 68 = .ok (.iload 7, 2) := by decide +kernel
theorem dX5_seatRest_70 : decode cX5_seatRest 70 = .ok (.invokevirtual 79, 3) := by decide +kernel
theorem dX5_seatRest_73 : decode cX5_seatRest 73 = .ok (.iconst (-1), 1) := by decide +kernel
theorem dX5_seatRest_74 : decode cX5_seatRest 74 = .ok (.if_icmp .ne 25, 3) := by decide +kernel
theorem dX5_seatRest_77 : decode cX5_seatRest 77 = .ok (.aload_n 0, 1) := by decide +kernel
theorem dX5_seatRest_78 : decode cX5_seatRest 78 = .ok (.getfield 126, 3) := by decide +kernel
theorem dX5_seatRest_81 : decode cX5_seatRest 81 = .ok (.iload_n 1, 1) := by decide +kernel
theorem dX5_seatRest_82 : decode cX5_seatRest 82 = .ok (.iload 7, 2) := by decide +kernel
theorem dX5_seatRest_84 : decode cX5_seatRest 84 = .ok (.iastore, 1) := by decide +kernel
theorem dX5_seatRest_85 : decode cX5_seatRest 85 = .ok (.aload_n 0, 1) := by decide +kernel
theorem dX5_seatRest_86 : decode cX5_seatRest 86 = .ok (.iload_n 1, 1) := by decide +kernel
theorem dX5_seatRest_87 : decode cX5_seatRest 87 = .ok (.iconst 1, 1) := by decide +kernel
theorem dX5_seatRest_88 : decode cX5_seatRest 88 = .ok (.iadd, 1) := by decide +kernel
theorem dX5_seatRest_89 : decode cX5_seatRest 89 = .ok (.iload_n 2, 1) := by decide +kernel
theorem dX5_seatRest_90 : decode cX5_seatRest 90 = .ok (.iload 6, 2) := by decide +kernel
theorem dX5_seatRest_92 : decode cX5_seatRest 92 = .ok (.aload 4, 2) := by decide +kernel
theorem dX5_seatRest_94 : decode cX5_seatRest 94 = .ok (.invokestatic 169, 3) := by decide +kernel
theorem dX5_seatRest_97 : decode cX5_seatRest 97 = .ok (.istore 6, 2) := by decide +kernel
theorem dX5_seatRest_99 : decode cX5_seatRest 99 = .ok (.iinc 7 1, 3) := by decide +kernel
theorem dX5_seatRest_102 : decode cX5_seatRest 102 = .ok (.goto (-47), 3) := by decide +kernel
theorem dX5_seatRest_105 : decode cX5_seatRest 105 = .ok (.iload 6, 2) := by decide +kernel
theorem dX5_seatRest_107 : decode cX5_seatRest 107 = .ok (.ireturn, 1) := by decide +kernel
set_option maxRecDepth 20000 in
theorem ggX5_ringGain_X3_biters : GoodIn wsX5_ringGain wsX3_biters := goodIn_r _ [5, 6, 7, 8, 9, 10, 3, 11, 12, 13, 14, 15, 16, 17, 18, 19, 20, 21, 22, 23, 24, 25, 26, 27, 28, 29, 30, 31, 32, 33, 34, 35, 36, 37, 38, 39, 40, 41, 65, 66, 67, 68, 69, 70, 71, 72, 73, 74] (by decide +kernel) (by decide +kernel)
set_option maxRecDepth 20000 in
theorem gX5_ringGain_X3_biters_n150 : GoodIn wsX5_ringGain (wsX3_biters) := ggX5_ringGain_X3_biters
set_option maxRecDepth 20000 in
theorem ggX5_ringGain_X3_timesBitten : GoodIn wsX5_ringGain wsX3_timesBitten := goodIn_r _ [44, 6, 45, 46, 47, 3, 48, 7, 15, 16, 17, 49, 50, 51, 52, 18, 19, 20, 65, 66, 67, 68, 69, 70, 71, 72, 73, 74] (by decide +kernel) (by decide +kernel)
set_option maxRecDepth 20000 in
theorem gX5_ringGain_X3_timesBitten_n236 : GoodIn wsX5_ringGain (wsX3_timesBitten) := ggX5_ringGain_X3_timesBitten
theorem dX5_ringGain_0 : decode cX5_ringGain 0 = .ok (.iload_n 2, 1) := by decide +kernel
theorem dX5_ringGain_1 : decode cX5_ringGain 1 = .ok (.iconst 1, 1) := by decide +kernel
theorem dX5_ringGain_2 : decode cX5_ringGain 2 = .ok (.iand, 1) := by decide +kernel
theorem dX5_ringGain_3 : decode cX5_ringGain 3 = .ok (.ifCond .ne 7, 3) := by decide +kernel
theorem dX5_ringGain_6 : decode cX5_ringGain 6 = .ok (.iconst 1, 1) := by decide +kernel
theorem dX5_ringGain_7 : decode cX5_ringGain 7 = .ok (.goto 4, 3) := by decide +kernel
theorem dX5_ringGain_10 : decode cX5_ringGain 10 = .ok (.iconst 0, 1) := by decide +kernel
theorem dX5_ringGain_11 : decode cX5_ringGain 11 = .ok (.istore 5, 2) := by decide +kernel
theorem dX5_ringGain_13 : decode cX5_ringGain 13 = .ok (.iload_n 2, 1) := by decide +kernel
theorem dX5_ringGain_14 : decode cX5_ringGain 14 = .ok (.iconst 2, 1) := by decide +kernel
theorem dX5_ringGain_15 : decode cX5_ringGain 15 = .ok (.iand, 1) := by decide +kernel
theorem dX5_ringGain_16 : decode cX5_ringGain 16 = .ok (.ifCond .ne 7, 3) := by decide +kernel
theorem dX5_ringGain_19 : decode cX5_ringGain 19 = .ok (.iconst 1, 1) := by decide +kernel
theorem dX5_ringGain_20 : decode cX5_ringGain 20 = .ok (.goto 4, 3) := by decide +kernel
theorem dX5_ringGain_23 : decode cX5_ringGain 23 = .ok (.iconst 0, 1) := by decide +kernel
theorem dX5_ringGain_24 : decode cX5_ringGain 24 = .ok (.istore 6, 2) := by decide +kernel
theorem dX5_ringGain_26 : decode cX5_ringGain 26 = .ok (.aload_n 0, 1) := by decide +kernel
theorem dX5_ringGain_27 : decode cX5_ringGain 27 = .ok (.getfield 10, 3) := by decide +kernel
theorem dX5_ringGain_30 : decode cX5_ringGain 30 = .ok (.getfield 60, 3) := by decide +kernel
theorem dX5_ringGain_33 : decode cX5_ringGain 33 = .ok (.invokevirtual 150, 3) := by decide +kernel
theorem dX5_ringGain_36 : decode cX5_ringGain 36 = .ok (.istore 7, 2) := by decide +kernel
theorem dX5_ringGain_38 : decode cX5_ringGain 38 = .ok (.iload 5, 2) := by decide +kernel
theorem dX5_ringGain_40 : decode cX5_ringGain 40 = .ok (.ifCond .eq 13, 3) := by decide +kernel
theorem dX5_ringGain_43 : decode cX5_ringGain 43 = .ok (.iload 7, 2) := by decide +kernel
theorem dX5_ringGain_45 : decode cX5_ringGain 45 = .ok (.iconst 1, 1) := by decide +kernel
theorem dX5_ringGain_46 : decode cX5_ringGain 46 = .ok (.iload_n 3, 1) := by decide +kernel
theorem dX5_ringGain_47 : decode cX5_ringGain 47 = .ok (.ishl, 1) := by decide +kernel
theorem dX5_ringGain_48 : decode cX5_ringGain 48 = .ok (.iconst (-1), 1) := by decide +kernel
theorem dX5_ringGain_49 : decode cX5_ringGain 49 = .ok (.ixor, 1) := by decide +kernel
theorem dX5_ringGain_50 : decode cX5_ringGain 50 = .ok (.iand, 1) := by decide +kernel
theorem dX5_ringGain_51 : decode cX5_ringGain 51 = .ok (.istore 7, 2) := by decide +kernel
theorem dX5_ringGain_53 : decode cX5_ringGain 53 = .ok (.iload 6, 2) := by decide +kernel
theorem dX5_ringGain_55 : decode cX5_ringGain 55 = .ok (.ifCond .eq 14, 3) := by decide +kernel
theorem dX5_ringGain_58 : decode cX5_ringGain 58 = .ok (.iload 7, 2) := by decide +kernel
theorem dX5_ringGain_60 : decode cX5_ringGain 60 = .ok (.iconst 1, 1) := by decide +kernel
theorem dX5_ringGain_61 : decode cX5_ringGain 61 = .ok (.iload 4, 2) := by decide +kernel
theorem dX5_ringGain_63 : decode cX5_ringGain 63 = .ok (.ishl, 1) := by decide +kernel
theorem dX5_ringGain_64 : decode cX5_ringGain 64 = .ok (.iconst (-1), 1) := by decide +kernel
theorem dX5_ringGain_65 : decode cX5_ringGain 65 = .ok (.ixor, 1) := by decide +kernel
theorem dX5_ringGain_66 : decode cX5_ringGain 66 = .ok (.iand, 1) := by decide +kernel
theorem dX5_ringGain_67 : decode cX5_ringGain 67 = .ok (.istore 7, 2) := by decide +kernel
theorem dX5_ringGain_69 : decode cX5_ringGain 69 = .ok (.iload_n 1, 1) := by decide +kernel
theorem dX5_ringGain_70 : decode cX5_ringGain 70 = .ok (.iload_n 3, 1) := by decide +kernel
theorem dX5_ringGain_71 : decode cX5_ringGain 71 = .ok (.if_icmp .ne 8, 3) := by decide +kernel
theorem dX5_ringGain_74 : decode cX5_ringGain 74 = .ok (.iload 5, 2) := by decide +kernel
theorem dX5_ringGain_76 : decode cX5_ringGain 76 = .ok (.goto 5, 3) := by decide +kernel
theorem dX5_ringGain_79 : decode cX5_ringGain 79 = .ok (.iload 6, 2) := by decide +kernel
theorem dX5_ringGain_81 : decode cX5_ringGain 81 = .ok (.istore 8, 2) := by decide +kernel
theorem dX5_ringGain_83 : decode cX5_ringGain 83 = .ok (.iload 8, 2) := by decide +kernel
theorem dX5_ringGain_85 : decode cX5_ringGain 85 = .ok (.ifCond .eq 7, 3) := by decide +kernel
theorem dX5_ringGain_88 : decode cX5_ringGain 88 = .ok (.iconst 0, 1) := by decide +kernel
theorem dX5_ringGain_89 : decode cX5_ringGain 89 = .ok (.goto 4, 3) := by decide +kernel
theorem dX5_ringGain_92 : decode cX5_ringGain 92 = .ok (.iconst 1, 1) := by decide +kernel
theorem dX5_ringGain_93 : decode cX5_ringGain 93 = .ok (.iconst 2, 1) := by decide +kernel
theorem dX5_ringGain_94 : decode cX5_ringGain 94 = .ok (.aload_n 0, 1) := by decide +kernel
theorem dX5_ringGain_95 : decode cX5_ringGain 95 = .ok (.getfield 10, 3) := by decide +kernel
theorem dX5_ringGain_98 : decode cX5_ringGain 98 = .ok (.getfield 60, 3) := by decide +kernel
theorem dX5_ringGain_101 : decode cX5_ringGain 101 = .ok (.iload_n 1, 1) := by decide +kernel
theorem dX5_ringGain_102 : decode cX5_ringGain 102 = .ok (.iload 7, 2) := by decide +kernel
theorem dX5_ringGain_104 : decode cX5_ringGain 104 = .ok (.invokevirtual 236, 3) := by decide +kernel
theorem dX5_ringGain_107 : decode cX5_ringGain 107 = .ok (.imul, 1) := by decide +kernel
theorem dX5_ringGain_108 : decode cX5_ringGain 108 = .ok (.isub, 1) := by decide +kernel
theorem dX5_ringGain_109 : decode cX5_ringGain 109 = .ok (.ireturn, 1) := by decide +kernel
set_option maxRecDepth 20000 in
theorem ggX5_mostAlike_X5_near : GoodIn wsX5_mostAlike wsX5_near := goodIn_r _ [8, 1, 2, 3, 4] (by decide +kernel) (by decide +kernel)
set_option maxRecDepth 20000 in
theorem gX5_mostAlike_X5_near : GoodIn wsX5_mostAlike (va_wsS RX5 239 yX5_near wsX5_near) := goodIn_app (goodIn_of _ (by decide +kernel)) ggX5_mostAlike_X5_near
set_option maxRecDepth 20000 in
theorem ggX5_mostAlike_X5_kindsSoNear : GoodIn wsX5_mostAlike wsX5_kindsSoNear := goodIn_r _ [11, 5, 6, 7, 8, 1, 2, 3, 4] (by decide +kernel) (by decide +kernel)
set_option maxRecDepth 20000 in
theorem gX5_mostAlike_X5_kindsSoNear : GoodIn wsX5_mostAlike (va_wsS RX5 242 yX5_kindsSoNear wsX5_kindsSoNear) := goodIn_app (goodIn_of _ (by decide +kernel)) ggX5_mostAlike_X5_kindsSoNear
set_option maxRecDepth 20000 in
theorem ggX5_mostAlike_J6_bitCount_0f7a4 : GoodIn wsX5_mostAlike wsJ6_bitCount_0f7a4 := goodIn_r _ [15, 16, 17, 18] (by decide +kernel) (by decide +kernel)
set_option maxRecDepth 20000 in
theorem gX5_mostAlike_J6_bitCount_0f7a4 : GoodIn wsX5_mostAlike (va_wsS RX5 200 yJ6_bitCount_0f7a4 wsJ6_bitCount_0f7a4) := goodIn_app (goodIn_of _ (by decide +kernel)) ggX5_mostAlike_J6_bitCount_0f7a4
theorem dX5_mostAlike_0 : decode cX5_mostAlike 0 = .ok (.iconst 0, 1) := by decide +kernel
theorem dX5_mostAlike_1 : decode cX5_mostAlike 1 = .ok (.istore 6, 2) := by decide +kernel
theorem dX5_mostAlike_3 : decode cX5_mostAlike 3 = .ok (.iconst 0, 1) := by decide +kernel
theorem dX5_mostAlike_4 : decode cX5_mostAlike 4 = .ok (.istore 7, 2) := by decide +kernel
theorem dX5_mostAlike_6 : decode cX5_mostAlike 6 = .ok (.iload 7, 2) := by decide +kernel
theorem dX5_mostAlike_8 : decode cX5_mostAlike 8 = .ok (.bipush 6, 2) := by decide +kernel
theorem dX5_mostAlike_10 : decode cX5_mostAlike 10 = .ok (.if_icmp .ge 57, 3) := by decide +kernel
theorem dX5_mostAlike_13 : decode cX5_mostAlike 13 = .ok (.iload_n 0, 1) := by decide +kernel
theorem dX5_mostAlike_14 : decode cX5_mostAlike 14 = .ok (.iload 7, 2) := by decide +kernel
theorem dX5_mostAlike_16 : decode cX5_mostAlike 16 = .ok (.ishr, 1) := by decide +kernel
theorem dX5_mostAlike_17 : decode cX5_mostAlike 17 = .ok (.iconst 1, 1) := by decide +kernel
theorem dX5_mostAlike_18 : decode cX5_mostAlike 18 = .ok (.iand, 1) := by decide +kernel
theorem dX5_mostAlike_19 : decode cX5_mostAlike 19 = .ok (.iconst 1, 1) := by decide +kernel
theorem dX5_mostAlike_20 : decode cX5_mostAlike 20 = .ok (.if_icmp .ne 41, 3) := by decide +kernel
theorem dX5_mostAlike_23 : decode cX5_mostAlike 23 = .ok (.iload 7, 2) := by decide +kernel
theorem dX5_mostAlike_25 : decode cX5_mostAlike 25 = .ok (.iload_n 1, 1) := by decide +kernel
theorem dX5_mostAlike_26 : decode cX5_mostAlike 26 = .ok (.iload_n 2, 1) := by decide +kernel
theorem dX5_mostAlike_27 : decode cX5_mostAlike 27 = .ok (.iload_n 3, 1) := by decide +kernel
theorem dX5_mostAlike_28 : decode cX5_mostAlike 28 = .ok (.iload 4, 2) := by decide +kernel
theorem dX5_mostAlike_30 : decode cX5_mostAlike 30 = .ok (.iload 5, 2) := by decide +kernel
theorem dX5_mostAlike_32 : decode cX5_mostAlike 32 = .ok (.invokestatic 239, 3) := by decide +kernel
theorem dX5_mostAlike_35 : decode cX5_mostAlike 35 = .ok (.istore 8, 2) := by decide +kernel
theorem dX5_mostAlike_37 : decode cX5_mostAlike 37 = .ok (.iload 6, 2) := by decide +kernel
theorem dX5_mostAlike_39 : decode cX5_mostAlike 39 = .ok (.iload_n 0, 1) := by decide +kernel
theorem dX5_mostAlike_40 : decode cX5_mostAlike 40 = .ok (.iload 8, 2) := by decide +kernel
theorem dX5_mostAlike_42 : decode cX5_mostAlike 42 = .ok (.iload_n 1, 1) := by decide +kernel
theorem dX5_mostAlike_43 : decode cX5_mostAlike 43 = .ok (.iload_n 2, 1) := by decide +kernel
theorem dX5_mostAlike_44 : decode cX5_mostAlike 44 = .ok (.iload_n 3, 1) := by decide +kernel
theorem dX5_mostAlike_45 : decode cX5_mostAlike 45 = .ok (.iload 4, 2) := by decide +kernel
theorem dX5_mostAlike_47 : decode cX5_mostAlike 47 = .ok (.iload 5, 2) := by decide +kernel
theorem dX5_mostAlike_49 : decode cX5_mostAlike 49 = .ok (.invokestatic 242, 3) := by decide +kernel
theorem dX5_mostAlike_52 : decode cX5_mostAlike 52 = .ok (.iand, 1) := by decide +kernel
theorem dX5_mostAlike_53 : decode cX5_mostAlike 53 = .ok (.invokestatic 200, 3) := by decide +kernel
theorem dX5_mostAlike_56 : decode cX5_mostAlike 56 = .ok (.invokestatic 245, 3) := by decide +kernel
theorem dX5_mostAlike_59 : decode cX5_mostAlike 59 = .ok (.istore 6, 2) := by decide +kernel
theorem dX5_mostAlike_61 : decode cX5_mostAlike 61 = .ok (.iinc 7 1, 3) := by decide +kernel
theorem dX5_mostAlike_64 : decode cX5_mostAlike 64 = .ok (.goto (-58), 3) := by decide +kernel
theorem dX5_mostAlike_67 : decode cX5_mostAlike 67 = .ok (.iload 6, 2) := by decide +kernel
theorem dX5_mostAlike_69 : decode cX5_mostAlike 69 = .ok (.ireturn, 1) := by decide +kernel
set_option maxRecDepth 20000 in
theorem ggX5_kindsSoNear_X5_near : GoodIn wsX5_kindsSoNear wsX5_near := goodIn_r _ [4, 5, 6, 7, 8] (by decide +kernel) (by decide +kernel)
set_option maxRecDepth 20000 in
theorem gX5_kindsSoNear_X5_near : GoodIn wsX5_kindsSoNear (va_wsS RX5 239 yX5_near wsX5_near) := goodIn_app (goodIn_of _ (by decide +kernel)) ggX5_kindsSoNear_X5_near
theorem dX5_kindsSoNear_0 : decode cX5_kindsSoNear 0 = .ok (.iconst 0, 1) := by decide +kernel
theorem dX5_kindsSoNear_1 : decode cX5_kindsSoNear 1 = .ok (.istore 6, 2) := by decide +kernel
theorem dX5_kindsSoNear_3 : decode cX5_kindsSoNear 3 = .ok (.iconst 0, 1) := by decide +kernel
theorem dX5_kindsSoNear_4 : decode cX5_kindsSoNear 4 = .ok (.istore 7, 2) := by decide +kernel
theorem dX5_kindsSoNear_6 : decode cX5_kindsSoNear 6 = .ok (.iload 7, 2) := by decide +kernel
theorem dX5_kindsSoNear_8 : decode cX5_kindsSoNear 8 = .ok (.bipush 6, 2) := by decide +kernel
theorem dX5_kindsSoNear_10 : decode cX5_kindsSoNear 10 = .ok (.if_icmp .ge 34, 3) := by decide +kernel
theorem dX5_kindsSoNear_13 : decode cX5_kindsSoNear 13 = .ok (.iload 7, 2) := by decide +kernel
theorem dX5_kindsSoNear_15 : decode cX5_kindsSoNear 15 = .ok (.iload_n 1, 1) := by decide +kernel
theorem dX5_kindsSoNear_16 : decode cX5_kindsSoNear 16 = .ok (.iload_n 2, 1) := by decide +kernel
theorem dX5_kindsSoNear_17 : decode cX5_kindsSoNear 17 = .ok (.iload_n 3, 1) := by decide +kernel
theorem dX5_kindsSoNear_18 : decode cX5_kindsSoNear 18 = .ok (.iload 4, 2) := by decide +kernel
theorem dX5_kindsSoNear_20 : decode cX5_kindsSoNear 20 = .ok (.iload 5, 2) := by decide +kernel
theorem dX5_kindsSoNear_22 : decode cX5_kindsSoNear 22 = .ok (.invokestatic 239, 3) := by decide +kernel
theorem dX5_kindsSoNear_25 : decode cX5_kindsSoNear 25 = .ok (.iload_n 0, 1) := by decide +kernel
theorem dX5_kindsSoNear_26 : decode cX5_kindsSoNear 26 = .ok (.if_icmp .ne 12, 3) := by decide +kernel
theorem dX5_kindsSoNear_29 : decode cX5_kindsSoNear 29 = .ok (.iload 6, 2) := by decide +kernel
theorem dX5_kindsSoNear_31 : decode cX5_kindsSoNear 31 = .ok (.iconst 1, 1) := by decide +kernel
theorem dX5_kindsSoNear_32 : decode cX5_kindsSoNear 32 = .ok (.iload 7, 2) := by decide +kernel
theorem dX5_kindsSoNear_34 : decode cX5_kindsSoNear 34 = .ok (.ishl, 1) := by decide +kernel
theorem dX5_kindsSoNear_35 : decode cX5_kindsSoNear 35 = .ok (.ior, 1) := by decide +kernel
theorem dX5_kindsSoNear_36 : decode cX5_kindsSoNear 36 = .ok (.istore 6, 2) := by decide +kernel
theorem dX5_kindsSoNear_38 : decode cX5_kindsSoNear 38 = .ok (.iinc 7 1, 3) := by decide +kernel
theorem dX5_kindsSoNear_41 : decode cX5_kindsSoNear 41 = .ok (.goto (-35), 3) := by decide +kernel
theorem dX5_kindsSoNear_44 : decode cX5_kindsSoNear 44 = .ok (.iload 6, 2) := by decide +kernel
theorem dX5_kindsSoNear_46 : decode cX5_kindsSoNear 46 = .ok (.ireturn, 1) := by decide +kernel
theorem dX5_near_0 : decode cX5_near 0 = .ok (.iconst 0, 1) := by decide +kernel
theorem dX5_near_1 : decode cX5_near 1 = .ok (.iload_n 1, 1) := by decide +kernel
theorem dX5_near_2 : decode cX5_near 2 = .ok (.iconst 3, 1) := by decide +kernel
theorem dX5_near_3 : decode cX5_near 3 = .ok (.iload_n 2, 1) := by decide +kernel
theorem dX5_near_4 : decode cX5_near 4 = .ok (.imul, 1) := by decide +kernel
theorem dX5_near_5 : decode cX5_near 5 = .ok (.iadd, 1) := by decide +kernel
theorem dX5_near_6 : decode cX5_near 6 = .ok (.iload_n 3, 1) := by decide +kernel
theorem dX5_near_7 : decode cX5_near 7 = .ok (.iconst 2, 1) := by decide +kernel
theorem dX5_near_8 : decode cX5_near 8 = .ok (.idiv, 1) := by decide +kernel
theorem dX5_near_9 : decode cX5_near 9 = .ok (.isub, 1) := by decide +kernel
theorem dX5_near_10 : decode cX5_near 10 = .ok (.invokestatic 245, 3) := by decide +kernel
theorem dX5_near_13 : decode cX5_near 13 = .ok (.istore 6, 2) := by decide +kernel
theorem dX5_near_15 : decode cX5_near 15 = .ok (.iconst 0, 1) := by decide +kernel
theorem dX5_near_16 : decode cX5_near 16 = .ok (.iload 6, 2) := by decide +kernel
theorem dX5_near_18 : decode cX5_near 18 = .ok (.iload_n 3, 1) := by decide +kernel
theorem dX5_near_19 : decode cX5_near 19 = .ok (.iconst 2, 1) := by decide +kernel
theorem dX5_near_20 : decode cX5_near 20 = .ok (.idiv, 1) := by decide +kernel
theorem dX5_near_21 : decode cX5_near 21 = .ok (.isub, 1) := by decide +kernel
theorem dX5_near_22 : decode cX5_near 22 = .ok (.invokestatic 245, 3) := by decide +kernel
theorem dX5_near_25 : decode cX5_near 25 = .ok (.istore 7, 2) := by decide +kernel
theorem dX5_near_27 : decode cX5_near 27 = .ok (.iload 6, 2) := by decide +kernel
theorem dX5_near_29 : decode cX5_near 29 = .ok (.iconst 3, 1) := by decide +kernel
theorem dX5_near_30 : decode cX5_near 30 = .ok (.iload 5, 2) := by decide +kernel
theorem dX5_near_32 : decode cX5_near 32 = .ok (.imul, 1) := by decide +kernel
theorem dX5_near_33 : decode cX5_near 33 = .ok (.iadd, 1) := by decide +kernel
theorem dX5_near_34 : decode cX5_near 34 = .ok (.istore 8, 2) := by decide +kernel
theorem dX5_near_36 : decode cX5_near 36 = .ok (.iload_n 0, 1) := by decide +kernel
theorem dX5_near_37 : decode cX5_near 37 = .ok (.tableswitch 59 1 5 #[35, 40, 43, 46, 54], 35) := by decide +kernel
theorem dX5_near_72 : decode cX5_near 72 = .ok (.iload 6, 2) := by decide +kernel
theorem dX5_near_74 : decode cX5_near 74 = .ok (.iconst 4, 1) := by decide +kernel
theorem dX5_near_75 : decode cX5_near 75 = .ok (.iadd, 1) := by decide +kernel
theorem dX5_near_76 : decode cX5_near 76 = .ok (.ireturn, 1) := by decide +kernel
theorem dX5_near_77 : decode cX5_near 77 = .ok (.iload 7, 2) := by decide +kernel
theorem dX5_near_79 : decode cX5_near 79 = .ok (.ireturn, 1) := by decide +kernel
theorem dX5_near_80 : decode cX5_near 80 = .ok (.iload 8, 2) := by decide +kernel
theorem dX5_near_82 : decode cX5_near 82 = .ok (.ireturn, 1) := by decide +kernel
theorem dX5_near_83 : decode cX5_near 83 = .ok (.iload 8, 2) := by decide +kernel
theorem dX5_near_85 : decode cX5_near 85 = .ok (.iconst 2, 1) := by decide +kernel
theorem dX5_near_86 : decode cX5_near 86 = .ok (.iload 4, 2) := by decide +kernel
theorem dX5_near_88 : decode cX5_near 88 = .ok (.imul, 1) := by decide +kernel
theorem dX5_near_89 : decode cX5_near 89 = .ok (.iadd, 1) := by decide +kernel
theorem dX5_near_90 : decode cX5_near 90 = .ok (.ireturn, 1) := by decide +kernel
theorem dX5_near_91 : decode cX5_near 91 = .ok (.iload 7, 2) := by decide +kernel
theorem dX5_near_93 : decode cX5_near 93 = .ok (.iconst 2, 1) := by decide +kernel
theorem dX5_near_94 : decode cX5_near 94 = .ok (.idiv, 1) := by decide +kernel
theorem dX5_near_95 : decode cX5_near 95 = .ok (.ireturn, 1) := by decide +kernel
theorem dX5_near_96 : decode cX5_near 96 = .ok (.iload 6, 2) := by decide +kernel
theorem dX5_near_98 : decode cX5_near 98 = .ok (.ireturn, 1) := by decide +kernel
set_option maxRecDepth 20000 in
theorem ggX6_init_X6_begins : GoodIn wsX6_init wsX6_begins := goodIn_r _ [18] (by decide +kernel) (by decide +kernel)
set_option maxRecDepth 20000 in
theorem gX6_init_X6_begins : GoodIn wsX6_init (va_wsS RX6 39 yX6_begins wsX6_begins) := goodIn_app (goodIn_of _ (by decide +kernel)) ggX6_init_X6_begins
theorem dX6_init_0 : decode cX6_init 0 = .ok (.aload_n 0, 1) := by decide +kernel
theorem dX6_init_1 : decode cX6_init 1 = .ok (.invokespecial 1, 3) := by decide +kernel
theorem dX6_init_4 : decode cX6_init 4 = .ok (.aload_n 0, 1) := by decide +kernel
theorem dX6_init_5 : decode cX6_init 5 = .ok (.sipush 255, 3) := by decide +kernel
theorem dX6_init_8 : decode cX6_init 8 = .ok (.newarray .int, 2) := by decide +kernel
theorem dX6_init_10 : decode cX6_init 10 = .ok (.putfield 7, 3) := by decide +kernel
theorem dX6_init_13 : decode cX6_init 13 = .ok (.aload_n 0, 1) := by decide +kernel
theorem dX6_init_14 : decode cX6_init 14 = .ok (.sipush 255, 3) := by decide +kernel
theorem dX6_init_17 : decode cX6_init 17 = .ok (.newarray .int, 2) := by decide +kernel
theorem dX6_init_19 : decode cX6_init 19 = .ok (.putfield 13, 3) := by decide +kernel
theorem dX6_init_22 : decode cX6_init 22 = .ok (.aload_n 0, 1) := by decide +kernel
theorem dX6_init_23 : decode cX6_init 23 = .ok (.bipush 35, 2) := by decide +kernel
theorem dX6_init_25 : decode cX6_init 25 = .ok (.newarray .int, 2) := by decide +kernel
theorem dX6_init_27 : decode cX6_init 27 = .ok (.putfield 16, 3) := by decide +kernel
theorem dX6_init_30 : decode cX6_init 30 = .ok (.aload_n 0, 1) := by decide +kernel
theorem dX6_init_31 : decode cX6_init 31 = .ok (.sipush 510, 3) := by decide +kernel
theorem dX6_init_34 : decode cX6_init 34 = .ok (.newarray .int, 2) := by decide +kernel
theorem dX6_init_36 : decode cX6_init 36 = .ok (.putfield 19, 3) := by decide +kernel
theorem dX6_init_39 : decode cX6_init 39 = .ok (.aload_n 0, 1) := by decide +kernel
theorem dX6_init_40 : decode cX6_init 40 = .ok (.iconst 2, 1) := by decide +kernel
theorem dX6_init_41 : decode cX6_init 41 = .ok (.newarray .boolean, 2) := by decide +kernel
theorem dX6_init_43 : decode cX6_init 43 = .ok (.putfield 22, 3) := by decide +kernel
theorem dX6_init_46 : decode cX6_init 46 = .ok (.aload_n 0, 1) := by decide +kernel
theorem dX6_init_47 : decode cX6_init 47 = .ok (.sipush 150, 3) := by decide +kernel
theorem dX6_init_50 : decode cX6_init 50 = .ok (.newarray .int, 2) := by decide +kernel
theorem dX6_init_52 : decode cX6_init 52 = .ok (.putfield 26, 3) := by decide +kernel
theorem dX6_init_55 : decode cX6_init 55 = .ok (.aload_n 0, 1) := by decide +kernel
theorem dX6_init_56 : decode cX6_init 56 = .ok (.lconst 1, 1) := by decide +kernel
theorem dX6_init_57 : decode cX6_init 57 = .ok (.putfield 29, 3) := by decide +kernel
theorem dX6_init_60 : decode cX6_init 60 = .ok (.aload_n 0, 1) := by decide +kernel
theorem dX6_init_61 : decode cX6_init 61 = .ok (.bipush 6, 2) := by decide +kernel
theorem dX6_init_63 : decode cX6_init 63 = .ok (.newarray .int, 2) := by decide +kernel
theorem dX6_init_65 : decode cX6_init 65 = .ok (.putfield 33, 3) := by decide +kernel
theorem dX6_init_68 : decode cX6_init 68 = .ok (.aload_n 0, 1) := by decide +kernel
theorem dX6_init_69 : decode cX6_init 69 = .ok (.bipush 6, 2) := by decide +kernel
theorem dX6_init_71 : decode cX6_init 71 = .ok (.newarray .int, 2) := by decide +kernel
theorem dX6_init_73 : decode cX6_init 73 = .ok (.putfield 36, 3) := by decide +kernel
theorem dX6_init_76 : decode cX6_init 76 = .ok (.aload_n 0, 1) := by decide +kernel
theorem dX6_init_77 : decode cX6_init 77 = .ok (.getfield 7, 3) := by decide +kernel
theorem dX6_init_80 : decode cX6_init 80 = .ok (.iconst 0, 1) := by decide +kernel
theorem dX6_init_81 : decode cX6_init 81 = .ok (.invokestatic 39, 3) := by decide +kernel
theorem dX6_init_84 : decode cX6_init 84 = .ok (.return_, 1) := by decide +kernel
theorem dX6_in_0 : decode cX6_in 0 = .ok (.lload_n 0, 1) := by decide +kernel
theorem dX6_in_1 : decode cX6_in 1 = .ok (.lload_n 2, 1) := by decide +kernel
theorem dX6_in_2 : decode cX6_in 2 = .ok (.lcmp, 1) := by decide +kernel
theorem dX6_in_3 : decode cX6_in 3 = .ok (.ifCond .lt 14, 3) := by decide +kernel
theorem dX6_in_6 : decode cX6_in 6 = .ok (.lload_n 0, 1) := by decide +kernel
theorem dX6_in_7 : decode cX6_in 7 = .ok (.lload 4, 2) := by decide +kernel
theorem dX6_in_9 : decode cX6_in 9 = .ok (.lcmp, 1) := by decide +kernel
theorem dX6_in_10 : decode cX6_in 10 = .ok (.ifCond .gt 7, 3) := by decide +kernel
theorem dX6_in_13 : decode cX6_in 13 = .ok (.iconst 1, 1) := by decide +kernel
theorem dX6_in_14 : decode cX6_in 14 = .ok (.goto 4, 3) := by decide +kernel
theorem dX6_in_17 : decode cX6_in 17 = .ok (.iconst 0, 1) := by decide +kernel
theorem dX6_in_18 : decode cX6_in 18 = .ok (.ireturn, 1) := by decide +kernel
theorem dX6_has_0 : decode cX6_has 0 = .ok (.iload_n 0, 1) := by decide +kernel
theorem dX6_has_1 : decode cX6_has 1 = .ok (.iload_n 1, 1) := by decide +kernel
theorem dX6_has_2 : decode cX6_has 2 = .ok (.ishr, 1) := by decide +kernel
theorem dX6_has_3 : decode cX6_has 3 = .ok (.iconst 1, 1) := by decide +kernel
theorem dX6_has_4 : decode cX6_has 4 = .ok (.iand, 1) := by decide +kernel
theorem dX6_has_5 : decode cX6_has 5 = .ok (.iconst 1, 1) := by decide +kernel
theorem dX6_has_6 : decode cX6_has 6 = .ok (.if_icmp .ne 7, 3) := by decide +kernel
theorem dX6_has_9 : decode cX6_has 9 = .ok (.iconst 1, 1) := by decide +kernel
theorem dX6_has_10 : decode cX6_has 10 = .ok (.goto 4, 3) := by decide +kernel
theorem dX6_has_13 : decode cX6_has 13 = .ok (.iconst 0, 1) := by decide +kernel
theorem dX6_has_14 : decode cX6_has 14 = .ok (.ireturn, 1) := by decide +kernel
theorem dX6_bits_0 : decode cX6_bits 0 = .ok (.iconst 0, 1) := by decide +kernel
theorem dX6_bits_1 : decode cX6_bits 1 = .ok (.istore_n 1, 1) := by decide +kernel
theorem dX6_bits_2 : decode cX6_bits 2 = .ok (.iload_n 0, 1) := by decide +kernel
theorem dX6_bits_3 : decode cX6_bits 3 = .ok (.istore_n 2, 1) := by decide +kernel
theorem dX6_bits_4 : decode cX6_bits 4 = .ok (.iload_n 2, 1) := by decide +kernel
theorem dX6_bits_5 : decode cX6_bits 5 = .ok (.ifCond .eq 15, 3) := by decide +kernel
theorem dX6_bits_8 : decode cX6_bits 8 = .ok (.iinc 1 1, 3) := by decide +kernel
theorem dX6_bits_11 : decode cX6_bits 11 = .ok (.iload_n 2, 1) := by decide +kernel
theorem dX6_bits_12 : decode cX6_bits 12 = .ok (.iload_n 2, 1) := by decide +kernel
theorem dX6_bits_13 : decode cX6_bits 13 = .ok (.iconst 1, 1) := by decide +kernel
theorem dX6_bits_14 : decode cX6_bits 14 = .ok (.isub, 1) := by decide +kernel
theorem dX6_bits_15 : decode cX6_bits 15 = .ok (.iand, 1) := by decide +kernel
theorem dX6_bits_16 : decode cX6_bits 16 = .ok (.istore_n 2, 1) := by decide +kernel
theorem dX6_bits_17 : decode cX6_bits 17 = .ok (.goto (-13), 3) := by decide +kernel
theorem dX6_bits_20 : decode cX6_bits 20 = .ok (.iload_n 1, 1) := by decide +kernel
theorem dX6_bits_21 : decode cX6_bits 21 = .ok (.ireturn, 1) := by decide +kernel
theorem dX6_copies_0 : decode cX6_copies 0 = .ok (.iconst 0, 1) := by decide +kernel
theorem dX6_copies_1 : decode cX6_copies 1 = .ok (.istore 5, 2) := by decide +kernel
theorem dX6_copies_3 : decode cX6_copies 3 = .ok (.iload 5, 2) := by decide +kernel
theorem dX6_copies_5 : decode cX6_copies 5 = .ok (.iload 4, 2) := by decide +kernel
theorem dX6_copies_7 : decode cX6_copies 7 = .ok (.if_icmp .ge 21, 3) := by decide +kernel
theorem dX6_copies_10 : decode cX6_copies 10 = .ok (.aload_n 2, 1) := by decide +kernel
theorem dX6_copies_11 : decode cX6_copies 11 = .ok (.iload_n 3, 1) := by decide +kernel
theorem dX6_copies_12 : decode cX6_copies 12 = .ok (.iload 5, 2) := by decide +kernel
theorem dX6_copies_14 : decode cX6_copies 14 = .ok (.iadd, 1) := by decide +kernel
theorem dX6_copies_15 : decode cX6_copies 15 = .ok (.aload_n 0, 1) := by decide +kernel
theorem dX6_copies_16 : decode cX6_copies 16 = .ok (.iload_n 1, 1) := by decide +kernel
theorem dX6_copies_17 : decode cX6_copies 17 = .ok (.iload 5, 2) := by decide +kernel
theorem dX6_copies_19 : decode cX6_copies 19 = .ok (.iadd, 1) := by decide +kernel
theorem dX6_copies_20 : decode cX6_copies 20 = .ok (.iaload, 1) := by decide +kernel
theorem dX6_copies_21 : decode cX6_copies 21 = .ok (.iastore, 1) := by decide +kernel
theorem dX6_copies_22 : decode cX6_copies 22 = .ok (.iinc 5 1, 3) := by decide +kernel
theorem dX6_copies_25 : decode cX6_copies 25 = .ok (.goto (-22), 3) := by decide +kernel
theorem dX6_copies_28 : decode cX6_copies 28 = .ok (.return_, 1) := by decide +kernel
theorem dX6_begins_0 : decode cX6_begins 0 = .ok (.iconst 0, 1) := by decide +kernel
theorem dX6_begins_1 : decode cX6_begins 1 = .ok (.istore_n 2, 1) := by decide +kernel
theorem dX6_begins_2 : decode cX6_begins 2 = .ok (.iload_n 2, 1) := by decide +kernel
theorem dX6_begins_3 : decode cX6_begins 3 = .ok (.sipush 255, 3) := by decide +kernel
theorem dX6_begins_6 : decode cX6_begins 6 = .ok (.if_icmp .ge 23, 3) := by decide +kernel
theorem dX6_begins_9 : decode cX6_begins 9 = .ok (.aload_n 0, 1) := by decide +kernel
theorem dX6_begins_10 : decode cX6_begins 10 = .ok (.iload_n 2, 1) := by decide +kernel
theorem dX6_begins_11 : decode cX6_begins 11 = .ok (.iload_n 2, 1) := by decide +kernel
theorem dX6_begins_12 : decode cX6_begins 12 = .ok (.bipush 6, 2) := by decide +kernel
theorem dX6_begins_14 : decode cX6_begins 14 = .ok (.if_icmp .ge 7, 3) := by decide +kernel
theorem dX6_begins_17 : decode cX6_begins 17 = .ok (.iconst (-1), 1) := by decide +kernel
theorem dX6_begins_18 : decode cX6_begins 18 = .ok (.goto 4, 3) := by decide +kernel
theorem dX6_begins_21 : decode cX6_begins 21 = .ok (.iconst 0, 1) := by decide +kernel
theorem dX6_begins_22 : decode cX6_begins 22 = .ok (.iastore, 1) := by decide +kernel
theorem dX6_begins_23 : decode cX6_begins 23 = .ok (.iinc 2 1, 3) := by decide +kernel
theorem dX6_begins_26 : decode cX6_begins 26 = .ok (.goto (-24), 3) := by decide +kernel
theorem dX6_begins_29 : decode cX6_begins 29 = .ok (.aload_n 0, 1) := by decide +kernel
theorem dX6_begins_30 : decode cX6_begins 30 = .ok (.bipush 20, 2) := by decide +kernel
theorem dX6_begins_32 : decode cX6_begins 32 = .ok (.iload_n 1, 1) := by decide +kernel
theorem dX6_begins_33 : decode cX6_begins 33 = .ok (.iastore, 1) := by decide +kernel
theorem dX6_begins_34 : decode cX6_begins 34 = .ok (.return_, 1) := by decide +kernel
theorem dX6_bad_0 : decode cX6_bad 0 = .ok (.aload_n 0, 1) := by decide +kernel
theorem dX6_bad_1 : decode cX6_bad 1 = .ok (.dup, 1) := by decide +kernel
theorem dX6_bad_2 : decode cX6_bad 2 = .ok (.getfield 43, 3) := by decide +kernel
theorem dX6_bad_5 : decode cX6_bad 5 = .ok (.iconst 1, 1) := by decide +kernel
theorem dX6_bad_6 : decode cX6_bad 6 = .ok (.iadd, 1) := by decide +kernel
theorem dX6_bad_7 : decode cX6_bad 7 = .ok (.putfield 43, 3) := by decide +kernel
theorem dX6_bad_10 : decode cX6_bad 10 = .ok (.bipush (-2), 2) := by decide +kernel
theorem dX6_bad_12 : decode cX6_bad 12 = .ok (.ireturn, 1) := by decide +kernel
theorem dX6_worse_0 : decode cX6_worse 0 = .ok (.aload_n 0, 1) := by decide +kernel
theorem dX6_worse_1 : decode cX6_worse 1 = .ok (.dup, 1) := by decide +kernel
theorem dX6_worse_2 : decode cX6_worse 2 = .ok (.getfield 43, 3) := by decide +kernel
theorem dX6_worse_5 : decode cX6_worse 5 = .ok (.iconst 1, 1) := by decide +kernel
theorem dX6_worse_6 : decode cX6_worse 6 = .ok (.iadd, 1) := by decide +kernel
theorem dX6_worse_7 : decode cX6_worse 7 = .ok (.putfield 43, 3) := by decide +kernel
theorem dX6_worse_10 : decode cX6_worse 10 = .ok (.bipush (-10), 2) := by decide +kernel
theorem dX6_worse_12 : decode cX6_worse 12 = .ok (.ireturn, 1) := by decide +kernel
theorem dX6_no_0 : decode cX6_no 0 = .ok (.aload_n 0, 1) := by decide +kernel
theorem dX6_no_1 : decode cX6_no 1 = .ok (.dup, 1) := by decide +kernel
theorem dX6_no_2 : decode cX6_no 2 = .ok (.getfield 47, 3) := by decide +kernel
theorem dX6_no_5 : decode cX6_no 5 = .ok (.iconst 1, 1) := by decide +kernel
theorem dX6_no_6 : decode cX6_no 6 = .ok (.iadd, 1) := by decide +kernel
theorem dX6_no_7 : decode cX6_no 7 = .ok (.putfield 47, 3) := by decide +kernel
theorem dX6_no_10 : decode cX6_no 10 = .ok (.bipush (-3), 2) := by decide +kernel
theorem dX6_no_12 : decode cX6_no 12 = .ok (.ireturn, 1) := by decide +kernel
theorem dX6_full_0 : decode cX6_full 0 = .ok (.aload_n 0, 1) := by decide +kernel
theorem dX6_full_1 : decode cX6_full 1 = .ok (.dup, 1) := by decide +kernel
theorem dX6_full_2 : decode cX6_full 2 = .ok (.getfield 50, 3) := by decide +kernel
theorem dX6_full_5 : decode cX6_full 5 = .ok (.iconst 1, 1) := by decide +kernel
theorem dX6_full_6 : decode cX6_full 6 = .ok (.iadd, 1) := by decide +kernel
theorem dX6_full_7 : decode cX6_full 7 = .ok (.putfield 50, 3) := by decide +kernel
theorem dX6_full_10 : decode cX6_full 10 = .ok (.bipush (-4), 2) := by decide +kernel
theorem dX6_full_12 : decode cX6_full 12 = .ok (.ireturn, 1) := by decide +kernel
set_option maxRecDepth 20000 in
theorem ggX6_isSeat_X6_in : GoodIn wsX6_isSeat wsX6_in := goodIn_r _ [5] (by decide +kernel) (by decide +kernel)
set_option maxRecDepth 20000 in
theorem gX6_isSeat_X6_in : GoodIn wsX6_isSeat (va_wsS RX6 55 yX6_in wsX6_in) := goodIn_app (goodIn_of _ (by decide +kernel)) ggX6_isSeat_X6_in
theorem dX6_isSeat_0 : decode cX6_isSeat 0 = .ok (.iload_n 0, 1) := by decide +kernel
theorem dX6_isSeat_1 : decode cX6_isSeat 1 = .ok (.i2l, 1) := by decide +kernel
theorem dX6_isSeat_2 : decode cX6_isSeat 2 = .ok (.lconst 0, 1) := by decide +kernel
theorem dX6_isSeat_3 : decode cX6_isSeat 3 = .ok (.ldc2_w 53, 3) := by decide +kernel
theorem dX6_isSeat_6 : decode cX6_isSeat 6 = .ok (.invokestatic 55, 3) := by decide +kernel
theorem dX6_isSeat_9 : decode cX6_isSeat 9 = .ok (.ireturn, 1) := by decide +kernel
set_option maxRecDepth 20000 in
theorem ggX6_isChild_X6_in : GoodIn wsX6_isChild wsX6_in := goodIn_r _ [5] (by decide +kernel) (by decide +kernel)
set_option maxRecDepth 20000 in
theorem gX6_isChild_X6_in : GoodIn wsX6_isChild (va_wsS RX6 55 yX6_in wsX6_in) := goodIn_app (goodIn_of _ (by decide +kernel)) ggX6_isChild_X6_in
theorem dX6_isChild_0 : decode cX6_isChild 0 = .ok (.iload_n 1, 1) := by decide +kernel
theorem dX6_isChild_1 : decode cX6_isChild 1 = .ok (.i2l, 1) := by decide +kernel
theorem dX6_isChild_2 : decode cX6_isChild 2 = .ok (.lconst 0, 1) := by decide +kernel
theorem dX6_isChild_3 : decode cX6_isChild 3 = .ok (.aload_n 0, 1) := by decide +kernel
theorem dX6_isChild_4 : decode cX6_isChild 4 = .ok (.getfield 7, 3) := by decide +kernel
theorem dX6_isChild_7 : decode cX6_isChild 7 = .ok (.bipush 22, 2) := by decide +kernel
theorem dX6_isChild_9 : decode cX6_isChild 9 = .ok (.iaload, 1) := by decide +kernel
theorem dX6_isChild_10 : decode cX6_isChild 10 = .ok (.iconst 1, 1) := by decide +kernel
theorem dX6_isChild_11 : decode cX6_isChild 11 = .ok (.isub, 1) := by decide +kernel
theorem dX6_isChild_12 : decode cX6_isChild 12 = .ok (.i2l, 1) := by decide +kernel
theorem dX6_isChild_13 : decode cX6_isChild 13 = .ok (.invokestatic 55, 3) := by decide +kernel
theorem dX6_isChild_16 : decode cX6_isChild 16 = .ok (.ireturn, 1) := by decide +kernel
theorem dX6_whoIs_0 : decode cX6_whoIs 0 = .ok (.iconst 0, 1) := by decide +kernel
theorem dX6_whoIs_1 : decode cX6_whoIs 1 = .ok (.istore_n 2, 1) := by decide +kernel
theorem dX6_whoIs_2 : decode cX6_whoIs 2 = .ok (.iload_n 2, 1) := by decide +kernel
theorem dX6_whoIs_3 : decode cX6_whoIs 3 = .ok (.aload_n 0, 1) := by decide +kernel
theorem dX6_whoIs_4 : decode cX6_whoIs 4 = .ok (.bipush 22, 2) := by decide +kernel
theorem dX6_whoIs_6 : decode cX6_whoIs 6 = .ok (.iaload, 1) := by decide +kernel
theorem dX6_whoIs_7 : decode cX6_whoIs 7 = .ok (.if_icmp .ge 20, 3) := by decide +kernel
theorem dX6_whoIs_10 : decode cX6_whoIs 10 = .ok (.aload_n 0, 1) := by decide +kernel
theorem dX6_whoIs_11 : decode cX6_whoIs 11 = .ok (.iconst 0, 1) := by decide +kernel
theorem dX6_whoIs_12 : decode cX6_whoIs 12 = .ok (.iload_n 2, 1) := by decide +kernel
theorem dX6_whoIs_13 : decode cX6_whoIs 13 = .ok (.iadd, 1) := by decide +kernel
theorem dX6_whoIs_14 : decode cX6_whoIs 14 = .ok (.iaload, 1) := by decide +kernel
theorem dX6_whoIs_15 : decode cX6_whoIs 15 = .ok (.iload_n 1, 1) := by decide +kernel
theorem dX6_whoIs_16 : decode cX6_whoIs 16 = .ok (.if_icmp .ne 5, 3) := by decide +kernel
theorem dX6_whoIs_19 : decode cX6_whoIs 19 = .ok (.iload_n 2, 1) := by decide +kernel
theorem dX6_whoIs_20 : decode cX6_whoIs 20 = .ok (.ireturn, 1) := by decide +kernel
theorem dX6_whoIs_21 : decode cX6_whoIs 21 = .ok (.iinc 2 1, 3) := by decide +kernel
theorem dX6_whoIs_24 : decode cX6_whoIs 24 = .ok (.goto (-22), 3) := by decide +kernel
theorem dX6_whoIs_27 : decode cX6_whoIs 27 = .ok (.iconst (-1), 1) := by decide +kernel
theorem dX6_whoIs_28 : decode cX6_whoIs 28 = .ok (.ireturn, 1) := by decide +kernel
set_option maxRecDepth 20000 in
theorem ggX6_table_X6_isSeat : GoodIn wsX6_table wsX6_isSeat := goodIn_r _ [5, 6, 7, 8, 4, 9] (by decide +kernel) (by decide +kernel)
set_option maxRecDepth 20000 in
theorem gX6_table_X6_isSeat : GoodIn wsX6_table (va_wsS RX6 59 yX6_isSeat wsX6_isSeat) := goodIn_app (goodIn_of _ (by decide +kernel)) ggX6_table_X6_isSeat
set_option maxRecDepth 20000 in
theorem ggX6_table_X6_bad : GoodIn wsX6_table wsX6_bad := goodIn_r _ [13, 14, 18, 19, 20, 21, 22, 23, 24, 25, 26, 27, 28, 29, 30, 31, 32, 33, 34, 35, 36] (by decide +kernel) (by decide +kernel)
set_option maxRecDepth 20000 in
theorem gX6_table_X6_bad : GoodIn wsX6_table (wsV RX6 63 RX6 yX6_bad wsX6_bad) := goodIn_app (goodIn_of _ (by decide +kernel)) ggX6_table_X6_bad
set_option maxRecDepth 20000 in
theorem ggX6_table_X6_begins : GoodIn wsX6_table wsX6_begins := goodIn_r _ [17] (by decide +kernel) (by decide +kernel)
set_option maxRecDepth 20000 in
theorem gX6_table_X6_begins : GoodIn wsX6_table (va_wsS RX6 39 yX6_begins wsX6_begins) := goodIn_app (goodIn_of _ (by decide +kernel)) ggX6_table_X6_begins
theorem dX6_table_0 : decode cX6_table 0 = .ok (.iload_n 1, 1) := by decide +kernel
theorem dX6_table_1 : decode cX6_table 1 = .ok (.invokestatic 59, 3) := by decide +kernel
theorem dX6_table_4 : decode cX6_table 4 = .ok (.ifCond .ne 8, 3) := by decide +kernel
theorem dX6_table_7 : decode cX6_table 7 = .ok (.aload_n 0, 1) := by decide +kernel
theorem dX6_table_8 : decode cX6_table 8 = .ok (.invokevirtual 63, 3) := by decide +kernel
theorem dX6_table_11 : decode cX6_table 11 = .ok (.ireturn, 1) := by decide +kernel
theorem dX6_table_12 : decode cX6_table 12 = .ok (.aload_n 0, 1) := by decide +kernel
theorem dX6_table_13 : decode cX6_table 13 = .ok (.getfield 7, 3) := by decide +kernel
theorem dX6_table_16 : decode cX6_table 16 = .ok (.bipush 22, 2) := by decide +kernel
theorem dX6_table_18 : decode cX6_table 18 = .ok (.iaload, 1) := by decide +kernel
theorem dX6_table_19 : decode cX6_table 19 = .ok (.istore_n 2, 1) := by decide +kernel
theorem dX6_table_20 : decode cX6_table 20 = .ok (.aload_n 0, 1) := by decide +kernel
theorem dX6_table_21 : decode cX6_table 21 = .ok (.getfield 7, 3) := by decide +kernel
theorem dX6_table_24 : decode cX6_table 24 = .ok (.iload_n 1, 1) := by decide +kernel
theorem dX6_table_25 : decode cX6_table 25 = .ok (.invokestatic 39, 3) := by decide +kernel
theorem dX6_table_28 : decode cX6_table 28 = .ok (.iload_n 2, 1) := by decide +kernel
theorem dX6_table_29 : decode cX6_table 29 = .ok (.ireturn, 1) := by decide +kernel
theorem dX6_comes_0 : decode cX6_comes 0 = .ok (.aload_n 0, 1) := by decide +kernel
theorem dX6_comes_1 : decode cX6_comes 1 = .ok (.bipush 22, 2) := by decide +kernel
theorem dX6_comes_3 : decode cX6_comes 3 = .ok (.iaload, 1) := by decide +kernel
theorem dX6_comes_4 : decode cX6_comes 4 = .ok (.istore 5, 2) := by decide +kernel
theorem dX6_comes_6 : decode cX6_comes 6 = .ok (.aload_n 0, 1) := by decide +kernel
theorem dX6_comes_7 : decode cX6_comes 7 = .ok (.bipush 23, 2) := by decide +kernel
theorem dX6_comes_9 : decode cX6_comes 9 = .ok (.iload 5, 2) := by decide +kernel
theorem dX6_comes_11 : decode cX6_comes 11 = .ok (.iadd, 1) := by decide +kernel
theorem dX6_comes_12 : decode cX6_comes 12 = .ok (.iload_n 1, 1) := by decide +kernel
theorem dX6_comes_13 : decode cX6_comes 13 = .ok (.iastore, 1) := by decide +kernel
theorem dX6_comes_14 : decode cX6_comes 14 = .ok (.aload_n 0, 1) := by decide +kernel
theorem dX6_comes_15 : decode cX6_comes 15 = .ok (.iconst 0, 1) := by decide +kernel
theorem dX6_comes_16 : decode cX6_comes 16 = .ok (.iload 5, 2) := by decide +kernel
theorem dX6_comes_18 : decode cX6_comes 18 = .ok (.iadd, 1) := by decide +kernel
theorem dX6_comes_19 : decode cX6_comes 19 = .ok (.iload_n 2, 1) := by decide +kernel
theorem dX6_comes_20 : decode cX6_comes 20 = .ok (.iastore, 1) := by decide +kernel
theorem dX6_comes_21 : decode cX6_comes 21 = .ok (.aload_n 0, 1) := by decide +kernel
theorem dX6_comes_22 : decode cX6_comes 22 = .ok (.bipush 29, 2) := by decide +kernel
theorem dX6_comes_24 : decode cX6_comes 24 = .ok (.iload 5, 2) := by decide +kernel
theorem dX6_comes_26 : decode cX6_comes 26 = .ok (.iadd, 1) := by decide +kernel
theorem dX6_comes_27 : decode cX6_comes 27 = .ok (.iload_n 3, 1) := by decide +kernel
theorem dX6_comes_28 : decode cX6_comes 28 = .ok (.iastore, 1) := by decide +kernel
theorem dX6_comes_29 : decode cX6_comes 29 = .ok (.aload_n 0, 1) := by decide +kernel
theorem dX6_comes_30 : decode cX6_comes 30 = .ok (.bipush 6, 2) := by decide +kernel
theorem dX6_comes_32 : decode cX6_comes 32 = .ok (.iload 5, 2) := by decide +kernel
theorem dX6_comes_34 : decode cX6_comes 34 = .ok (.iadd, 1) := by decide +kernel
theorem dX6_comes_35 : decode cX6_comes 35 = .ok (.iload 4, 2) := by decide +kernel
theorem dX6_comes_37 : decode cX6_comes 37 = .ok (.iastore, 1) := by decide +kernel
theorem dX6_comes_38 : decode cX6_comes 38 = .ok (.aload_n 0, 1) := by decide +kernel
theorem dX6_comes_39 : decode cX6_comes 39 = .ok (.bipush 22, 2) := by decide +kernel
theorem dX6_comes_41 : decode cX6_comes 41 = .ok (.dup2, 1) := by decide +kernel
theorem dX6_comes_42 : decode cX6_comes 42 = .ok (.iaload, 1) := by decide +kernel
theorem dX6_comes_43 : decode cX6_comes 43 = .ok (.iconst 1, 1) := by decide +kernel
theorem dX6_comes_44 : decode cX6_comes 44 = .ok (.iadd, 1) := by decide +kernel
theorem dX6_comes_45 : decode cX6_comes 45 = .ok (.iastore, 1) := by decide +kernel
theorem dX6_comes_46 : decode cX6_comes 46 = .ok (.return_, 1) := by decide +kernel
set_option maxRecDepth 20000 in
theorem ggX6_child_X6_in : GoodIn wsX6_child wsX6_in := goodIn_r _ [8] (by decide +kernel) (by decide +kernel)
set_option maxRecDepth 20000 in
theorem gX6_child_X6_in : GoodIn wsX6_child (va_wsS RX6 55 yX6_in wsX6_in) := goodIn_app (goodIn_of _ (by decide +kernel)) ggX6_child_X6_in
set_option maxRecDepth 20000 in
theorem ggX6_child_X6_isSeat : GoodIn wsX6_child wsX6_isSeat := goodIn_r _ [11, 12, 5, 6, 7, 8] (by decide +kernel) (by decide +kernel)
set_option maxRecDepth 20000 in
theorem gX6_child_X6_isSeat : GoodIn wsX6_child (va_wsS RX6 59 yX6_isSeat wsX6_isSeat) := goodIn_app (goodIn_of _ (by decide +kernel)) ggX6_child_X6_isSeat
set_option maxRecDepth 20000 in
theorem ggX6_child_X6_bad : GoodIn wsX6_child wsX6_bad := goodIn_r _ [16, 17, 34, 35, 36, 37, 38, 39, 40, 41, 42, 43, 44, 45, 46, 47, 48, 49, 50, 51, 52] (by decide +kernel) (by decide +kernel)
set_option maxRecDepth 20000 in
theorem gX6_child_X6_bad : GoodIn wsX6_child (wsV RX6 63 RX6 yX6_bad wsX6_bad) := goodIn_app (goodIn_of _ (by decide +kernel)) ggX6_child_X6_bad
set_option maxRecDepth 20000 in
theorem ggX6_child_X6_whoIs : GoodIn wsX6_child wsX6_whoIs := goodIn_r _ [20] (by decide +kernel) (by decide +kernel)
set_option maxRecDepth 20000 in
theorem gX6_child_X6_whoIs : GoodIn wsX6_child (va_wsS RX6 73 yX6_whoIs wsX6_whoIs) := goodIn_app (goodIn_of _ (by decide +kernel)) ggX6_child_X6_whoIs
set_option maxRecDepth 20000 in
theorem ggX6_child_X6_no : GoodIn wsX6_child wsX6_no := goodIn_r _ [24, 25, 34, 35, 36, 37, 38, 39, 40, 41, 42, 43, 44, 45, 46, 47, 48, 49, 50, 51, 52] (by decide +kernel) (by decide +kernel)
set_option maxRecDepth 20000 in
theorem gX6_child_X6_no : GoodIn wsX6_child (wsV RX6 77 RX6 yX6_no wsX6_no) := goodIn_app (goodIn_of _ (by decide +kernel)) ggX6_child_X6_no
set_option maxRecDepth 20000 in
theorem ggX6_child_X6_full : GoodIn wsX6_child wsX6_full := goodIn_r _ [29, 30, 34, 35, 36, 37, 38, 39, 40, 41, 42, 43, 44, 45, 46, 47, 48, 49, 50, 51, 52] (by decide +kernel) (by decide +kernel)
set_option maxRecDepth 20000 in
theorem gX6_child_X6_full : GoodIn wsX6_child (wsV RX6 80 RX6 yX6_full wsX6_full) := goodIn_app (goodIn_of _ (by decide +kernel)) ggX6_child_X6_full
set_option maxRecDepth 20000 in
theorem ggX6_child_X6_comes : GoodIn wsX6_child wsX6_comes := goodIn_r _ [33] (by decide +kernel) (by decide +kernel)
set_option maxRecDepth 20000 in
theorem gX6_child_X6_comes : GoodIn wsX6_child (va_wsS RX6 83 yX6_comes wsX6_comes) := goodIn_app (goodIn_of _ (by decide +kernel)) ggX6_child_X6_comes
theorem dX6_child_0 : decode cX6_child 0 = .ok (.iload_n 1, 1) := by decide +kernel
theorem dX6_child_1 : decode cX6_child 1 = .ok (.i2l, 1) := by decide +kernel
theorem dX6_child_2 : decode cX6_child 2 = .ok (.lconst 0, 1) := by decide +kernel
theorem dX6_child_3 : decode cX6_child 3 = .ok (.ldc2_w 67, 3) := by decide +kernel
theorem dX6_child_6 : decode cX6_child 6 = .ok (.invokestatic 55, 3) := by decide +kernel
theorem dX6_child_9 : decode cX6_child 9 = .ok (.ifCond .eq 35, 3) := by decide +kernel
theorem dX6_child_12 : decode cX6_child 12 = .ok (.iload_n 2, 1) := by decide +kernel
theorem dX6_child_13 : decode cX6_child 13 = .ok (.invokestatic 59, 3) := by decide +kernel
theorem dX6_child_16 : decode cX6_child 16 = .ok (.ifCond .eq 28, 3) := by decide +kernel
theorem dX6_child_19 : decode cX6_child 19 = .ok (.iload_n 3, 1) := by decide +kernel
theorem dX6_child_20 : decode cX6_child 20 = .ok (.i2l, 1) := by decide +kernel
theorem dX6_child_21 : decode cX6_child 21 = .ok (.lconst 0, 1) := by decide +kernel
theorem dX6_child_22 : decode cX6_child 22 = .ok (.ldc2_w 69, 3) := by decide +kernel
theorem dX6_child_25 : decode cX6_child 25 = .ok (.invokestatic 55, 3) := by decide +kernel
theorem dX6_child_28 : decode cX6_child 28 = .ok (.ifCond .eq 16, 3) := by decide +kernel
theorem dX6_child_31 : decode cX6_child 31 = .ok (.iload 4, 2) := by decide +kernel
theorem dX6_child_33 : decode cX6_child 33 = .ok (.i2l, 1) := by decide +kernel
theorem dX6_child_34 : decode cX6_child 34 = .ok (.lconst 0, 1) := by decide +kernel
theorem dX6_child_35 : decode cX6_child 35 = .ok (.ldc2_w 71, 3) := by decide +kernel
theorem dX6_child_38 : decode cX6_child 38 = .ok (.invokestatic 55, 3) := by decide +kernel
theorem dX6_child_41 : decode cX6_child 41 = .ok (.ifCond .ne 8, 3) := by decide +kernel
theorem dX6_child_44 : decode cX6_child 44 = .ok (.aload_n 0, 1) := by decide +kernel
theorem dX6_child_45 : decode cX6_child 45 = .ok (.invokevirtual 63, 3) := by decide +kernel
theorem dX6_child_48 : decode cX6_child 48 = .ok (.ireturn, 1) := by decide +kernel
theorem dX6_child_49 : decode cX6_child 49 = .ok (.aload_n 0, 1) := by decide +kernel
theorem dX6_child_50 : decode cX6_child 50 = .ok (.getfield 7, 3) := by decide +kernel
theorem dX6_child_53 : decode cX6_child 53 = .ok (.iload_n 2, 1) := by decide +kernel
theorem dX6_child_54 : decode cX6_child 54 = .ok (.invokestatic 73, 3) := by decide +kernel
theorem dX6_child_57 : decode cX6_child 57 = .ok (.iconst (-1), 1) := by decide +kernel
theorem dX6_child_58 : decode cX6_child 58 = .ok (.if_icmp .eq 8, 3) := by decide +kernel
theorem dX6_child_61 : decode cX6_child 61 = .ok (.aload_n 0, 1) := by decide +kernel
theorem dX6_child_62 : decode cX6_child 62 = .ok (.invokevirtual 77, 3) := by decide +kernel
theorem dX6_child_65 : decode cX6_child 65 = .ok (.ireturn, 1) := by decide +kernel
theorem dX6_child_66 : decode cX6_child 66 = .ok (.aload_n 0, 1) := by decide +kernel
theorem dX6_child_67 : decode cX6_child 67 = .ok (.getfield 7, 3) := by decide +kernel
theorem dX6_child_70 : decode cX6_child 70 = .ok (.bipush 22, 2) := by decide +kernel
theorem dX6_child_72 : decode cX6_child 72 = .ok (.iaload, 1) := by decide +kernel
theorem dX6_child_73 : decode cX6_child 73 = .ok (.bipush 6, 2) := by decide +kernel
theorem dX6_child_75 : decode cX6_child 75 = .ok (.if_icmp .ne 8, 3) := by decide +kernel
theorem dX6_child_78 : decode cX6_child 78 = .ok (.aload_n 0, 1) := by decide +kernel
theorem dX6_child_79 : decode cX6_child 79 = .ok (.invokevirtual 80, 3) := by decide +kernel
theorem dX6_child_82 : decode cX6_child 82 = .ok (.ireturn, 1) := by decide +kernel
theorem dX6_child_83 : decode cX6_child 83 = .ok (.aload_n 0, 1) := by decide +kernel
theorem dX6_child_84 : decode cX6_child 84 = .ok (.getfield 7, 3) := by decide +kernel
theorem dX6_child_87 : decode cX6_child 87 = .ok (.iload_n 1, 1) := by decide +kernel
theorem dX6_child_88 : decode cX6_child 88 = .ok (.iload_n 2, 1) := by decide +kernel
theorem dX6_child_89 : decode cX6_child 89 = .ok (.iload_n 3, 1) := by decide +kernel
theorem dX6_child_90 : decode cX6_child 90 = .ok (.iload 4, 2) := by decide +kernel
theorem dX6_child_92 : decode cX6_child 92 = .ok (.invokestatic 83, 3) := by decide +kernel
theorem dX6_child_95 : decode cX6_child 95 = .ok (.aload_n 0, 1) := by decide +kernel
theorem dX6_child_96 : decode cX6_child 96 = .ok (.getfield 7, 3) := by decide +kernel
theorem dX6_child_99 : decode cX6_child 99 = .ok (.bipush 78, 2) := by decide +kernel
theorem dX6_child_101 : decode cX6_child 101 = .ok (.iconst 0, 1) := by decide +kernel
theorem dX6_child_102 : decode cX6_child 102 = .ok (.iastore, 1) := by decide +kernel
theorem dX6_child_103 : decode cX6_child 103 = .ok (.aload_n 0, 1) := by decide +kernel
theorem dX6_child_104 : decode cX6_child 104 = .ok (.getfield 7, 3) := by decide +kernel
theorem dX6_child_107 : decode cX6_child 107 = .ok (.bipush 22, 2) := by decide +kernel
theorem dX6_child_109 : decode cX6_child 109 = .ok (.iaload, 1) := by decide +kernel
theorem dX6_child_110 : decode cX6_child 110 = .ok (.iconst 1, 1) := by decide +kernel
theorem dX6_child_111 : decode cX6_child 111 = .ok (.isub, 1) := by decide +kernel
theorem dX6_child_112 : decode cX6_child 112 = .ok (.ireturn, 1) := by decide +kernel
set_option maxRecDepth 20000 in
theorem ggX6_type_X6_in : GoodIn wsX6_type wsX6_in := goodIn_r _ [7] (by decide +kernel) (by decide +kernel)
set_option maxRecDepth 20000 in
theorem gX6_type_X6_in : GoodIn wsX6_type (va_wsS RX6 55 yX6_in wsX6_in) := goodIn_app (goodIn_of _ (by decide +kernel)) ggX6_type_X6_in
set_option maxRecDepth 20000 in
theorem ggX6_type_X6_bad : GoodIn wsX6_type wsX6_bad := goodIn_r _ [11, 12, 18, 19, 20, 21, 22, 23, 24, 25, 26, 27, 28, 29, 30, 31, 32, 33, 34, 35, 36] (by decide +kernel) (by decide +kernel)
set_option maxRecDepth 20000 in
theorem gX6_type_X6_bad : GoodIn wsX6_type (wsV RX6 63 RX6 yX6_bad wsX6_bad) := goodIn_app (goodIn_of _ (by decide +kernel)) ggX6_type_X6_bad
set_option maxRecDepth 20000 in
theorem ggX6_type_X6_full : GoodIn wsX6_type wsX6_full := goodIn_r _ [16, 17, 18, 19, 20, 21, 22, 23, 24, 25, 26, 27, 28, 29, 30, 31, 32, 33, 34, 35, 36] (by decide +kernel) (by decide +kernel)
set_option maxRecDepth 20000 in
theorem gX6_type_X6_full : GoodIn wsX6_type (wsV RX6 80 RX6 yX6_full wsX6_full) := goodIn_app (goodIn_of _ (by decide +kernel)) ggX6_type_X6_full
theorem dX6_type_0 : decode cX6_type 0 = .ok (.iload_n 1, 1) := by decide +kernel
theorem dX6_type_1 : decode cX6_type 1 = .ok (.i2l, 1) := by decide +kernel
theorem dX6_type_2 : decode cX6_type 2 = .ok (.lconst 0, 1) := by decide +kernel
theorem dX6_type_3 : decode cX6_type 3 = .ok (.ldc2_w 87, 3) := by decide +kernel
theorem dX6_type_6 : decode cX6_type 6 = .ok (.invokestatic 55, 3) := by decide +kernel
theorem dX6_type_9 : decode cX6_type 9 = .ok (.ifCond .ne 8, 3) := by decide +kernel
theorem dX6_type_12 : decode cX6_type 12 = .ok (.aload_n 0, 1) := by decide +kernel
theorem dX6_type_13 : decode cX6_type 13 = .ok (.invokevirtual 63, 3) := by decide +kernel
theorem dX6_type_16 : decode cX6_type 16 = .ok (.ireturn, 1) := by decide +kernel
theorem dX6_type_17 : decode cX6_type 17 = .ok (.aload_n 0, 1) := by decide +kernel
theorem dX6_type_18 : decode cX6_type 18 = .ok (.getfield 89, 3) := by decide +kernel
theorem dX6_type_21 : decode cX6_type 21 = .ok (.sipush 150, 3) := by decide +kernel
theorem dX6_type_24 : decode cX6_type 24 = .ok (.if_icmp .ne 8, 3) := by decide +kernel
theorem dX6_type_27 : decode cX6_type 27 = .ok (.aload_n 0, 1) := by decide +kernel
theorem dX6_type_28 : decode cX6_type 28 = .ok (.invokevirtual 80, 3) := by decide +kernel
theorem dX6_type_31 : decode cX6_type 31 = .ok (.ireturn, 1) := by decide +kernel
theorem dX6_type_32 : decode cX6_type 32 = .ok (.aload_n 0, 1) := by decide +kernel
theorem dX6_type_33 : decode cX6_type 33 = .ok (.getfield 26, 3) := by decide +kernel
theorem dX6_type_36 : decode cX6_type 36 = .ok (.aload_n 0, 1) := by decide +kernel
theorem dX6_type_37 : decode cX6_type 37 = .ok (.getfield 89, 3) := by decide +kernel
theorem dX6_type_40 : decode cX6_type 40 = .ok (.iload_n 1, 1) := by decide +kernel
theorem dX6_type_41 : decode cX6_type 41 = .ok (.iastore, 1) := by decide +kernel
theorem dX6_type_42 : decode cX6_type 42 = .ok (.aload_n 0, 1) := by decide +kernel
theorem dX6_type_43 : decode cX6_type 43 = .ok (.dup, 1) := by decide +kernel
theorem dX6_type_44 : decode cX6_type 44 = .ok (.getfield 89, 3) := by decide +kernel
theorem dX6_type_47 : decode cX6_type 47 = .ok (.iconst 1, 1) := by decide +kernel
theorem dX6_type_48 : decode cX6_type 48 = .ok (.iadd, 1) := by decide +kernel
theorem dX6_type_49 : decode cX6_type 49 = .ok (.putfield 89, 3) := by decide +kernel
theorem dX6_type_52 : decode cX6_type 52 = .ok (.aload_n 0, 1) := by decide +kernel
theorem dX6_type_53 : decode cX6_type 53 = .ok (.getfield 89, 3) := by decide +kernel
theorem dX6_type_56 : decode cX6_type 56 = .ok (.ireturn, 1) := by decide +kernel
theorem dX6_clear_0 : decode cX6_clear 0 = .ok (.aload_n 0, 1) := by decide +kernel
theorem dX6_clear_1 : decode cX6_clear 1 = .ok (.getfield 89, 3) := by decide +kernel
theorem dX6_clear_4 : decode cX6_clear 4 = .ok (.istore_n 1, 1) := by decide +kernel
theorem dX6_clear_5 : decode cX6_clear 5 = .ok (.aload_n 0, 1) := by decide +kernel
theorem dX6_clear_6 : decode cX6_clear 6 = .ok (.iconst 0, 1) := by decide +kernel
theorem dX6_clear_7 : decode cX6_clear 7 = .ok (.putfield 89, 3) := by decide +kernel
theorem dX6_clear_10 : decode cX6_clear 10 = .ok (.iload_n 1, 1) := by decide +kernel
theorem dX6_clear_11 : decode cX6_clear 11 = .ok (.ireturn, 1) := by decide +kernel
theorem dX6_here_0 : decode cX6_here 0 = .ok (.aload_n 0, 1) := by decide +kernel
theorem dX6_here_1 : decode cX6_here 1 = .ok (.getfield 92, 3) := by decide +kernel
theorem dX6_here_4 : decode cX6_here 4 = .ok (.aload_n 0, 1) := by decide +kernel
theorem dX6_here_5 : decode cX6_here 5 = .ok (.getfield 89, 3) := by decide +kernel
theorem dX6_here_8 : decode cX6_here 8 = .ok (.if_icmp .ge 15, 3) := by decide +kernel
theorem dX6_here_11 : decode cX6_here 11 = .ok (.aload_n 0, 1) := by decide +kernel
theorem dX6_here_12 : decode cX6_here 12 = .ok (.getfield 26, 3) := by decide +kernel
theorem dX6_here_15 : decode cX6_here 15 = .ok (.aload_n 0, 1) := by decide +kernel
theorem dX6_here_16 : decode cX6_here 16 = .ok (.getfield 92, 3) := by decide +kernel
theorem dX6_here_19 : decode cX6_here 19 = .ok (.iaload, 1) := by decide +kernel
theorem dX6_here_20 : decode cX6_here 20 = .ok (.goto 4, 3) := by decide +kernel
theorem dX6_here_23 : decode cX6_here 23 = .ok (.iconst (-1), 1) := by decide +kernel
theorem dX6_here_24 : decode cX6_here 24 = .ok (.ireturn, 1) := by decide +kernel
set_option maxRecDepth 20000 in
theorem ggX6_step_X6_here : GoodIn wsX6_step wsX6_here := goodIn_r _ [16, 1, 17, 18, 22, 23, 24, 25, 26, 27, 28, 29, 30, 31, 32, 33, 34, 35, 36, 37, 38, 39, 40] (by decide +kernel) (by decide +kernel)
set_option maxRecDepth 20000 in
theorem gX6_step_X6_here : GoodIn wsX6_step (wsV RX6 95 RX6 yX6_here wsX6_here) := goodIn_app (goodIn_of _ (by decide +kernel)) ggX6_step_X6_here
set_option maxRecDepth 20000 in
theorem ggX6_step_X6_in : GoodIn wsX6_step wsX6_in := goodIn_r _ [21] (by decide +kernel) (by decide +kernel)
set_option maxRecDepth 20000 in
theorem gX6_step_X6_in : GoodIn wsX6_step (va_wsS RX6 55 yX6_in wsX6_in) := goodIn_app (goodIn_of _ (by decide +kernel)) ggX6_step_X6_in
theorem dX6_step_0 : decode cX6_step 0 = .ok (.aload_n 0, 1) := by decide +kernel
theorem dX6_step_1 : decode cX6_step 1 = .ok (.invokevirtual 95, 3) := by decide +kernel
theorem dX6_step_4 : decode cX6_step 4 = .ok (.bipush 32, 2) := by decide +kernel
theorem dX6_step_6 : decode cX6_step 6 = .ok (.if_icmp .ne 16, 3) := by decide +kernel
theorem dX6_step_9 : decode cX6_step 9 = .ok (.aload_n 0, 1) := by decide +kernel
theorem dX6_step_10 : decode cX6_step 10 = .ok (.dup, 1) := by decide +kernel
theorem dX6_step_11 : decode cX6_step 11 = .ok (.getfield 92, 3) := by decide +kernel
theorem dX6_step_14 : decode cX6_step 14 = .ok (.iconst 1, 1) := by decide +kernel
theorem dX6_step_15 : decode cX6_step 15 = .ok (.iadd, 1) := by decide +kernel
theorem dX6_step_16 : decode cX6_step 16 = .ok (.putfield 92, 3) := by decide +kernel
theorem dX6_step_19 : decode cX6_step 19 = .ok (.goto (-19), 3) := by decide +kernel
theorem dX6_step_22 : decode cX6_step 22 = .ok (.aload_n 0, 1) := by decide +kernel
theorem dX6_step_23 : decode cX6_step 23 = .ok (.aload_n 0, 1) := by decide +kernel
theorem dX6_step_24 : decode cX6_step 24 = .ok (.getfield 92, 3) := by decide +kernel
theorem dX6_step_27 : decode cX6_step 27 = .ok (.putfield 98, 3) := by decide +kernel
theorem dX6_step_30 : decode cX6_step 30 = .ok (.aload_n 0, 1) := by decide +kernel
theorem dX6_step_31 : decode cX6_step 31 = .ok (.lconst 0, 1) := by decide +kernel
theorem dX6_step_32 : decode cX6_step 32 = .ok (.putfield 101, 3) := by decide +kernel
theorem dX6_step_35 : decode cX6_step 35 = .ok (.aload_n 0, 1) := by decide +kernel
theorem dX6_step_36 : decode cX6_step 36 = .ok (.iconst 0, 1) := by decide +kernel
theorem dX6_step_37 : decode cX6_step 37 = .ok (.putfield 104, 3) := by decide +kernel
theorem dX6_step_40 : decode cX6_step 40 = .ok (.aload_n 0, 1) := by decide +kernel
theorem dX6_step_41 : decode cX6_step 41 = .ok (.invokevirtual 95, 3) := by decide +kernel
theorem dX6_step_44 : decode cX6_step 44 = .ok (.istore_n 1, 1) := by decide +kernel
theorem dX6_step_45 : decode cX6_step 45 = .ok (.aload_n 0, 1) := by decide +kernel
theorem dX6_step_46 : decode cX6_step 46 = .ok (.iload_n 1, 1) := by decide +kernel
theorem dX6_step_47 : decode cX6_step 47 = .ok (.ifCond .ge 7, 3) := by decide +kernel
theorem dX6_step_50 : decode cX6_step 50 = .ok (.iconst 0, 1) := by decide +kernel
theorem dX6_step_51 : decode cX6_step 51 = .ok (.goto 50, 3) := by decide +kernel
theorem dX6_step_54 : decode cX6_step 54 = .ok (.iload_n 1, 1) := by decide +kernel
theorem dX6_step_55 : decode cX6_step 55 = .ok (.i2l, 1) := by decide +kernel
theorem dX6_step_56 : decode cX6_step 56 = .ok (.ldc2_w 107, 3) := by decide +kernel
theorem dX6_step_59 : decode cX6_step 59 = .ok (.ldc2_w 109, 3) := by decide +kernel
theorem dX6_step_62 : decode cX6_step 62 = .ok (.invokestatic 55, 3) := by decide +kernel
theorem dX6_step_65 : decode cX6_step 65 = .ok (.ifCond .eq 7, 3) := by decide +kernel
theorem dX6_step_68 : decode cX6_step 68 = .ok (.iconst 1, 1) := by decide +kernel
theorem dX6_step_69 : decode cX6_step 69 = .ok (.goto 32, 3) := by decide +kernel
theorem dX6_step_72 : decode cX6_step 72 = .ok (.iload_n 1, 1) := by decide +kernel
theorem dX6_step_73 : decode cX6_step 73 = .ok (.i2l, 1) := by decide +kernel
theorem dX6_step_74 : decode cX6_step 74 = .ok (.ldc2_w 111, 3) := by decide +kernel
theorem dX6_step_77 : decode cX6_step 77 = .ok (.ldc2_w 113, 3) := by decide +kernel
theorem dX6_step_80 : decode cX6_step 80 = .ok (.invokestatic 55, 3) := by decide +kernel
theorem dX6_step_83 : decode cX6_step 83 = .ok (.ifCond .eq 7, 3) := by decide +kernel
theorem dX6_step_86 : decode cX6_step 86 = .ok (.iconst 2, 1) := by decide +kernel
theorem dX6_step_87 : decode cX6_step 87 = .ok (.goto 14, 3) := by decide +kernel
theorem dX6_step_90 : decode cX6_step 90 = .ok (.iload_n 1, 1) := by decide +kernel
theorem dX6_step_91 : decode cX6_step 91 = .ok (.bipush 59, 2) := by decide +kernel
theorem dX6_step_93 : decode cX6_step 93 = .ok (.if_icmp .ne 7, 3) := by decide +kernel
theorem dX6_step_96 : decode cX6_step 96 = .ok (.iconst 3, 1) := by decide +kernel
theorem dX6_step_97 : decode cX6_step 97 = .ok (.goto 4, 3) := by decide +kernel
theorem dX6_step_100 : decode cX6_step 100 = .ok (.iconst 4, 1) := by decide +kernel
theorem dX6_step_101 : decode cX6_step 101 = .ok (.putfield 115, 3) := by decide +kernel
theorem dX6_step_104 : decode cX6_step 104 = .ok (.aload_n 0, 1) := by decide +kernel
theorem dX6_step_105 : decode cX6_step 105 = .ok (.getfield 115, 3) := by decide +kernel
theorem dX6_step_108 : decode cX6_step 108 = .ok (.iconst 2, 1) := by decide +kernel
theorem dX6_step_109 : decode cX6_step 109 = .ok (.if_icmp .le 13, 3) := by decide +kernel
theorem dX6_step_112 : decode cX6_step 112 = .ok (.aload_n 0, 1) := by decide +kernel
theorem dX6_step_113 : decode cX6_step 113 = .ok (.dup, 1) := by decide +kernel
theorem dX6_step_114 : decode cX6_step 114 = .ok (.getfield 92, 3) := by decide +kernel
theorem dX6_step_117 : decode cX6_step 117 = .ok (.iconst 1, 1) := by decide +kernel
theorem dX6_step_118 : decode cX6_step 118 = .ok (.iadd, 1) := by decide +kernel
theorem dX6_step_119 : decode cX6_step 119 = .ok (.putfield 92, 3) := by decide +kernel
theorem dX6_step_122 : decode cX6_step 122 = .ok (.aload_n 0, 1) := by decide +kernel
theorem dX6_step_123 : decode cX6_step 123 = .ok (.getfield 115, 3) := by decide +kernel
theorem dX6_step_126 : decode cX6_step 126 = .ok (.iconst 1, 1) := by decide +kernel
theorem dX6_step_127 : decode cX6_step 127 = .ok (.if_icmp .ne 71, 3) := by decide +kernel
theorem dX6_step_130 : decode cX6_step 130 = .ok (.aload_n 0, 1) := by decide +kernel
theorem dX6_step_131 : decode cX6_step 131 = .ok (.invokevirtual 95, 3) := by decide +kernel
theorem dX6_step_134 : decode cX6_step 134 = .ok (.i2l, 1) := by decide +kernel
theorem dX6_step_135 : decode cX6_step 135 = .ok (.ldc2_w 107, 3) := by decide +kernel
theorem dX6_step_138 : decode cX6_step 138 = .ok (.ldc2_w 109, 3) := by decide +kernel
theorem dX6_step_141 : decode cX6_step 141 = .ok (.invokestatic 55, 3) := by decide +kernel
theorem dX6_step_144 : decode cX6_step 144 = .ok (.ifCond .eq 54, 3) := by decide +kernel
theorem dX6_step_147 : decode cX6_step 147 = .ok (.aload_n 0, 1) := by decide +kernel
theorem dX6_step_148 : decode cX6_step 148 = .ok (.aload_n 0, 1) := by decide +kernel
theorem dX6_step_149 : decode cX6_step 149 = .ok (.getfield 92, 3) := by decide +kernel
theorem dX6_step_152 : decode cX6_step 152 = .ok (.aload_n 0, 1) := by decide +kernel
theorem dX6_step_153 : decode cX6_step 153 = .ok (.getfield 98, 3) := by decide +kernel
theorem dX6_step_156 : decode cX6_step 156 = .ok (.isub, 1) := by decide +kernel
theorem dX6_step_157 : decode cX6_step 157 = .ok (.bipush 6, 2) := by decide +kernel
theorem dX6_step_159 : decode cX6_step 159 = .ok (.if_icmp .ge 20, 3) := by decide +kernel
theorem dX6_step_162 : decode cX6_step 162 = .ok (.aload_n 0, 1) := by decide +kernel
theorem dX6_step_163 : decode cX6_step 163 = .ok (.getfield 101, 3) := by decide +kernel
theorem dX6_step_166 : decode cX6_step 166 = .ok (.ldc2_w 118, 3) := by decide +kernel
theorem dX6_step_169 : decode cX6_step 169 = .ok (.lmul, 1) := by decide +kernel
theorem dX6_step_170 : decode cX6_step 170 = .ok (.aload_n 0, 1) := by decide +kernel
theorem dX6_step_171 : decode cX6_step 171 = .ok (.invokevirtual 95, 3) := by decide +kernel
theorem dX6_step_174 : decode cX6_step 174 = .ok (.i2l, 1) := by decide +kernel
theorem dX6_step_175 : decode cX6_step 175 = .ok (.ladd, 1) := by decide +kernel
theorem dX6_step_176 : decode cX6_step 176 = .ok (.goto 6, 3) := by decide +kernel
theorem dX6_step_179 : decode cX6_step 179 = .ok (.ldc2_w 120, 3) := by decide +kernel
theorem dX6_step_182 : decode cX6_step 182 = .ok (.putfield 101, 3) := by decide +kernel
theorem dX6_step_185 : decode cX6_step 185 = .ok (.aload_n 0, 1) := by decide +kernel
theorem dX6_step_186 : decode cX6_step 186 = .ok (.dup, 1) := by decide +kernel
theorem dX6_step_187 : decode cX6_step 187 = .ok (.getfield 92, 3) := by decide +kernel
theorem dX6_step_190 : decode cX6_step 190 = .ok (.iconst 1, 1) := by decide +kernel
theorem dX6_step_191 : decode cX6_step 191 = .ok (.iadd, 1) := by decide +kernel
theorem dX6_step_192 : decode cX6_step 192 = .ok (.putfield 92, 3) := by decide +kernel
theorem dX6_step_195 : decode cX6_step 195 = .ok (.goto (-73), 3) := by decide +kernel
theorem dX6_step_198 : decode cX6_step 198 = .ok (.aload_n 0, 1) := by decide +kernel
theorem dX6_step_199 : decode cX6_step 199 = .ok (.getfield 115, 3) := by decide +kernel
theorem dX6_step_202 : decode cX6_step 202 = .ok (.iconst 2, 1) := by decide +kernel
theorem dX6_step_203 : decode cX6_step 203 = .ok (.if_icmp .ne 72, 3) := by decide +kernel
theorem dX6_step_206 : decode cX6_step 206 = .ok (.aload_n 0, 1) := by decide +kernel
theorem dX6_step_207 : decode cX6_step 207 = .ok (.invokevirtual 95, 3) := by decide +kernel
theorem dX6_step_210 : decode cX6_step 210 = .ok (.i2l, 1) := by decide +kernel
theorem dX6_step_211 : decode cX6_step 211 = .ok (.ldc2_w 111, 3) := by decide +kernel
theorem dX6_step_214 : decode cX6_step 214 = .ok (.ldc2_w 113, 3) := by decide +kernel
theorem dX6_step_217 : decode cX6_step 217 = .ok (.invokestatic 55, 3) := by decide +kernel
theorem dX6_step_220 : decode cX6_step 220 = .ok (.ifCond .eq 55, 3) := by decide +kernel
theorem dX6_step_223 : decode cX6_step 223 = .ok (.aload_n 0, 1) := by decide +kernel
theorem dX6_step_224 : decode cX6_step 224 = .ok (.aload_n 0, 1) := by decide +kernel
theorem dX6_step_225 : decode cX6_step 225 = .ok (.getfield 92, 3) := by decide +kernel
theorem dX6_step_228 : decode cX6_step 228 = .ok (.aload_n 0, 1) := by decide +kernel
theorem dX6_step_229 : decode cX6_step 229 = .ok (.getfield 98, 3) := by decide +kernel
theorem dX6_step_232 : decode cX6_step 232 = .ok (.isub, 1) := by decide +kernel
theorem dX6_step_233 : decode cX6_step 233 = .ok (.iconst 2, 1) := by decide +kernel
theorem dX6_step_234 : decode cX6_step 234 = .ok (.if_icmp .ge 21, 3) := by decide +kernel
theorem dX6_step_237 : decode cX6_step 237 = .ok (.bipush 10, 2) := by decide +kernel
theorem dX6_step_239 : decode cX6_step 239 = .ok (.aload_n 0, 1) := by decide +kernel
theorem dX6_step_240 : decode cX6_step 240 = .ok (.getfield 104, 3) := by decide +kernel
theorem dX6_step_243 : decode cX6_step 243 = .ok (.imul, 1) := by decide +kernel
theorem dX6_step_244 : decode cX6_step 244 = .ok (.aload_n 0, 1) := by decide +kernel
theorem dX6_step_245 : decode cX6_step 245 = .ok (.invokevirtual 95, 3) := by decide +kernel
theorem dX6_step_248 : decode cX6_step 248 = .ok (.iadd, 1) := by decide +kernel
theorem dX6_step_249 : decode cX6_step 249 = .ok (.bipush 48, 2) := by decide +kernel
theorem dX6_step_251 : decode cX6_step 251 = .ok (.isub, 1) := by decide +kernel
theorem dX6_step_252 : decode cX6_step 252 = .ok (.goto 7, 3) := by decide +kernel
theorem dX6_step_255 : decode cX6_step 255 = .ok (.aload_n 0, 1) := by decide +kernel
theorem dX6_step_256 : decode cX6_step 256 = .ok (.getfield 104, 3) := by decide +kernel
theorem dX6_step_259 : decode cX6_step 259 = .ok (.putfield 104, 3) := by decide +kernel
theorem dX6_step_262 : decode cX6_step 262 = .ok (.aload_n 0, 1) := by decide +kernel
theorem dX6_step_263 : decode cX6_step 263 = .ok (.dup, 1) := by decide +kernel
theorem dX6_step_264 : decode cX6_step 264 = .ok (.getfield 92, 3) := by decide +kernel
theorem dX6_step_267 : decode cX6_step 267 = .ok (.iconst 1, 1) := by decide +kernel
theorem dX6_step_268 : decode cX6_step 268 = .ok (.iadd, 1) := by decide +kernel
theorem dX6_step_269 : decode cX6_step 269 = .ok (.putfield 92, 3) := by decide +kernel
theorem dX6_step_272 : decode cX6_step 272 = .ok (.goto (-74), 3) := by decide +kernel
theorem dX6_step_275 : decode cX6_step 275 = .ok (.aload_n 0, 1) := by decide +kernel
theorem dX6_step_276 : decode cX6_step 276 = .ok (.aload_n 0, 1) := by decide +kernel
theorem dX6_step_277 : decode cX6_step 277 = .ok (.getfield 115, 3) := by decide +kernel
theorem dX6_step_280 : decode cX6_step 280 = .ok (.iconst 2, 1) := by decide +kernel
theorem dX6_step_281 : decode cX6_step 281 = .ok (.if_icmp .ne 20, 3) := by decide +kernel
theorem dX6_step_284 : decode cX6_step 284 = .ok (.aload_n 0, 1) := by decide +kernel
theorem dX6_step_285 : decode cX6_step 285 = .ok (.getfield 92, 3) := by decide +kernel
theorem dX6_step_288 : decode cX6_step 288 = .ok (.aload_n 0, 1) := by decide +kernel
theorem dX6_step_289 : decode cX6_step 289 = .ok (.getfield 98, 3) := by decide +kernel
theorem dX6_step_292 : decode cX6_step 292 = .ok (.isub, 1) := by decide +kernel
theorem dX6_step_293 : decode cX6_step 293 = .ok (.iconst 2, 1) := by decide +kernel
theorem dX6_step_294 : decode cX6_step 294 = .ok (.if_icmp .le 7, 3) := by decide +kernel
theorem dX6_step_297 : decode cX6_step 297 = .ok (.iconst 4, 1) := by decide +kernel
theorem dX6_step_298 : decode cX6_step 298 = .ok (.goto 7, 3) := by decide +kernel
theorem dX6_step_301 : decode cX6_step 301 = .ok (.aload_n 0, 1) := by decide +kernel
theorem dX6_step_302 : decode cX6_step 302 = .ok (.getfield 115, 3) := by decide +kernel
theorem dX6_step_305 : decode cX6_step 305 = .ok (.putfield 115, 3) := by decide +kernel
theorem dX6_step_308 : decode cX6_step 308 = .ok (.return_, 1) := by decide +kernel
set_option maxRecDepth 20000 in
theorem ggX6_number_X6_step : GoodIn wsX6_number wsX6_step := goodIn_r _ [7, 8, 9, 10, 2, 11, 12, 13, 14, 1, 15, 16, 17, 18, 19, 6, 20, 21, 22, 23, 24, 25, 26, 27, 28, 29, 30, 31, 32, 33, 34, 35, 36, 37, 38, 39, 40, 41, 42, 43, 44] (by decide +kernel) (by decide +kernel)
set_option maxRecDepth 20000 in
theorem gX6_number_X6_step : GoodIn wsX6_number (wsV RX6 122 RX6 yX6_step wsX6_step) := goodIn_app (goodIn_of _ (by decide +kernel)) ggX6_number_X6_step
theorem dX6_number_0 : decode cX6_number 0 = .ok (.aload_n 0, 1) := by decide +kernel
theorem dX6_number_1 : decode cX6_number 1 = .ok (.invokevirtual 122, 3) := by decide +kernel
theorem dX6_number_4 : decode cX6_number 4 = .ok (.aload_n 0, 1) := by decide +kernel
theorem dX6_number_5 : decode cX6_number 5 = .ok (.getfield 115, 3) := by decide +kernel
theorem dX6_number_8 : decode cX6_number 8 = .ok (.iconst 2, 1) := by decide +kernel
theorem dX6_number_9 : decode cX6_number 9 = .ok (.if_icmp .ne 15, 3) := by decide +kernel
theorem dX6_number_12 : decode cX6_number 12 = .ok (.aload_n 0, 1) := by decide +kernel
theorem dX6_number_13 : decode cX6_number 13 = .ok (.getfield 104, 3) := by decide +kernel
theorem dX6_number_16 : decode cX6_number 16 = .ok (.iload_n 1, 1) := by decide +kernel
theorem dX6_number_17 : decode cX6_number 17 = .ok (.if_icmp .gt 7, 3) := by decide +kernel
theorem dX6_number_20 : decode cX6_number 20 = .ok (.iconst 1, 1) := by decide +kernel
theorem dX6_number_21 : decode cX6_number 21 = .ok (.goto 4, 3) := by decide +kernel
theorem dX6_number_24 : decode cX6_number 24 = .ok (.iconst 0, 1) := by decide +kernel
theorem dX6_number_25 : decode cX6_number 25 = .ok (.ireturn, 1) := by decide +kernel
set_option maxRecDepth 20000 in
theorem ggX6_readsTable_X6_number : GoodIn wsX6_readsTable wsX6_number := goodIn_r _ [7, 8, 2, 9, 10, 11, 6, 12, 13, 14, 15, 16, 17, 18, 19, 20, 21, 22, 23, 24, 25, 26, 27, 28, 29, 30, 31, 32, 33, 34, 35, 36, 37, 38, 39, 40, 41, 42, 43, 44, 45, 46, 47, 48, 49] (by decide +kernel) (by decide +kernel)
set_option maxRecDepth 20000 in
theorem gX6_readsTable_X6_number : GoodIn wsX6_readsTable (wsV RX6 125 RX6 yX6_number wsX6_number) := goodIn_app (goodIn_of _ (by decide +kernel)) ggX6_readsTable_X6_number
theorem dX6_readsTable_0 : decode cX6_readsTable 0 = .ok (.aload_n 0, 1) := by decide +kernel
theorem dX6_readsTable_1 : decode cX6_readsTable 1 = .ok (.bipush 7, 2) := by decide +kernel
theorem dX6_readsTable_3 : decode cX6_readsTable 3 = .ok (.invokevirtual 125, 3) := by decide +kernel
theorem dX6_readsTable_6 : decode cX6_readsTable 6 = .ok (.ifCond .ne 5, 3) := by decide +kernel
theorem dX6_readsTable_9 : decode cX6_readsTable 9 = .ok (.iconst 0, 1) := by decide +kernel
theorem dX6_readsTable_10 : decode cX6_readsTable 10 = .ok (.ireturn, 1) := by decide +kernel
theorem dX6_readsTable_11 : decode cX6_readsTable 11 = .ok (.aload_n 0, 1) := by decide +kernel
theorem dX6_readsTable_12 : decode cX6_readsTable 12 = .ok (.getfield 13, 3) := by decide +kernel
theorem dX6_readsTable_15 : decode cX6_readsTable 15 = .ok (.bipush 20, 2) := by decide +kernel
theorem dX6_readsTable_17 : decode cX6_readsTable 17 = .ok (.aload_n 0, 1) := by decide +kernel
theorem dX6_readsTable_18 : decode cX6_readsTable 18 = .ok (.getfield 104, 3) := by decide +kernel
theorem dX6_readsTable_21 : decode cX6_readsTable 21 = .ok (.iastore, 1) := by decide +kernel
theorem dX6_readsTable_22 : decode cX6_readsTable 22 = .ok (.iconst 1, 1) := by decide +kernel
theorem dX6_readsTable_23 : decode cX6_readsTable 23 = .ok (.ireturn, 1) := by decide +kernel
set_option maxRecDepth 20000 in
theorem ggX6_readsChild_X6_number : GoodIn wsX6_readsChild wsX6_number := goodIn_r _ [7, 8, 2, 9, 10, 11, 6, 12, 13, 14, 15, 16, 17, 18, 19, 20, 21, 22, 23, 24, 25, 26, 27, 28, 29, 30, 37, 38, 39, 40, 41, 42, 43, 44, 45, 46, 47, 48, 49, 50, 51, 52, 53, 54, 55] (by decide +kernel) (by decide +kernel)
set_option maxRecDepth 20000 in
theorem gX6_readsChild_X6_number : GoodIn wsX6_readsChild (wsV RX6 125 RX6 yX6_number wsX6_number) := goodIn_app (goodIn_of _ (by decide +kernel)) ggX6_readsChild_X6_number
set_option maxRecDepth 20000 in
theorem ggX6_readsChild_X6_whoIs : GoodIn wsX6_readsChild wsX6_whoIs := goodIn_r _ [33] (by decide +kernel) (by decide +kernel)
set_option maxRecDepth 20000 in
theorem gX6_readsChild_X6_whoIs : GoodIn wsX6_readsChild (va_wsS RX6 73 yX6_whoIs wsX6_whoIs) := goodIn_app (goodIn_of _ (by decide +kernel)) ggX6_readsChild_X6_whoIs
set_option maxRecDepth 20000 in
theorem ggX6_readsChild_X6_comes : GoodIn wsX6_readsChild wsX6_comes := goodIn_r _ [36] (by decide +kernel) (by decide +kernel)
set_option maxRecDepth 20000 in
theorem gX6_readsChild_X6_comes : GoodIn wsX6_readsChild (va_wsS RX6 83 yX6_comes wsX6_comes) := goodIn_app (goodIn_of _ (by decide +kernel)) ggX6_readsChild_X6_comes
theorem dX6_readsChild_0 : decode cX6_readsChild 0 = .ok (.aload_n 0, 1) := by decide +kernel
theorem dX6_readsChild_1 : decode cX6_readsChild 1 = .ok (.getfield 13, 3) := by decide +kernel
theorem dX6_readsChild_4 : decode cX6_readsChild 4 = .ok (.bipush 22, 2) := by decide +kernel
theorem dX6_readsChild_6 : decode cX6_readsChild 6 = .ok (.iaload, 1) := by decide +kernel
theorem dX6_readsChild_7 : decode cX6_readsChild 7 = .ok (.bipush 6, 2) := by decide +kernel
theorem dX6_readsChild_9 : decode cX6_readsChild 9 = .ok (.if_icmp .eq 11, 3) := by decide +kernel
theorem dX6_readsChild_12 : decode cX6_readsChild 12 = .ok (.aload_n 0, 1) := by decide +kernel
theorem dX6_readsChild_13 : decode cX6_readsChild 13 = .ok (.iconst 5, 1) := by decide +kernel
theorem dX6_readsChild_14 : decode cX6_readsChild 14 = .ok (.invokevirtual 125, 3) := by decide +kernel
theorem dX6_readsChild_17 : decode cX6_readsChild 17 = .ok (.ifCond .ne 5, 3) := by decide +kernel
theorem dX6_readsChild_20 : decode cX6_readsChild 20 = .ok (.iconst 0, 1) := by decide +kernel
theorem dX6_readsChild_21 : decode cX6_readsChild 21 = .ok (.ireturn, 1) := by decide +kernel
theorem dX6_readsChild_22 : decode cX6_readsChild 22 = .ok (.aload_n 0, 1) := by decide +kernel
theorem dX6_readsChild_23 : decode cX6_readsChild 23 = .ok (.getfield 104, 3) := by decide +kernel
theorem dX6_readsChild_26 : decode cX6_readsChild 26 = .ok (.istore_n 1, 1) := by decide +kernel
theorem dX6_readsChild_27 : decode cX6_readsChild 27 = .ok (.aload_n 0, 1) := by decide +kernel
theorem dX6_readsChild_28 : decode cX6_readsChild 28 = .ok (.bipush 7, 2) := by decide +kernel
theorem dX6_readsChild_30 : decode cX6_readsChild 30 = .ok (.invokevirtual 125, 3) := by decide +kernel
theorem dX6_readsChild_33 : decode cX6_readsChild 33 = .ok (.ifCond .eq 18, 3) := by decide +kernel
theorem dX6_readsChild_36 : decode cX6_readsChild 36 = .ok (.aload_n 0, 1) := by decide +kernel
theorem dX6_readsChild_37 : decode cX6_readsChild 37 = .ok (.getfield 13, 3) := by decide +kernel
theorem dX6_readsChild_40 : decode cX6_readsChild 40 = .ok (.aload_n 0, 1) := by decide +kernel
theorem dX6_readsChild_41 : decode cX6_readsChild 41 = .ok (.getfield 104, 3) := by decide +kernel
theorem dX6_readsChild_44 : decode cX6_readsChild 44 = .ok (.invokestatic 73, 3) := by decide +kernel
theorem dX6_readsChild_47 : decode cX6_readsChild 47 = .ok (.iconst (-1), 1) := by decide +kernel
theorem dX6_readsChild_48 : decode cX6_readsChild 48 = .ok (.if_icmp .eq 5, 3) := by decide +kernel
theorem dX6_readsChild_51 : decode cX6_readsChild 51 = .ok (.iconst 0, 1) := by decide +kernel
theorem dX6_readsChild_52 : decode cX6_readsChild 52 = .ok (.ireturn, 1) := by decide +kernel
theorem dX6_readsChild_53 : decode cX6_readsChild 53 = .ok (.aload_n 0, 1) := by decide +kernel
theorem dX6_readsChild_54 : decode cX6_readsChild 54 = .ok (.getfield 104, 3) := by decide +kernel
theorem dX6_readsChild_57 : decode cX6_readsChild 57 = .ok (.istore_n 2, 1) := by decide +kernel
theorem dX6_readsChild_58 : decode cX6_readsChild 58 = .ok (.aload_n 0, 1) := by decide +kernel
theorem dX6_readsChild_59 : decode cX6_readsChild 59 = .ok (.bipush 20, 2) := by decide +kernel
theorem dX6_readsChild_61 : decode cX6_readsChild 61 = .ok (.invokevirtual 125, 3) := by decide +kernel
theorem dX6_readsChild_64 : decode cX6_readsChild 64 = .ok (.ifCond .ne 5, 3) := by decide +kernel
theorem dX6_readsChild_67 : decode cX6_readsChild 67 = .ok (.iconst 0, 1) := by decide +kernel
theorem dX6_readsChild_68 : decode cX6_readsChild 68 = .ok (.ireturn, 1) := by decide +kernel
theorem dX6_readsChild_69 : decode cX6_readsChild 69 = .ok (.aload_n 0, 1) := by decide +kernel
theorem dX6_readsChild_70 : decode cX6_readsChild 70 = .ok (.getfield 104, 3) := by decide +kernel
theorem dX6_readsChild_73 : decode cX6_readsChild 73 = .ok (.istore_n 3, 1) := by decide +kernel
theorem dX6_readsChild_74 : decode cX6_readsChild 74 = .ok (.aload_n 0, 1) := by decide +kernel
theorem dX6_readsChild_75 : decode cX6_readsChild 75 = .ok (.bipush 30, 2) := by decide +kernel
theorem dX6_readsChild_77 : decode cX6_readsChild 77 = .ok (.invokevirtual 125, 3) := by decide +kernel
theorem dX6_readsChild_80 : decode cX6_readsChild 80 = .ok (.ifCond .ne 5, 3) := by decide +kernel
theorem dX6_readsChild_83 : decode cX6_readsChild 83 = .ok (.iconst 0, 1) := by decide +kernel
theorem dX6_readsChild_84 : decode cX6_readsChild 84 = .ok (.ireturn, 1) := by decide +kernel
theorem dX6_readsChild_85 : decode cX6_readsChild 85 = .ok (.aload_n 0, 1) := by decide +kernel
theorem dX6_readsChild_86 : decode cX6_readsChild 86 = .ok (.getfield 13, 3) := by decide +kernel
theorem dX6_readsChild_89 : decode cX6_readsChild 89 = .ok (.iload_n 1, 1) := by decide +kernel
theorem dX6_readsChild_90 : decode cX6_readsChild 90 = .ok (.iload_n 2, 1) := by decide +kernel
theorem dX6_readsChild_91 : decode cX6_readsChild 91 = .ok (.iload_n 3, 1) := by decide +kernel
theorem dX6_readsChild_92 : decode cX6_readsChild 92 = .ok (.aload_n 0, 1) := by decide +kernel
theorem dX6_readsChild_93 : decode cX6_readsChild 93 = .ok (.getfield 104, 3) := by decide +kernel
theorem dX6_readsChild_96 : decode cX6_readsChild 96 = .ok (.invokestatic 83, 3) := by decide +kernel
theorem dX6_readsChild_99 : decode cX6_readsChild 99 = .ok (.iconst 1, 1) := by decide +kernel
theorem dX6_readsChild_100 : decode cX6_readsChild 100 = .ok (.ireturn, 1) := by decide +kernel
theorem dX6_lesser_0 : decode cX6_lesser 0 = .ok (.iload_n 0, 1) := by decide +kernel
theorem dX6_lesser_1 : decode cX6_lesser 1 = .ok (.iload_n 1, 1) := by decide +kernel
theorem dX6_lesser_2 : decode cX6_lesser 2 = .ok (.if_icmp .le 9, 3) := by decide +kernel
theorem dX6_lesser_5 : decode cX6_lesser 5 = .ok (.iload_n 0, 1) := by decide +kernel
theorem dX6_lesser_6 : decode cX6_lesser 6 = .ok (.iload_n 1, 1) := by decide +kernel
theorem dX6_lesser_7 : decode cX6_lesser 7 = .ok (.isub, 1) := by decide +kernel
theorem dX6_lesser_8 : decode cX6_lesser 8 = .ok (.goto 4, 3) := by decide +kernel
theorem dX6_lesser_11 : decode cX6_lesser 11 = .ok (.iconst 0, 1) := by decide +kernel
theorem dX6_lesser_12 : decode cX6_lesser 12 = .ok (.ireturn, 1) := by decide +kernel
set_option maxRecDepth 20000 in
theorem ggX6_readsCarrot_X6_step : GoodIn wsX6_readsCarrot wsX6_step := goodIn_r _ [8, 9, 10, 11, 2, 12, 13, 14, 15, 1, 16, 17, 18, 19, 20, 7, 21, 22, 23, 24, 25, 26, 30, 31, 32, 33, 34, 35, 36, 37, 38, 39, 40, 41, 42, 43, 44, 45, 46, 47, 48] (by decide +kernel) (by decide +kernel)
set_option maxRecDepth 20000 in
theorem gX6_readsCarrot_X6_step : GoodIn wsX6_readsCarrot (wsV RX6 122 RX6 yX6_step wsX6_step) := goodIn_app (goodIn_of _ (by decide +kernel)) ggX6_readsCarrot_X6_step
set_option maxRecDepth 20000 in
theorem ggX6_readsCarrot_X6_lesser : GoodIn wsX6_readsCarrot wsX6_lesser := goodIn_r _ [29] (by decide +kernel) (by decide +kernel)
set_option maxRecDepth 20000 in
theorem gX6_readsCarrot_X6_lesser : GoodIn wsX6_readsCarrot (va_wsS RX6 128 yX6_lesser wsX6_lesser) := goodIn_app (goodIn_of _ (by decide +kernel)) ggX6_readsCarrot_X6_lesser
theorem dX6_readsCarrot_0 : decode cX6_readsCarrot 0 = .ok (.aload_n 0, 1) := by decide +kernel
theorem dX6_readsCarrot_1 : decode cX6_readsCarrot 1 = .ok (.invokevirtual 122, 3) := by decide +kernel
theorem dX6_readsCarrot_4 : decode cX6_readsCarrot 4 = .ok (.aload_n 0, 1) := by decide +kernel
theorem dX6_readsCarrot_5 : decode cX6_readsCarrot 5 = .ok (.getfield 115, 3) := by decide +kernel
theorem dX6_readsCarrot_8 : decode cX6_readsCarrot 8 = .ok (.iconst 2, 1) := by decide +kernel
theorem dX6_readsCarrot_9 : decode cX6_readsCarrot 9 = .ok (.if_icmp .ne 17, 3) := by decide +kernel
theorem dX6_readsCarrot_12 : decode cX6_readsCarrot 12 = .ok (.aload_n 0, 1) := by decide +kernel
theorem dX6_readsCarrot_13 : decode cX6_readsCarrot 13 = .ok (.getfield 104, 3) := by decide +kernel
theorem dX6_readsCarrot_16 : decode cX6_readsCarrot 16 = .ok (.aload_n 0, 1) := by decide +kernel
theorem dX6_readsCarrot_17 : decode cX6_readsCarrot 17 = .ok (.getfield 13, 3) := by decide +kernel
theorem dX6_readsCarrot_20 : decode cX6_readsCarrot 20 = .ok (.bipush 22, 2) := by decide +kernel
theorem dX6_readsCarrot_22 : decode cX6_readsCarrot 22 = .ok (.iaload, 1) := by decide +kernel
theorem dX6_readsCarrot_23 : decode cX6_readsCarrot 23 = .ok (.if_icmp .lt 5, 3) := by decide +kernel
theorem dX6_readsCarrot_26 : decode cX6_readsCarrot 26 = .ok (.iconst 0, 1) := by decide +kernel
theorem dX6_readsCarrot_27 : decode cX6_readsCarrot 27 = .ok (.ireturn, 1) := by decide +kernel
theorem dX6_readsCarrot_28 : decode cX6_readsCarrot 28 = .ok (.aload_n 0, 1) := by decide +kernel
theorem dX6_readsCarrot_29 : decode cX6_readsCarrot 29 = .ok (.getfield 13, 3) := by decide +kernel
theorem dX6_readsCarrot_32 : decode cX6_readsCarrot 32 = .ok (.bipush 6, 2) := by decide +kernel
theorem dX6_readsCarrot_34 : decode cX6_readsCarrot 34 = .ok (.aload_n 0, 1) := by decide +kernel

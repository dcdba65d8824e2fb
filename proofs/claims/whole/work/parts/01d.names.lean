theorem dX6_readsCarrot_35 : decode cX6_readsCarrot 35 = .ok (.getfield 104, 3) := by decide +kernel
theorem dX6_readsCarrot_38 : decode cX6_readsCarrot 38 = .ok (.iadd, 1) := by decide +kernel
theorem dX6_readsCarrot_39 : decode cX6_readsCarrot 39 = .ok (.aload_n 0, 1) := by decide +kernel
theorem dX6_readsCarrot_40 : decode cX6_readsCarrot 40 = .ok (.getfield 13, 3) := by decide +kernel
theorem dX6_readsCarrot_43 : decode cX6_readsCarrot 43 = .ok (.bipush 6, 2) := by decide +kernel
theorem dX6_readsCarrot_45 : decode cX6_readsCarrot 45 = .ok (.aload_n 0, 1) := by decide +kernel
theorem dX6_readsCarrot_46 : decode cX6_readsCarrot 46 = .ok (.getfield 104, 3) := by decide +kernel
theorem dX6_readsCarrot_49 : decode cX6_readsCarrot 49 = .ok (.iadd, 1) := by decide +kernel
theorem dX6_readsCarrot_50 : decode cX6_readsCarrot 50 = .ok (.iaload, 1) := by decide +kernel
theorem dX6_readsCarrot_51 : decode cX6_readsCarrot 51 = .ok (.bipush 10, 2) := by decide +kernel
theorem dX6_readsCarrot_53 : decode cX6_readsCarrot 53 = .ok (.invokestatic 128, 3) := by decide +kernel
theorem dX6_readsCarrot_56 : decode cX6_readsCarrot 56 = .ok (.iastore, 1) := by decide +kernel
theorem dX6_readsCarrot_57 : decode cX6_readsCarrot 57 = .ok (.iconst 1, 1) := by decide +kernel
theorem dX6_readsCarrot_58 : decode cX6_readsCarrot 58 = .ok (.ireturn, 1) := by decide +kernel
set_option maxRecDepth 20000 in
theorem ggX6_readsItem_X6_readsTable : GoodIn wsX6_readsItem wsX6_readsTable := goodIn_r _ [10, 11, 12, 13, 14, 15, 9, 16, 1, 17, 18, 19, 20, 21, 22, 2, 23, 24, 25, 26, 27, 28, 29, 30, 31, 32, 33, 34, 35, 36, 37, 55, 56, 57, 58, 59, 60, 61, 62, 63, 64, 65, 66, 67, 68, 69, 70, 71, 72, 73] (by decide +kernel) (by decide +kernel)
set_option maxRecDepth 20000 in
theorem gX6_readsItem_X6_readsTable : GoodIn wsX6_readsItem (wsV RX6 134 RX6 yX6_readsTable wsX6_readsTable) := goodIn_app (goodIn_of _ (by decide +kernel)) ggX6_readsItem_X6_readsTable
set_option maxRecDepth 20000 in
theorem ggX6_readsItem_X6_readsChild : GoodIn wsX6_readsItem wsX6_readsChild := goodIn_r _ [41, 11, 12, 13, 14, 15, 9, 16, 1, 17, 18, 19, 20, 21, 22, 2, 23, 24, 25, 26, 27, 28, 29, 30, 31, 32, 33, 34, 35, 36, 37, 42, 43, 44, 45, 46, 47, 55, 56, 57, 58, 59, 60, 61, 62, 63, 64, 65, 66, 67, 68, 69, 70, 71, 72, 73] (by decide +kernel) (by decide +kernel)
set_option maxRecDepth 20000 in
theorem gX6_readsItem_X6_readsChild : GoodIn wsX6_readsItem (wsV RX6 140 RX6 yX6_readsChild wsX6_readsChild) := goodIn_app (goodIn_of _ (by decide +kernel)) ggX6_readsItem_X6_readsChild
set_option maxRecDepth 20000 in
theorem ggX6_readsItem_X6_readsCarrot : GoodIn wsX6_readsItem wsX6_readsCarrot := goodIn_r _ [51, 1, 12, 11, 17, 18, 19, 9, 20, 21, 22, 2, 23, 24, 25, 26, 27, 28, 29, 30, 31, 32, 33, 34, 35, 36, 37, 52, 53, 54, 55, 56, 57, 58, 59, 60, 61, 62, 63, 64, 65, 66, 67, 68, 69, 70, 71, 72, 73] (by decide +kernel) (by decide +kernel)
set_option maxRecDepth 20000 in
theorem gX6_readsItem_X6_readsCarrot : GoodIn wsX6_readsItem (wsV RX6 145 RX6 yX6_readsCarrot wsX6_readsCarrot) := goodIn_app (goodIn_of _ (by decide +kernel)) ggX6_readsItem_X6_readsCarrot
theorem dX6_readsItem_0 : decode cX6_readsItem 0 = .ok (.aload_n 0, 1) := by decide +kernel
theorem dX6_readsItem_1 : decode cX6_readsItem 1 = .ok (.getfield 115, 3) := by decide +kernel
theorem dX6_readsItem_4 : decode cX6_readsItem 4 = .ok (.iconst 1, 1) := by decide +kernel
theorem dX6_readsItem_5 : decode cX6_readsItem 5 = .ok (.if_icmp .eq 5, 3) := by decide +kernel
theorem dX6_readsItem_8 : decode cX6_readsItem 8 = .ok (.iconst 0, 1) := by decide +kernel
theorem dX6_readsItem_9 : decode cX6_readsItem 9 = .ok (.ireturn, 1) := by decide +kernel
theorem dX6_readsItem_10 : decode cX6_readsItem 10 = .ok (.aload_n 0, 1) := by decide +kernel
theorem dX6_readsItem_11 : decode cX6_readsItem 11 = .ok (.getfield 101, 3) := by decide +kernel
theorem dX6_readsItem_14 : decode cX6_readsItem 14 = .ok (.lstore_n 2, 1) := by decide +kernel
theorem dX6_readsItem_15 : decode cX6_readsItem 15 = .ok (.lload_n 2, 1) := by decide +kernel
theorem dX6_readsItem_16 : decode cX6_readsItem 16 = .ok (.ldc2_w 132, 3) := by decide +kernel
theorem dX6_readsItem_19 : decode cX6_readsItem 19 = .ok (.lcmp, 1) := by decide +kernel
theorem dX6_readsItem_20 : decode cX6_readsItem 20 = .ok (.ifCond .ne 20, 3) := by decide +kernel
theorem dX6_readsItem_23 : decode cX6_readsItem 23 = .ok (.iload_n 1, 1) := by decide +kernel
theorem dX6_readsItem_24 : decode cX6_readsItem 24 = .ok (.ifCond .eq 14, 3) := by decide +kernel
theorem dX6_readsItem_27 : decode cX6_readsItem 27 = .ok (.aload_n 0, 1) := by decide +kernel
theorem dX6_readsItem_28 : decode cX6_readsItem 28 = .ok (.invokevirtual 134, 3) := by decide +kernel
theorem dX6_readsItem_31 : decode cX6_readsItem 31 = .ok (.ifCond .eq 7, 3) := by decide +kernel
theorem dX6_readsItem_34 : decode cX6_readsItem 34 = .ok (.iconst 1, 1) := by decide +kernel
theorem dX6_readsItem_35 : decode cX6_readsItem 35 = .ok (.goto 4, 3) := by decide +kernel
theorem dX6_readsItem_38 : decode cX6_readsItem 38 = .ok (.iconst 0, 1) := by decide +kernel
theorem dX6_readsItem_39 : decode cX6_readsItem 39 = .ok (.ireturn, 1) := by decide +kernel
theorem dX6_readsItem_40 : decode cX6_readsItem 40 = .ok (.iload_n 1, 1) := by decide +kernel
theorem dX6_readsItem_41 : decode cX6_readsItem 41 = .ok (.ifCond .eq 5, 3) := by decide +kernel
theorem dX6_readsItem_44 : decode cX6_readsItem 44 = .ok (.iconst 0, 1) := by decide +kernel
theorem dX6_readsItem_45 : decode cX6_readsItem 45 = .ok (.ireturn, 1) := by decide +kernel
theorem dX6_readsItem_46 : decode cX6_readsItem 46 = .ok (.lload_n 2, 1) := by decide +kernel
theorem dX6_readsItem_47 : decode cX6_readsItem 47 = .ok (.ldc2_w 138, 3) := by decide +kernel
theorem dX6_readsItem_50 : decode cX6_readsItem 50 = .ok (.lcmp, 1) := by decide +kernel
theorem dX6_readsItem_51 : decode cX6_readsItem 51 = .ok (.ifCond .ne 10, 3) := by decide +kernel
theorem dX6_readsItem_54 : decode cX6_readsItem 54 = .ok (.aload_n 0, 1) := by decide +kernel
theorem dX6_readsItem_55 : decode cX6_readsItem 55 = .ok (.invokevirtual 140, 3) := by decide +kernel
theorem dX6_readsItem_58 : decode cX6_readsItem 58 = .ok (.goto 23, 3) := by decide +kernel
theorem dX6_readsItem_61 : decode cX6_readsItem 61 = .ok (.lload_n 2, 1) := by decide +kernel
theorem dX6_readsItem_62 : decode cX6_readsItem 62 = .ok (.ldc2_w 143, 3) := by decide +kernel
theorem dX6_readsItem_65 : decode cX6_readsItem 65 = .ok (.lcmp, 1) := by decide +kernel
theorem dX6_readsItem_66 : decode cX6_readsItem 66 = .ok (.ifCond .ne 14, 3) := by decide +kernel
theorem dX6_readsItem_69 : decode cX6_readsItem 69 = .ok (.aload_n 0, 1) := by decide +kernel
theorem dX6_readsItem_70 : decode cX6_readsItem 70 = .ok (.invokevirtual 145, 3) := by decide +kernel
theorem dX6_readsItem_73 : decode cX6_readsItem 73 = .ok (.ifCond .eq 7, 3) := by decide +kernel
theorem dX6_readsItem_76 : decode cX6_readsItem 76 = .ok (.iconst 1, 1) := by decide +kernel
theorem dX6_readsItem_77 : decode cX6_readsItem 77 = .ok (.goto 4, 3) := by decide +kernel
theorem dX6_readsItem_80 : decode cX6_readsItem 80 = .ok (.iconst 0, 1) := by decide +kernel
theorem dX6_readsItem_81 : decode cX6_readsItem 81 = .ok (.ireturn, 1) := by decide +kernel
set_option maxRecDepth 20000 in
theorem ggX6_read_X6_begins : GoodIn wsX6_read wsX6_begins := goodIn_r _ [9] (by decide +kernel) (by decide +kernel)
set_option maxRecDepth 20000 in
theorem gX6_read_X6_begins : GoodIn wsX6_read (va_wsS RX6 39 yX6_begins wsX6_begins) := goodIn_app (goodIn_of _ (by decide +kernel)) ggX6_read_X6_begins
set_option maxRecDepth 20000 in
theorem ggX6_read_X6_step : GoodIn wsX6_read wsX6_step := goodIn_r _ [13, 2, 4, 14, 15, 16, 17, 18, 19, 3, 20, 21, 22, 23, 24, 8, 25, 26, 27, 28, 29, 30, 66, 67, 68, 69, 70, 71, 72, 73, 74, 75, 76, 77, 78, 79, 80, 81, 82, 83, 84] (by decide +kernel) (by decide +kernel)
set_option maxRecDepth 20000 in
theorem gX6_read_X6_step : GoodIn wsX6_read (wsV RX6 122 RX6 yX6_step wsX6_step) := goodIn_app (goodIn_of _ (by decide +kernel)) ggX6_read_X6_step
set_option maxRecDepth 20000 in
theorem ggX6_read_X6_readsItem : GoodIn wsX6_read wsX6_readsItem := goodIn_r _ [34, 3, 14, 35, 36, 37, 38, 39, 40, 8, 41, 1, 15, 42, 43, 44, 45, 10, 11, 12, 13, 2, 4, 16, 17, 18, 19, 20, 21, 22, 23, 24, 25, 26, 27, 28, 29, 30, 46, 47, 48, 49, 50, 51, 52, 53, 54, 55, 56, 57, 58, 59, 60, 61, 62, 66, 67, 68, 69, 70, 71, 72, 73, 74, 75, 76, 77, 78, 79, 80, 81, 82, 83, 84] (by decide +kernel) (by decide +kernel)
set_option maxRecDepth 20000 in
theorem gX6_read_X6_readsItem : GoodIn wsX6_read (wsV RX6 148 RX6 yX6_readsItem wsX6_readsItem) := goodIn_app (goodIn_of _ (by decide +kernel)) ggX6_read_X6_readsItem
set_option maxRecDepth 20000 in
theorem ggX6_read_X6_copies : GoodIn wsX6_read wsX6_copies := goodIn_r _ [65] (by decide +kernel) (by decide +kernel)
set_option maxRecDepth 20000 in
theorem gX6_read_X6_copies : GoodIn wsX6_read (va_wsS RX6 152 yX6_copies wsX6_copies) := goodIn_app (goodIn_of _ (by decide +kernel)) ggX6_read_X6_copies
theorem dX6_read_0 : decode cX6_read 0 = .ok (.aload_n 0, 1) := by decide +kernel
theorem dX6_read_1 : decode cX6_read 1 = .ok (.getfield 13, 3) := by decide +kernel
theorem dX6_read_4 : decode cX6_read 4 = .ok (.iconst 0, 1) := by decide +kernel
theorem dX6_read_5 : decode cX6_read 5 = .ok (.invokestatic 39, 3) := by decide +kernel
theorem dX6_read_8 : decode cX6_read 8 = .ok (.aload_n 0, 1) := by decide +kernel
theorem dX6_read_9 : decode cX6_read 9 = .ok (.iconst 0, 1) := by decide +kernel
theorem dX6_read_10 : decode cX6_read 10 = .ok (.putfield 92, 3) := by decide +kernel
theorem dX6_read_13 : decode cX6_read 13 = .ok (.iconst 0, 1) := by decide +kernel
theorem dX6_read_14 : decode cX6_read 14 = .ok (.istore_n 1, 1) := by decide +kernel
theorem dX6_read_15 : decode cX6_read 15 = .ok (.aload_n 0, 1) := by decide +kernel
theorem dX6_read_16 : decode cX6_read 16 = .ok (.invokevirtual 122, 3) := by decide +kernel
theorem dX6_read_19 : decode cX6_read 19 = .ok (.iload_n 1, 1) := by decide +kernel
theorem dX6_read_20 : decode cX6_read 20 = .ok (.ifCond .eq 10, 3) := by decide +kernel
theorem dX6_read_23 : decode cX6_read 23 = .ok (.aload_n 0, 1) := by decide +kernel
theorem dX6_read_24 : decode cX6_read 24 = .ok (.getfield 115, 3) := by decide +kernel
theorem dX6_read_27 : decode cX6_read 27 = .ok (.ifCond .eq 57, 3) := by decide +kernel
theorem dX6_read_30 : decode cX6_read 30 = .ok (.aload_n 0, 1) := by decide +kernel
theorem dX6_read_31 : decode cX6_read 31 = .ok (.iload_n 1, 1) := by decide +kernel
theorem dX6_read_32 : decode cX6_read 32 = .ok (.ifCond .ne 7, 3) := by decide +kernel
theorem dX6_read_35 : decode cX6_read 35 = .ok (.iconst 1, 1) := by decide +kernel
theorem dX6_read_36 : decode cX6_read 36 = .ok (.goto 4, 3) := by decide +kernel
theorem dX6_read_39 : decode cX6_read 39 = .ok (.iconst 0, 1) := by decide +kernel
theorem dX6_read_40 : decode cX6_read 40 = .ok (.invokevirtual 148, 3) := by decide +kernel
theorem dX6_read_43 : decode cX6_read 43 = .ok (.ifCond .ne 11, 3) := by decide +kernel
theorem dX6_read_46 : decode cX6_read 46 = .ok (.bipush (-10), 2) := by decide +kernel
theorem dX6_read_48 : decode cX6_read 48 = .ok (.aload_n 0, 1) := by decide +kernel
theorem dX6_read_49 : decode cX6_read 49 = .ok (.getfield 98, 3) := by decide +kernel
theorem dX6_read_52 : decode cX6_read 52 = .ok (.isub, 1) := by decide +kernel
theorem dX6_read_53 : decode cX6_read 53 = .ok (.ireturn, 1) := by decide +kernel
theorem dX6_read_54 : decode cX6_read 54 = .ok (.aload_n 0, 1) := by decide +kernel
theorem dX6_read_55 : decode cX6_read 55 = .ok (.invokevirtual 122, 3) := by decide +kernel
theorem dX6_read_58 : decode cX6_read 58 = .ok (.aload_n 0, 1) := by decide +kernel
theorem dX6_read_59 : decode cX6_read 59 = .ok (.getfield 115, 3) := by decide +kernel
theorem dX6_read_62 : decode cX6_read 62 = .ok (.iconst 3, 1) := by decide +kernel
theorem dX6_read_63 : decode cX6_read 63 = .ok (.if_icmp .eq 11, 3) := by decide +kernel
theorem dX6_read_66 : decode cX6_read 66 = .ok (.bipush (-10), 2) := by decide +kernel
theorem dX6_read_68 : decode cX6_read 68 = .ok (.aload_n 0, 1) := by decide +kernel
theorem dX6_read_69 : decode cX6_read 69 = .ok (.getfield 98, 3) := by decide +kernel
theorem dX6_read_72 : decode cX6_read 72 = .ok (.isub, 1) := by decide +kernel
theorem dX6_read_73 : decode cX6_read 73 = .ok (.ireturn, 1) := by decide +kernel
theorem dX6_read_74 : decode cX6_read 74 = .ok (.iinc 1 1, 3) := by decide +kernel
theorem dX6_read_77 : decode cX6_read 77 = .ok (.aload_n 0, 1) := by decide +kernel
theorem dX6_read_78 : decode cX6_read 78 = .ok (.invokevirtual 122, 3) := by decide +kernel
theorem dX6_read_81 : decode cX6_read 81 = .ok (.goto (-62), 3) := by decide +kernel
theorem dX6_read_84 : decode cX6_read 84 = .ok (.aload_n 0, 1) := by decide +kernel
theorem dX6_read_85 : decode cX6_read 85 = .ok (.getfield 13, 3) := by decide +kernel
theorem dX6_read_88 : decode cX6_read 88 = .ok (.iconst 0, 1) := by decide +kernel
theorem dX6_read_89 : decode cX6_read 89 = .ok (.aload_n 0, 1) := by decide +kernel
theorem dX6_read_90 : decode cX6_read 90 = .ok (.getfield 7, 3) := by decide +kernel
theorem dX6_read_93 : decode cX6_read 93 = .ok (.iconst 0, 1) := by decide +kernel
theorem dX6_read_94 : decode cX6_read 94 = .ok (.sipush 255, 3) := by decide +kernel
theorem dX6_read_97 : decode cX6_read 97 = .ok (.invokestatic 152, 3) := by decide +kernel
theorem dX6_read_100 : decode cX6_read 100 = .ok (.iload_n 1, 1) := by decide +kernel
theorem dX6_read_101 : decode cX6_read 101 = .ok (.ireturn, 1) := by decide +kernel
set_option maxRecDepth 20000 in
theorem ggX6_nearAs_X6_lesser : GoodIn wsX6_nearAs wsX6_lesser := goodIn_r _ [4] (by decide +kernel) (by decide +kernel)
set_option maxRecDepth 20000 in
theorem gX6_nearAs_X6_lesser : GoodIn wsX6_nearAs (va_wsS RX6 128 yX6_lesser wsX6_lesser) := goodIn_app (goodIn_of _ (by decide +kernel)) ggX6_nearAs_X6_lesser
theorem dX6_nearAs_0 : decode cX6_nearAs 0 = .ok (.iload_n 1, 1) := by decide +kernel
theorem dX6_nearAs_1 : decode cX6_nearAs 1 = .ok (.iconst 3, 1) := by decide +kernel
theorem dX6_nearAs_2 : decode cX6_nearAs 2 = .ok (.iload_n 2, 1) := by decide +kernel
theorem dX6_nearAs_3 : decode cX6_nearAs 3 = .ok (.imul, 1) := by decide +kernel
theorem dX6_nearAs_4 : decode cX6_nearAs 4 = .ok (.iadd, 1) := by decide +kernel
theorem dX6_nearAs_5 : decode cX6_nearAs 5 = .ok (.iload_n 3, 1) := by decide +kernel
theorem dX6_nearAs_6 : decode cX6_nearAs 6 = .ok (.iconst 2, 1) := by decide +kernel
theorem dX6_nearAs_7 : decode cX6_nearAs 7 = .ok (.idiv, 1) := by decide +kernel
theorem dX6_nearAs_8 : decode cX6_nearAs 8 = .ok (.isub, 1) := by decide +kernel
theorem dX6_nearAs_9 : decode cX6_nearAs 9 = .ok (.istore 6, 2) := by decide +kernel
theorem dX6_nearAs_11 : decode cX6_nearAs 11 = .ok (.iload 6, 2) := by decide +kernel
theorem dX6_nearAs_13 : decode cX6_nearAs 13 = .ok (.ifCond .ge 7, 3) := by decide +kernel
theorem dX6_nearAs_16 : decode cX6_nearAs 16 = .ok (.iconst 0, 1) := by decide +kernel
theorem dX6_nearAs_17 : decode cX6_nearAs 17 = .ok (.goto 5, 3) := by decide +kernel
theorem dX6_nearAs_20 : decode cX6_nearAs 20 = .ok (.iload 6, 2) := by decide +kernel
theorem dX6_nearAs_22 : decode cX6_nearAs 22 = .ok (.istore 6, 2) := by decide +kernel
theorem dX6_nearAs_24 : decode cX6_nearAs 24 = .ok (.iload 6, 2) := by decide +kernel
theorem dX6_nearAs_26 : decode cX6_nearAs 26 = .ok (.iload_n 3, 1) := by decide +kernel
theorem dX6_nearAs_27 : decode cX6_nearAs 27 = .ok (.iconst 2, 1) := by decide +kernel
theorem dX6_nearAs_28 : decode cX6_nearAs 28 = .ok (.idiv, 1) := by decide +kernel
theorem dX6_nearAs_29 : decode cX6_nearAs 29 = .ok (.invokestatic 128, 3) := by decide +kernel
theorem dX6_nearAs_32 : decode cX6_nearAs 32 = .ok (.istore 7, 2) := by decide +kernel
theorem dX6_nearAs_34 : decode cX6_nearAs 34 = .ok (.iload_n 0, 1) := by decide +kernel
theorem dX6_nearAs_35 : decode cX6_nearAs 35 = .ok (.tableswitch 67 1 5 #[33, 38, 41, 49, 62], 33) := by decide +kernel
theorem dX6_nearAs_68 : decode cX6_nearAs 68 = .ok (.iload 6, 2) := by decide +kernel
theorem dX6_nearAs_70 : decode cX6_nearAs 70 = .ok (.iconst 4, 1) := by decide +kernel
theorem dX6_nearAs_71 : decode cX6_nearAs 71 = .ok (.iadd, 1) := by decide +kernel
theorem dX6_nearAs_72 : decode cX6_nearAs 72 = .ok (.ireturn, 1) := by decide +kernel
theorem dX6_nearAs_73 : decode cX6_nearAs 73 = .ok (.iload 7, 2) := by decide +kernel
theorem dX6_nearAs_75 : decode cX6_nearAs 75 = .ok (.ireturn, 1) := by decide +kernel
theorem dX6_nearAs_76 : decode cX6_nearAs 76 = .ok (.iload 6, 2) := by decide +kernel
theorem dX6_nearAs_78 : decode cX6_nearAs 78 = .ok (.iconst 3, 1) := by decide +kernel
theorem dX6_nearAs_79 : decode cX6_nearAs 79 = .ok (.iload 5, 2) := by decide +kernel
theorem dX6_nearAs_81 : decode cX6_nearAs 81 = .ok (.imul, 1) := by decide +kernel
theorem dX6_nearAs_82 : decode cX6_nearAs 82 = .ok (.iadd, 1) := by decide +kernel
theorem dX6_nearAs_83 : decode cX6_nearAs 83 = .ok (.ireturn, 1) := by decide +kernel
theorem dX6_nearAs_84 : decode cX6_nearAs 84 = .ok (.iload 6, 2) := by decide +kernel
theorem dX6_nearAs_86 : decode cX6_nearAs 86 = .ok (.iconst 3, 1) := by decide +kernel
theorem dX6_nearAs_87 : decode cX6_nearAs 87 = .ok (.iload 5, 2) := by decide +kernel
theorem dX6_nearAs_89 : decode cX6_nearAs 89 = .ok (.imul, 1) := by decide +kernel
theorem dX6_nearAs_90 : decode cX6_nearAs 90 = .ok (.iadd, 1) := by decide +kernel
theorem dX6_nearAs_91 : decode cX6_nearAs 91 = .ok (.iconst 2, 1) := by decide +kernel
theorem dX6_nearAs_92 : decode cX6_nearAs 92 = .ok (.iload 4, 2) := by decide +kernel
theorem dX6_nearAs_94 : decode cX6_nearAs 94 = .ok (.imul, 1) := by decide +kernel
theorem dX6_nearAs_95 : decode cX6_nearAs 95 = .ok (.iadd, 1) := by decide +kernel
theorem dX6_nearAs_96 : decode cX6_nearAs 96 = .ok (.ireturn, 1) := by decide +kernel
theorem dX6_nearAs_97 : decode cX6_nearAs 97 = .ok (.iload 7, 2) := by decide +kernel
theorem dX6_nearAs_99 : decode cX6_nearAs 99 = .ok (.iconst 2, 1) := by decide +kernel
theorem dX6_nearAs_100 : decode cX6_nearAs 100 = .ok (.idiv, 1) := by decide +kernel
theorem dX6_nearAs_101 : decode cX6_nearAs 101 = .ok (.ireturn, 1) := by decide +kernel
theorem dX6_nearAs_102 : decode cX6_nearAs 102 = .ok (.iload 6, 2) := by decide +kernel
theorem dX6_nearAs_104 : decode cX6_nearAs 104 = .ok (.ireturn, 1) := by decide +kernel
set_option maxRecDepth 20000 in
theorem ggX6_tight_X6_whoIs : GoodIn wsX6_tight wsX6_whoIs := goodIn_r _ [4] (by decide +kernel) (by decide +kernel)
set_option maxRecDepth 20000 in
theorem gX6_tight_X6_whoIs : GoodIn wsX6_tight (va_wsS RX6 73 yX6_whoIs wsX6_whoIs) := goodIn_app (goodIn_of _ (by decide +kernel)) ggX6_tight_X6_whoIs
theorem dX6_tight_0 : decode cX6_tight 0 = .ok (.aload_n 0, 1) := by decide +kernel
theorem dX6_tight_1 : decode cX6_tight 1 = .ok (.aload_n 0, 1) := by decide +kernel
theorem dX6_tight_2 : decode cX6_tight 2 = .ok (.iconst 0, 1) := by decide +kernel
theorem dX6_tight_3 : decode cX6_tight 3 = .ok (.iload_n 1, 1) := by decide +kernel
theorem dX6_tight_4 : decode cX6_tight 4 = .ok (.iadd, 1) := by decide +kernel
theorem dX6_tight_5 : decode cX6_tight 5 = .ok (.iaload, 1) := by decide +kernel
theorem dX6_tight_6 : decode cX6_tight 6 = .ok (.iconst 1, 1) := by decide +kernel
theorem dX6_tight_7 : decode cX6_tight 7 = .ok (.iadd, 1) := by decide +kernel
theorem dX6_tight_8 : decode cX6_tight 8 = .ok (.bipush 8, 2) := by decide +kernel
theorem dX6_tight_10 : decode cX6_tight 10 = .ok (.irem, 1) := by decide +kernel
theorem dX6_tight_11 : decode cX6_tight 11 = .ok (.invokestatic 73, 3) := by decide +kernel
theorem dX6_tight_14 : decode cX6_tight 14 = .ok (.istore_n 2, 1) := by decide +kernel
theorem dX6_tight_15 : decode cX6_tight 15 = .ok (.aload_n 0, 1) := by decide +kernel
theorem dX6_tight_16 : decode cX6_tight 16 = .ok (.aload_n 0, 1) := by decide +kernel
theorem dX6_tight_17 : decode cX6_tight 17 = .ok (.iconst 0, 1) := by decide +kernel
theorem dX6_tight_18 : decode cX6_tight 18 = .ok (.iload_n 1, 1) := by decide +kernel
theorem dX6_tight_19 : decode cX6_tight 19 = .ok (.iadd, 1) := by decide +kernel
theorem dX6_tight_20 : decode cX6_tight 20 = .ok (.iaload, 1) := by decide +kernel
theorem dX6_tight_21 : decode cX6_tight 21 = .ok (.bipush 7, 2) := by decide +kernel
theorem dX6_tight_23 : decode cX6_tight 23 = .ok (.iadd, 1) := by decide +kernel
theorem dX6_tight_24 : decode cX6_tight 24 = .ok (.bipush 8, 2) := by decide +kernel
theorem dX6_tight_26 : decode cX6_tight 26 = .ok (.irem, 1) := by decide +kernel
theorem dX6_tight_27 : decode cX6_tight 27 = .ok (.invokestatic 73, 3) := by decide +kernel
theorem dX6_tight_30 : decode cX6_tight 30 = .ok (.istore_n 3, 1) := by decide +kernel
theorem dX6_tight_31 : decode cX6_tight 31 = .ok (.iload_n 2, 1) := by decide +kernel
theorem dX6_tight_32 : decode cX6_tight 32 = .ok (.iconst (-1), 1) := by decide +kernel
theorem dX6_tight_33 : decode cX6_tight 33 = .ok (.if_icmp .ne 7, 3) := by decide +kernel
theorem dX6_tight_36 : decode cX6_tight 36 = .ok (.iconst 0, 1) := by decide +kernel
theorem dX6_tight_37 : decode cX6_tight 37 = .ok (.goto 4, 3) := by decide +kernel
theorem dX6_tight_40 : decode cX6_tight 40 = .ok (.iconst 1, 1) := by decide +kernel
theorem dX6_tight_41 : decode cX6_tight 41 = .ok (.iload_n 3, 1) := by decide +kernel
theorem dX6_tight_42 : decode cX6_tight 42 = .ok (.iconst (-1), 1) := by decide +kernel
theorem dX6_tight_43 : decode cX6_tight 43 = .ok (.if_icmp .ne 7, 3) := by decide +kernel
theorem dX6_tight_46 : decode cX6_tight 46 = .ok (.iconst 0, 1) := by decide +kernel
theorem dX6_tight_47 : decode cX6_tight 47 = .ok (.goto 4, 3) := by decide +kernel
theorem dX6_tight_50 : decode cX6_tight 50 = .ok (.iconst 1, 1) := by decide +kernel
theorem dX6_tight_51 : decode cX6_tight 51 = .ok (.iadd, 1) := by decide +kernel
theorem dX6_tight_52 : decode cX6_tight 52 = .ok (.ireturn, 1) := by decide +kernel
set_option maxRecDepth 20000 in
theorem ggX6_nearOf_X6_tight : GoodIn wsX6_nearOf wsX6_tight := goodIn_r _ [4, 5, 6, 3, 7] (by decide +kernel) (by decide +kernel)
set_option maxRecDepth 20000 in
theorem gX6_nearOf_X6_tight : GoodIn wsX6_nearOf (va_wsS RX6 156 yX6_tight wsX6_tight) := goodIn_app (goodIn_of _ (by decide +kernel)) ggX6_nearOf_X6_tight
set_option maxRecDepth 20000 in
theorem ggX6_nearOf_X6_nearAs : GoodIn wsX6_nearOf wsX6_nearAs := goodIn_r _ [10, 11, 12, 3, 13] (by decide +kernel) (by decide +kernel)
set_option maxRecDepth 20000 in
theorem gX6_nearOf_X6_nearAs : GoodIn wsX6_nearOf (va_wsS RX6 159 yX6_nearAs wsX6_nearAs) := goodIn_app (goodIn_of _ (by decide +kernel)) ggX6_nearOf_X6_nearAs
theorem dX6_nearOf_0 : decode cX6_nearOf 0 = .ok (.aload_n 0, 1) := by decide +kernel
theorem dX6_nearOf_1 : decode cX6_nearOf 1 = .ok (.bipush 23, 2) := by decide +kernel
theorem dX6_nearOf_3 : decode cX6_nearOf 3 = .ok (.iload_n 1, 1) := by decide +kernel
theorem dX6_nearOf_4 : decode cX6_nearOf 4 = .ok (.iadd, 1) := by decide +kernel
theorem dX6_nearOf_5 : decode cX6_nearOf 5 = .ok (.iaload, 1) := by decide +kernel
theorem dX6_nearOf_6 : decode cX6_nearOf 6 = .ok (.aload_n 0, 1) := by decide +kernel
theorem dX6_nearOf_7 : decode cX6_nearOf 7 = .ok (.bipush 6, 2) := by decide +kernel
theorem dX6_nearOf_9 : decode cX6_nearOf 9 = .ok (.iload_n 1, 1) := by decide +kernel
theorem dX6_nearOf_10 : decode cX6_nearOf 10 = .ok (.iadd, 1) := by decide +kernel
theorem dX6_nearOf_11 : decode cX6_nearOf 11 = .ok (.iaload, 1) := by decide +kernel
theorem dX6_nearOf_12 : decode cX6_nearOf 12 = .ok (.aload_n 0, 1) := by decide +kernel
theorem dX6_nearOf_13 : decode cX6_nearOf 13 = .ok (.iload_n 1, 1) := by decide +kernel
theorem dX6_nearOf_14 : decode cX6_nearOf 14 = .ok (.invokestatic 156, 3) := by decide +kernel
theorem dX6_nearOf_17 : decode cX6_nearOf 17 = .ok (.aload_n 0, 1) := by decide +kernel
theorem dX6_nearOf_18 : decode cX6_nearOf 18 = .ok (.bipush 29, 2) := by decide +kernel
theorem dX6_nearOf_20 : decode cX6_nearOf 20 = .ok (.iload_n 1, 1) := by decide +kernel
theorem dX6_nearOf_21 : decode cX6_nearOf 21 = .ok (.iadd, 1) := by decide +kernel
theorem dX6_nearOf_22 : decode cX6_nearOf 22 = .ok (.iaload, 1) := by decide +kernel
theorem dX6_nearOf_23 : decode cX6_nearOf 23 = .ok (.aload_n 0, 1) := by decide +kernel
theorem dX6_nearOf_24 : decode cX6_nearOf 24 = .ok (.bipush 12, 2) := by decide +kernel
theorem dX6_nearOf_26 : decode cX6_nearOf 26 = .ok (.iload_n 1, 1) := by decide +kernel
theorem dX6_nearOf_27 : decode cX6_nearOf 27 = .ok (.iadd, 1) := by decide +kernel
theorem dX6_nearOf_28 : decode cX6_nearOf 28 = .ok (.iaload, 1) := by decide +kernel
theorem dX6_nearOf_29 : decode cX6_nearOf 29 = .ok (.aload_n 0, 1) := by decide +kernel
theorem dX6_nearOf_30 : decode cX6_nearOf 30 = .ok (.bipush 19, 2) := by decide +kernel
theorem dX6_nearOf_32 : decode cX6_nearOf 32 = .ok (.iaload, 1) := by decide +kernel
theorem dX6_nearOf_33 : decode cX6_nearOf 33 = .ok (.invokestatic 159, 3) := by decide +kernel
theorem dX6_nearOf_36 : decode cX6_nearOf 36 = .ok (.ireturn, 1) := by decide +kernel
set_option maxRecDepth 20000 in
theorem ggX6_whom_X6_whoIs : GoodIn wsX6_whom wsX6_whoIs := goodIn_r _ [4] (by decide +kernel) (by decide +kernel)
set_option maxRecDepth 20000 in
theorem gX6_whom_X6_whoIs : GoodIn wsX6_whom (va_wsS RX6 73 yX6_whoIs wsX6_whoIs) := goodIn_app (goodIn_of _ (by decide +kernel)) ggX6_whom_X6_whoIs
theorem dX6_whom_0 : decode cX6_whom 0 = .ok (.aload_n 0, 1) := by decide +kernel
theorem dX6_whom_1 : decode cX6_whom 1 = .ok (.aload_n 0, 1) := by decide +kernel
theorem dX6_whom_2 : decode cX6_whom 2 = .ok (.iconst 0, 1) := by decide +kernel
theorem dX6_whom_3 : decode cX6_whom 3 = .ok (.iload_n 1, 1) := by decide +kernel
theorem dX6_whom_4 : decode cX6_whom 4 = .ok (.iadd, 1) := by decide +kernel
theorem dX6_whom_5 : decode cX6_whom 5 = .ok (.iaload, 1) := by decide +kernel
theorem dX6_whom_6 : decode cX6_whom 6 = .ok (.iconst 1, 1) := by decide +kernel
theorem dX6_whom_7 : decode cX6_whom 7 = .ok (.iadd, 1) := by decide +kernel
theorem dX6_whom_8 : decode cX6_whom 8 = .ok (.bipush 8, 2) := by decide +kernel
theorem dX6_whom_10 : decode cX6_whom 10 = .ok (.irem, 1) := by decide +kernel
theorem dX6_whom_11 : decode cX6_whom 11 = .ok (.invokestatic 73, 3) := by decide +kernel
theorem dX6_whom_14 : decode cX6_whom 14 = .ok (.istore_n 2, 1) := by decide +kernel
theorem dX6_whom_15 : decode cX6_whom 15 = .ok (.iload_n 2, 1) := by decide +kernel
theorem dX6_whom_16 : decode cX6_whom 16 = .ok (.iconst (-1), 1) := by decide +kernel
theorem dX6_whom_17 : decode cX6_whom 17 = .ok (.if_icmp .ne 21, 3) := by decide +kernel
theorem dX6_whom_20 : decode cX6_whom 20 = .ok (.aload_n 0, 1) := by decide +kernel
theorem dX6_whom_21 : decode cX6_whom 21 = .ok (.aload_n 0, 1) := by decide +kernel
theorem dX6_whom_22 : decode cX6_whom 22 = .ok (.iconst 0, 1) := by decide +kernel
theorem dX6_whom_23 : decode cX6_whom 23 = .ok (.iload_n 1, 1) := by decide +kernel
theorem dX6_whom_24 : decode cX6_whom 24 = .ok (.iadd, 1) := by decide +kernel
theorem dX6_whom_25 : decode cX6_whom 25 = .ok (.iaload, 1) := by decide +kernel
theorem dX6_whom_26 : decode cX6_whom 26 = .ok (.bipush 7, 2) := by decide +kernel
theorem dX6_whom_28 : decode cX6_whom 28 = .ok (.iadd, 1) := by decide +kernel
theorem dX6_whom_29 : decode cX6_whom 29 = .ok (.bipush 8, 2) := by decide +kernel
theorem dX6_whom_31 : decode cX6_whom 31 = .ok (.irem, 1) := by decide +kernel
theorem dX6_whom_32 : decode cX6_whom 32 = .ok (.invokestatic 73, 3) := by decide +kernel
theorem dX6_whom_35 : decode cX6_whom 35 = .ok (.goto 4, 3) := by decide +kernel
theorem dX6_whom_38 : decode cX6_whom 38 = .ok (.iload_n 2, 1) := by decide +kernel
theorem dX6_whom_39 : decode cX6_whom 39 = .ok (.ireturn, 1) := by decide +kernel
theorem dX6_isGuarded_0 : decode cX6_isGuarded 0 = .ok (.aload_n 0, 1) := by decide +kernel
theorem dX6_isGuarded_1 : decode cX6_isGuarded 1 = .ok (.iconst 0, 1) := by decide +kernel
theorem dX6_isGuarded_2 : decode cX6_isGuarded 2 = .ok (.iload_n 1, 1) := by decide +kernel
theorem dX6_isGuarded_3 : decode cX6_isGuarded 3 = .ok (.iadd, 1) := by decide +kernel
theorem dX6_isGuarded_4 : decode cX6_isGuarded 4 = .ok (.iaload, 1) := by decide +kernel
theorem dX6_isGuarded_5 : decode cX6_isGuarded 5 = .ok (.bipush 8, 2) := by decide +kernel
theorem dX6_isGuarded_7 : decode cX6_isGuarded 7 = .ok (.iadd, 1) := by decide +kernel
theorem dX6_isGuarded_8 : decode cX6_isGuarded 8 = .ok (.aload_n 0, 1) := by decide +kernel
theorem dX6_isGuarded_9 : decode cX6_isGuarded 9 = .ok (.bipush 20, 2) := by decide +kernel
theorem dX6_isGuarded_11 : decode cX6_isGuarded 11 = .ok (.iaload, 1) := by decide +kernel
theorem dX6_isGuarded_12 : decode cX6_isGuarded 12 = .ok (.isub, 1) := by decide +kernel
theorem dX6_isGuarded_13 : decode cX6_isGuarded 13 = .ok (.bipush 8, 2) := by decide +kernel
theorem dX6_isGuarded_15 : decode cX6_isGuarded 15 = .ok (.irem, 1) := by decide +kernel
theorem dX6_isGuarded_16 : decode cX6_isGuarded 16 = .ok (.istore_n 2, 1) := by decide +kernel
theorem dX6_isGuarded_17 : decode cX6_isGuarded 17 = .ok (.iload_n 2, 1) := by decide +kernel
theorem dX6_isGuarded_18 : decode cX6_isGuarded 18 = .ok (.ifCond .eq 14, 3) := by decide +kernel
theorem dX6_isGuarded_21 : decode cX6_isGuarded 21 = .ok (.iload_n 2, 1) := by decide +kernel
theorem dX6_isGuarded_22 : decode cX6_isGuarded 22 = .ok (.iconst 1, 1) := by decide +kernel
theorem dX6_isGuarded_23 : decode cX6_isGuarded 23 = .ok (.if_icmp .eq 9, 3) := by decide +kernel
theorem dX6_isGuarded_26 : decode cX6_isGuarded 26 = .ok (.iload_n 2, 1) := by decide +kernel
theorem dX6_isGuarded_27 : decode cX6_isGuarded 27 = .ok (.bipush 7, 2) := by decide +kernel
theorem dX6_isGuarded_29 : decode cX6_isGuarded 29 = .ok (.if_icmp .ne 7, 3) := by decide +kernel
theorem dX6_isGuarded_32 : decode cX6_isGuarded 32 = .ok (.iconst 1, 1) := by decide +kernel
theorem dX6_isGuarded_33 : decode cX6_isGuarded 33 = .ok (.goto 4, 3) := by decide +kernel
theorem dX6_isGuarded_36 : decode cX6_isGuarded 36 = .ok (.iconst 0, 1) := by decide +kernel
theorem dX6_isGuarded_37 : decode cX6_isGuarded 37 = .ok (.ireturn, 1) := by decide +kernel
set_option maxRecDepth 20000 in
theorem ggX6_bites_X6_nearOf : GoodIn wsX6_bites wsX6_nearOf := goodIn_r _ [4, 5, 6, 3, 7, 8, 9, 10, 11, 12, 13, 14, 15, 16] (by decide +kernel) (by decide +kernel)
set_option maxRecDepth 20000 in
theorem gX6_bites_X6_nearOf : GoodIn wsX6_bites (va_wsS RX6 163 yX6_nearOf wsX6_nearOf) := goodIn_app (goodIn_of _ (by decide +kernel)) ggX6_bites_X6_nearOf
set_option maxRecDepth 20000 in
theorem ggX6_bites_X6_isGuarded : GoodIn wsX6_bites wsX6_isGuarded := goodIn_r _ [19] (by decide +kernel) (by decide +kernel)
set_option maxRecDepth 20000 in
theorem gX6_bites_X6_isGuarded : GoodIn wsX6_bites (va_wsS RX6 166 yX6_isGuarded wsX6_isGuarded) := goodIn_app (goodIn_of _ (by decide +kernel)) ggX6_bites_X6_isGuarded
set_option maxRecDepth 20000 in
theorem ggX6_bites_X6_whom : GoodIn wsX6_bites wsX6_whom := goodIn_r _ [22, 8, 9, 3, 10] (by decide +kernel) (by decide +kernel)
set_option maxRecDepth 20000 in
theorem gX6_bites_X6_whom : GoodIn wsX6_bites (va_wsS RX6 170 yX6_whom wsX6_whom) := goodIn_app (goodIn_of _ (by decide +kernel)) ggX6_bites_X6_whom
theorem dX6_bites_0 : decode cX6_bites 0 = .ok (.aload_n 0, 1) := by decide +kernel
theorem dX6_bites_1 : decode cX6_bites 1 = .ok (.iload_n 1, 1) := by decide +kernel
theorem dX6_bites_2 : decode cX6_bites 2 = .ok (.invokestatic 163, 3) := by decide +kernel
theorem dX6_bites_5 : decode cX6_bites 5 = .ok (.bipush 11, 2) := by decide +kernel
theorem dX6_bites_7 : decode cX6_bites 7 = .ok (.if_icmp .le 24, 3) := by decide +kernel
theorem dX6_bites_10 : decode cX6_bites 10 = .ok (.aload_n 0, 1) := by decide +kernel
theorem dX6_bites_11 : decode cX6_bites 11 = .ok (.iload_n 1, 1) := by decide +kernel
theorem dX6_bites_12 : decode cX6_bites 12 = .ok (.invokestatic 166, 3) := by decide +kernel
theorem dX6_bites_15 : decode cX6_bites 15 = .ok (.ifCond .ne 16, 3) := by decide +kernel
theorem dX6_bites_18 : decode cX6_bites 18 = .ok (.aload_n 0, 1) := by decide +kernel
theorem dX6_bites_19 : decode cX6_bites 19 = .ok (.iload_n 1, 1) := by decide +kernel
theorem dX6_bites_20 : decode cX6_bites 20 = .ok (.invokestatic 170, 3) := by decide +kernel
theorem dX6_bites_23 : decode cX6_bites 23 = .ok (.iconst (-1), 1) := by decide +kernel
theorem dX6_bites_24 : decode cX6_bites 24 = .ok (.if_icmp .eq 7, 3) := by decide +kernel
theorem dX6_bites_27 : decode cX6_bites 27 = .ok (.iconst 1, 1) := by decide +kernel
theorem dX6_bites_28 : decode cX6_bites 28 = .ok (.goto 4, 3) := by decide +kernel
theorem dX6_bites_31 : decode cX6_bites 31 = .ok (.iconst 0, 1) := by decide +kernel
theorem dX6_bites_32 : decode cX6_bites 32 = .ok (.ireturn, 1) := by decide +kernel
set_option maxRecDepth 20000 in
theorem ggX6_biters_X6_bites : GoodIn wsX6_biters wsX6_bites := goodIn_r _ [4, 5, 6, 3, 7, 8, 9, 10, 11, 12, 13, 14, 15, 16, 17, 18, 19, 20, 21, 22, 23, 24, 25] (by decide +kernel) (by decide +kernel)
set_option maxRecDepth 20000 in
theorem gX6_biters_X6_bites : GoodIn wsX6_biters (va_wsS RX6 173 yX6_bites wsX6_bites) := goodIn_app (goodIn_of _ (by decide +kernel)) ggX6_biters_X6_bites
theorem dX6_biters_0 : decode cX6_biters 0 = .ok (.iconst 0, 1) := by decide +kernel
theorem dX6_biters_1 : decode cX6_biters 1 = .ok (.istore_n 1, 1) := by decide +kernel
theorem dX6_biters_2 : decode cX6_biters 2 = .ok (.iconst 0, 1) := by decide +kernel
theorem dX6_biters_3 : decode cX6_biters 3 = .ok (.istore_n 2, 1) := by decide +kernel
theorem dX6_biters_4 : decode cX6_biters 4 = .ok (.iload_n 2, 1) := by decide +kernel
theorem dX6_biters_5 : decode cX6_biters 5 = .ok (.aload_n 0, 1) := by decide +kernel
theorem dX6_biters_6 : decode cX6_biters 6 = .ok (.bipush 22, 2) := by decide +kernel
theorem dX6_biters_8 : decode cX6_biters 8 = .ok (.iaload, 1) := by decide +kernel
theorem dX6_biters_9 : decode cX6_biters 9 = .ok (.if_icmp .ge 27, 3) := by decide +kernel
theorem dX6_biters_12 : decode cX6_biters 12 = .ok (.iload_n 1, 1) := by decide +kernel
theorem dX6_biters_13 : decode cX6_biters 13 = .ok (.aload_n 0, 1) := by decide +kernel
theorem dX6_biters_14 : decode cX6_biters 14 = .ok (.iload_n 2, 1) := by decide +kernel
theorem dX6_biters_15 : decode cX6_biters 15 = .ok (.invokestatic 173, 3) := by decide +kernel
theorem dX6_biters_18 : decode cX6_biters 18 = .ok (.ifCond .eq 9, 3) := by decide +kernel
theorem dX6_biters_21 : decode cX6_biters 21 = .ok (.iconst 1, 1) := by decide +kernel
theorem dX6_biters_22 : decode cX6_biters 22 = .ok (.iload_n 2, 1) := by decide +kernel
theorem dX6_biters_23 : decode cX6_biters 23 = .ok (.ishl, 1) := by decide +kernel
theorem dX6_biters_24 : decode cX6_biters 24 = .ok (.goto 4, 3) := by decide +kernel
theorem dX6_biters_27 : decode cX6_biters 27 = .ok (.iconst 0, 1) := by decide +kernel
theorem dX6_biters_28 : decode cX6_biters 28 = .ok (.ior, 1) := by decide +kernel
theorem dX6_biters_29 : decode cX6_biters 29 = .ok (.istore_n 1, 1) := by decide +kernel
theorem dX6_biters_30 : decode cX6_biters 30 = .ok (.iinc 2 1, 3) := by decide +kernel
theorem dX6_biters_33 : decode cX6_biters 33 = .ok (.goto (-29), 3) := by decide +kernel
theorem dX6_biters_36 : decode cX6_biters 36 = .ok (.iload_n 1, 1) := by decide +kernel
theorem dX6_biters_37 : decode cX6_biters 37 = .ok (.ireturn, 1) := by decide +kernel
set_option maxRecDepth 20000 in
theorem ggX6_goes_X6_biters : GoodIn wsX6_goes wsX6_biters := goodIn_r _ [4, 5, 6, 3, 7, 8, 9, 10, 11, 12, 13, 14, 15, 16, 17, 18, 19, 20, 21, 22, 23, 24, 25, 26, 27, 28] (by decide +kernel) (by decide +kernel)
set_option maxRecDepth 20000 in
theorem gX6_goes_X6_biters : GoodIn wsX6_goes (va_wsS RX6 176 yX6_biters wsX6_biters) := goodIn_app (goodIn_of _ (by decide +kernel)) ggX6_goes_X6_biters
set_option maxRecDepth 20000 in
theorem ggX6_goes_X6_has : GoodIn wsX6_goes wsX6_has := goodIn_r _ [31] (by decide +kernel) (by decide +kernel)
set_option maxRecDepth 20000 in
theorem gX6_goes_X6_has : GoodIn wsX6_goes (va_wsS RX6 180 yX6_has wsX6_has) := goodIn_app (goodIn_of _ (by decide +kernel)) ggX6_goes_X6_has
set_option maxRecDepth 20000 in
theorem ggX6_goes_X6_whom : GoodIn wsX6_goes wsX6_whom := goodIn_r _ [28, 14, 15, 3, 16] (by decide +kernel) (by decide +kernel)
set_option maxRecDepth 20000 in
theorem gX6_goes_X6_whom : GoodIn wsX6_goes (va_wsS RX6 170 yX6_whom wsX6_whom) := goodIn_app (goodIn_of _ (by decide +kernel)) ggX6_goes_X6_whom
set_option maxRecDepth 20000 in
theorem ggX6_goes_X6_lesser : GoodIn wsX6_goes wsX6_lesser := goodIn_r _ [22] (by decide +kernel) (by decide +kernel)
set_option maxRecDepth 20000 in
theorem gX6_goes_X6_lesser : GoodIn wsX6_goes (va_wsS RX6 128 yX6_lesser wsX6_lesser) := goodIn_app (goodIn_of _ (by decide +kernel)) ggX6_goes_X6_lesser
set_option maxRecDepth 20000 in
theorem ggX6_goes_X6_bits : GoodIn wsX6_goes wsX6_bits := goodIn_r _ [34] (by decide +kernel) (by decide +kernel)
set_option maxRecDepth 20000 in
theorem gX6_goes_X6_bits : GoodIn wsX6_goes (va_wsS RX6 184 yX6_bits wsX6_bits) := goodIn_app (goodIn_of _ (by decide +kernel)) ggX6_goes_X6_bits
theorem dX6_goes_0 : decode cX6_goes 0 = .ok (.aload_n 0, 1) := by decide +kernel
theorem dX6_goes_1 : decode cX6_goes 1 = .ok (.invokestatic 176, 3) := by decide +kernel
theorem dX6_goes_4 : decode cX6_goes 4 = .ok (.istore_n 1, 1) := by decide +kernel
theorem dX6_goes_5 : decode cX6_goes 5 = .ok (.iconst 0, 1) := by decide +kernel
theorem dX6_goes_6 : decode cX6_goes 6 = .ok (.istore_n 2, 1) := by decide +kernel
theorem dX6_goes_7 : decode cX6_goes 7 = .ok (.iload_n 2, 1) := by decide +kernel
theorem dX6_goes_8 : decode cX6_goes 8 = .ok (.aload_n 0, 1) := by decide +kernel
theorem dX6_goes_9 : decode cX6_goes 9 = .ok (.bipush 22, 2) := by decide +kernel
theorem dX6_goes_11 : decode cX6_goes 11 = .ok (.iaload, 1) := by decide +kernel
theorem dX6_goes_12 : decode cX6_goes 12 = .ok (.if_icmp .ge 73, 3) := by decide +kernel
theorem dX6_goes_15 : decode cX6_goes 15 = .ok (.iload_n 1, 1) := by decide +kernel
theorem dX6_goes_16 : decode cX6_goes 16 = .ok (.iload_n 2, 1) := by decide +kernel
theorem dX6_goes_17 : decode cX6_goes 17 = .ok (.invokestatic 180, 3) := by decide +kernel
theorem dX6_goes_20 : decode cX6_goes 20 = .ok (.ifCond .eq 34, 3) := by decide +kernel
theorem dX6_goes_23 : decode cX6_goes 23 = .ok (.aload_n 0, 1) := by decide +kernel
theorem dX6_goes_24 : decode cX6_goes 24 = .ok (.bipush 12, 2) := by decide +kernel
theorem dX6_goes_26 : decode cX6_goes 26 = .ok (.aload_n 0, 1) := by decide +kernel
theorem dX6_goes_27 : decode cX6_goes 27 = .ok (.iload_n 2, 1) := by decide +kernel
theorem dX6_goes_28 : decode cX6_goes 28 = .ok (.invokestatic 170, 3) := by decide +kernel
theorem dX6_goes_31 : decode cX6_goes 31 = .ok (.iadd, 1) := by decide +kernel
theorem dX6_goes_32 : decode cX6_goes 32 = .ok (.dup2, 1) := by decide +kernel
theorem dX6_goes_33 : decode cX6_goes 33 = .ok (.iaload, 1) := by decide +kernel
theorem dX6_goes_34 : decode cX6_goes 34 = .ok (.iconst 1, 1) := by decide +kernel
theorem dX6_goes_35 : decode cX6_goes 35 = .ok (.iadd, 1) := by decide +kernel
theorem dX6_goes_36 : decode cX6_goes 36 = .ok (.iastore, 1) := by decide +kernel
theorem dX6_goes_37 : decode cX6_goes 37 = .ok (.aload_n 0, 1) := by decide +kernel
theorem dX6_goes_38 : decode cX6_goes 38 = .ok (.bipush 6, 2) := by decide +kernel
theorem dX6_goes_40 : decode cX6_goes 40 = .ok (.iload_n 2, 1) := by decide +kernel
theorem dX6_goes_41 : decode cX6_goes 41 = .ok (.iadd, 1) := by decide +kernel
theorem dX6_goes_42 : decode cX6_goes 42 = .ok (.aload_n 0, 1) := by decide +kernel
theorem dX6_goes_43 : decode cX6_goes 43 = .ok (.bipush 6, 2) := by decide +kernel
theorem dX6_goes_45 : decode cX6_goes 45 = .ok (.iload_n 2, 1) := by decide +kernel
theorem dX6_goes_46 : decode cX6_goes 46 = .ok (.iadd, 1) := by decide +kernel
theorem dX6_goes_47 : decode cX6_goes 47 = .ok (.iaload, 1) := by decide +kernel
theorem dX6_goes_48 : decode cX6_goes 48 = .ok (.bipush 8, 2) := by decide +kernel
theorem dX6_goes_50 : decode cX6_goes 50 = .ok (.invokestatic 128, 3) := by decide +kernel
theorem dX6_goes_53 : decode cX6_goes 53 = .ok (.iastore, 1) := by decide +kernel
theorem dX6_goes_54 : decode cX6_goes 54 = .ok (.aload_n 0, 1) := by decide +kernel
theorem dX6_goes_55 : decode cX6_goes 55 = .ok (.bipush 6, 2) := by decide +kernel
theorem dX6_goes_57 : decode cX6_goes 57 = .ok (.iload_n 2, 1) := by decide +kernel
theorem dX6_goes_58 : decode cX6_goes 58 = .ok (.iadd, 1) := by decide +kernel
theorem dX6_goes_59 : decode cX6_goes 59 = .ok (.dup2, 1) := by decide +kernel
theorem dX6_goes_60 : decode cX6_goes 60 = .ok (.iaload, 1) := by decide +kernel
theorem dX6_goes_61 : decode cX6_goes 61 = .ok (.aload_n 0, 1) := by decide +kernel
theorem dX6_goes_62 : decode cX6_goes 62 = .ok (.bipush 6, 2) := by decide +kernel
theorem dX6_goes_64 : decode cX6_goes 64 = .ok (.iload_n 2, 1) := by decide +kernel
theorem dX6_goes_65 : decode cX6_goes 65 = .ok (.iadd, 1) := by decide +kernel
theorem dX6_goes_66 : decode cX6_goes 66 = .ok (.iaload, 1) := by decide +kernel
theorem dX6_goes_67 : decode cX6_goes 67 = .ok (.bipush 30, 2) := by decide +kernel
theorem dX6_goes_69 : decode cX6_goes 69 = .ok (.if_icmp .ge 7, 3) := by decide +kernel
theorem dX6_goes_72 : decode cX6_goes 72 = .ok (.iconst 1, 1) := by decide +kernel
theorem dX6_goes_73 : decode cX6_goes 73 = .ok (.goto 4, 3) := by decide +kernel
theorem dX6_goes_76 : decode cX6_goes 76 = .ok (.iconst 0, 1) := by decide +kernel
theorem dX6_goes_77 : decode cX6_goes 77 = .ok (.iadd, 1) := by decide +kernel
theorem dX6_goes_78 : decode cX6_goes 78 = .ok (.iastore, 1) := by decide +kernel
theorem dX6_goes_79 : decode cX6_goes 79 = .ok (.iinc 2 1, 3) := by decide +kernel
theorem dX6_goes_82 : decode cX6_goes 82 = .ok (.goto (-75), 3) := by decide +kernel
theorem dX6_goes_85 : decode cX6_goes 85 = .ok (.aload_n 0, 1) := by decide +kernel
theorem dX6_goes_86 : decode cX6_goes 86 = .ok (.bipush 19, 2) := by decide +kernel
theorem dX6_goes_88 : decode cX6_goes 88 = .ok (.iload_n 1, 1) := by decide +kernel
theorem dX6_goes_89 : decode cX6_goes 89 = .ok (.invokestatic 184, 3) := by decide +kernel
theorem dX6_goes_92 : decode cX6_goes 92 = .ok (.iastore, 1) := by decide +kernel
theorem dX6_goes_93 : decode cX6_goes 93 = .ok (.aload_n 0, 1) := by decide +kernel
theorem dX6_goes_94 : decode cX6_goes 94 = .ok (.bipush 18, 2) := by decide +kernel
theorem dX6_goes_96 : decode cX6_goes 96 = .ok (.dup2, 1) := by decide +kernel
theorem dX6_goes_97 : decode cX6_goes 97 = .ok (.iaload, 1) := by decide +kernel
theorem dX6_goes_98 : decode cX6_goes 98 = .ok (.aload_n 0, 1) := by decide +kernel
theorem dX6_goes_99 : decode cX6_goes 99 = .ok (.bipush 19, 2) := by decide +kernel
theorem dX6_goes_101 : decode cX6_goes 101 = .ok (.iaload, 1) := by decide +kernel
theorem dX6_goes_102 : decode cX6_goes 102 = .ok (.iadd, 1) := by decide +kernel
theorem dX6_goes_103 : decode cX6_goes 103 = .ok (.iastore, 1) := by decide +kernel
theorem dX6_goes_104 : decode cX6_goes 104 = .ok (.aload_n 0, 1) := by decide +kernel
theorem dX6_goes_105 : decode cX6_goes 105 = .ok (.bipush 21, 2) := by decide +kernel
theorem dX6_goes_107 : decode cX6_goes 107 = .ok (.dup2, 1) := by decide +kernel
theorem dX6_goes_108 : decode cX6_goes 108 = .ok (.iaload, 1) := by decide +kernel
theorem dX6_goes_109 : decode cX6_goes 109 = .ok (.iconst 1, 1) := by decide +kernel
theorem dX6_goes_110 : decode cX6_goes 110 = .ok (.iadd, 1) := by decide +kernel
theorem dX6_goes_111 : decode cX6_goes 111 = .ok (.iastore, 1) := by decide +kernel
theorem dX6_goes_112 : decode cX6_goes 112 = .ok (.return_, 1) := by decide +kernel
set_option maxRecDepth 20000 in
theorem ggX6_remember_X6_copies : GoodIn wsX6_remember wsX6_copies := goodIn_r _ [5] (by decide +kernel) (by decide +kernel)
set_option maxRecDepth 20000 in
theorem gX6_remember_X6_copies : GoodIn wsX6_remember (va_wsS RX6 152 yX6_copies wsX6_copies) := goodIn_app (goodIn_of _ (by decide +kernel)) ggX6_remember_X6_copies
theorem dX6_remember_0 : decode cX6_remember 0 = .ok (.aload_n 0, 1) := by decide +kernel
theorem dX6_remember_1 : decode cX6_remember 1 = .ok (.getfield 7, 3) := by decide +kernel
theorem dX6_remember_4 : decode cX6_remember 4 = .ok (.bipush 78, 2) := by decide +kernel
theorem dX6_remember_6 : decode cX6_remember 6 = .ok (.iaload, 1) := by decide +kernel
theorem dX6_remember_7 : decode cX6_remember 7 = .ok (.bipush 8, 2) := by decide +kernel
theorem dX6_remember_9 : decode cX6_remember 9 = .ok (.if_icmp .ne 50, 3) := by decide +kernel
theorem dX6_remember_12 : decode cX6_remember 12 = .ok (.iconst 0, 1) := by decide +kernel
theorem dX6_remember_13 : decode cX6_remember 13 = .ok (.istore_n 1, 1) := by decide +kernel
theorem dX6_remember_14 : decode cX6_remember 14 = .ok (.iload_n 1, 1) := by decide +kernel
theorem dX6_remember_15 : decode cX6_remember 15 = .ok (.sipush 154, 3) := by decide +kernel
theorem dX6_remember_18 : decode cX6_remember 18 = .ok (.if_icmp .ge 30, 3) := by decide +kernel
theorem dX6_remember_21 : decode cX6_remember 21 = .ok (.aload_n 0, 1) := by decide +kernel
theorem dX6_remember_22 : decode cX6_remember 22 = .ok (.getfield 7, 3) := by decide +kernel
theorem dX6_remember_25 : decode cX6_remember 25 = .ok (.bipush 79, 2) := by decide +kernel
theorem dX6_remember_27 : decode cX6_remember 27 = .ok (.iload_n 1, 1) := by decide +kernel
theorem dX6_remember_28 : decode cX6_remember 28 = .ok (.iadd, 1) := by decide +kernel
theorem dX6_remember_29 : decode cX6_remember 29 = .ok (.aload_n 0, 1) := by decide +kernel
theorem dX6_remember_30 : decode cX6_remember 30 = .ok (.getfield 7, 3) := by decide +kernel
theorem dX6_remember_33 : decode cX6_remember 33 = .ok (.bipush 79, 2) := by decide +kernel
theorem dX6_remember_35 : decode cX6_remember 35 = .ok (.iload_n 1, 1) := by decide +kernel
theorem dX6_remember_36 : decode cX6_remember 36 = .ok (.iadd, 1) := by decide +kernel
theorem dX6_remember_37 : decode cX6_remember 37 = .ok (.bipush 22, 2) := by decide +kernel
theorem dX6_remember_39 : decode cX6_remember 39 = .ok (.iadd, 1) := by decide +kernel
theorem dX6_remember_40 : decode cX6_remember 40 = .ok (.iaload, 1) := by decide +kernel
theorem dX6_remember_41 : decode cX6_remember 41 = .ok (.iastore, 1) := by decide +kernel
theorem dX6_remember_42 : decode cX6_remember 42 = .ok (.iinc 1 1, 3) := by decide +kernel
theorem dX6_remember_45 : decode cX6_remember 45 = .ok (.goto (-31), 3) := by decide +kernel
theorem dX6_remember_48 : decode cX6_remember 48 = .ok (.aload_n 0, 1) := by decide +kernel
theorem dX6_remember_49 : decode cX6_remember 49 = .ok (.getfield 7, 3) := by decide +kernel
theorem dX6_remember_52 : decode cX6_remember 52 = .ok (.bipush 78, 2) := by decide +kernel
theorem dX6_remember_54 : decode cX6_remember 54 = .ok (.dup2, 1) := by decide +kernel
theorem dX6_remember_55 : decode cX6_remember 55 = .ok (.iaload, 1) := by decide +kernel
theorem dX6_remember_56 : decode cX6_remember 56 = .ok (.iconst 1, 1) := by decide +kernel
theorem dX6_remember_57 : decode cX6_remember 57 = .ok (.isub, 1) := by decide +kernel
theorem dX6_remember_58 : decode cX6_remember 58 = .ok (.iastore, 1) := by decide +kernel
theorem dX6_remember_59 : decode cX6_remember 59 = .ok (.aload_n 0, 1) := by decide +kernel
theorem dX6_remember_60 : decode cX6_remember 60 = .ok (.getfield 7, 3) := by decide +kernel
theorem dX6_remember_63 : decode cX6_remember 63 = .ok (.iconst 0, 1) := by decide +kernel
theorem dX6_remember_64 : decode cX6_remember 64 = .ok (.aload_n 0, 1) := by decide +kernel
theorem dX6_remember_65 : decode cX6_remember 65 = .ok (.getfield 7, 3) := by decide +kernel
theorem dX6_remember_68 : decode cX6_remember 68 = .ok (.bipush 79, 2) := by decide +kernel
theorem dX6_remember_70 : decode cX6_remember 70 = .ok (.bipush 22, 2) := by decide +kernel
theorem dX6_remember_72 : decode cX6_remember 72 = .ok (.aload_n 0, 1) := by decide +kernel
theorem dX6_remember_73 : decode cX6_remember 73 = .ok (.getfield 7, 3) := by decide +kernel
theorem dX6_remember_76 : decode cX6_remember 76 = .ok (.bipush 78, 2) := by decide +kernel
theorem dX6_remember_78 : decode cX6_remember 78 = .ok (.iaload, 1) := by decide +kernel
theorem dX6_remember_79 : decode cX6_remember 79 = .ok (.imul, 1) := by decide +kernel
theorem dX6_remember_80 : decode cX6_remember 80 = .ok (.iadd, 1) := by decide +kernel
theorem dX6_remember_81 : decode cX6_remember 81 = .ok (.bipush 22, 2) := by decide +kernel
theorem dX6_remember_83 : decode cX6_remember 83 = .ok (.invokestatic 152, 3) := by decide +kernel
theorem dX6_remember_86 : decode cX6_remember 86 = .ok (.aload_n 0, 1) := by decide +kernel
theorem dX6_remember_87 : decode cX6_remember 87 = .ok (.getfield 7, 3) := by decide +kernel
theorem dX6_remember_90 : decode cX6_remember 90 = .ok (.bipush 78, 2) := by decide +kernel
theorem dX6_remember_92 : decode cX6_remember 92 = .ok (.dup2, 1) := by decide +kernel
theorem dX6_remember_93 : decode cX6_remember 93 = .ok (.iaload, 1) := by decide +kernel
theorem dX6_remember_94 : decode cX6_remember 94 = .ok (.iconst 1, 1) := by decide +kernel
theorem dX6_remember_95 : decode cX6_remember 95 = .ok (.iadd, 1) := by decide +kernel
theorem dX6_remember_96 : decode cX6_remember 96 = .ok (.iastore, 1) := by decide +kernel
theorem dX6_remember_97 : decode cX6_remember 97 = .ok (.return_, 1) := by decide +kernel
set_option maxRecDepth 20000 in
theorem ggX6_minute_X6_in : GoodIn wsX6_minute wsX6_in := goodIn_r _ [6] (by decide +kernel) (by decide +kernel)
set_option maxRecDepth 20000 in
theorem gX6_minute_X6_in : GoodIn wsX6_minute (va_wsS RX6 55 yX6_in wsX6_in) := goodIn_app (goodIn_of _ (by decide +kernel)) ggX6_minute_X6_in
set_option maxRecDepth 20000 in
theorem ggX6_minute_X6_bad : GoodIn wsX6_minute wsX6_bad := goodIn_r _ [10, 11, 55, 56, 57, 58, 59, 60, 61, 62, 63, 64, 65, 66, 67, 68, 69, 70, 71, 72, 73] (by decide +kernel) (by decide +kernel)
set_option maxRecDepth 20000 in
theorem gX6_minute_X6_bad : GoodIn wsX6_minute (wsV RX6 63 RX6 yX6_bad wsX6_bad) := goodIn_app (goodIn_of _ (by decide +kernel)) ggX6_minute_X6_bad
set_option maxRecDepth 20000 in
theorem ggX6_minute_X6_remember : GoodIn wsX6_minute wsX6_remember := goodIn_r _ [15, 2, 16, 17, 5, 18, 55, 56, 57, 58, 59, 60, 61, 62, 63, 64, 65, 66, 67, 68, 69, 70, 71, 72, 73] (by decide +kernel) (by decide +kernel)
set_option maxRecDepth 20000 in
theorem gX6_minute_X6_remember : GoodIn wsX6_minute (wsV RX6 190 RX6 yX6_remember wsX6_remember) := goodIn_app (goodIn_of _ (by decide +kernel)) ggX6_minute_X6_remember
set_option maxRecDepth 20000 in
theorem ggX6_minute_X6_goes : GoodIn wsX6_minute wsX6_goes := goodIn_r _ [21, 22, 23, 5, 24, 25, 26, 27, 28, 29, 30, 31, 32, 33, 34, 35, 36, 37, 38, 39, 40, 41, 42, 43, 44, 45, 46, 47, 48, 49, 50, 51, 52, 53, 54] (by decide +kernel) (by decide +kernel)
set_option maxRecDepth 20000 in
theorem gX6_minute_X6_goes : GoodIn wsX6_minute (va_wsS RX6 193 yX6_goes wsX6_goes) := goodIn_app (goodIn_of _ (by decide +kernel)) ggX6_minute_X6_goes
theorem dX6_minute_0 : decode cX6_minute 0 = .ok (.iload_n 1, 1) := by decide +kernel
theorem dX6_minute_1 : decode cX6_minute 1 = .ok (.i2l, 1) := by decide +kernel
theorem dX6_minute_2 : decode cX6_minute 2 = .ok (.lconst 1, 1) := by decide +kernel
theorem dX6_minute_3 : decode cX6_minute 3 = .ok (.ldc2_w 188, 3) := by decide +kernel
theorem dX6_minute_6 : decode cX6_minute 6 = .ok (.invokestatic 55, 3) := by decide +kernel
theorem dX6_minute_9 : decode cX6_minute 9 = .ok (.ifCond .ne 8, 3) := by decide +kernel
theorem dX6_minute_12 : decode cX6_minute 12 = .ok (.aload_n 0, 1) := by decide +kernel
theorem dX6_minute_13 : decode cX6_minute 13 = .ok (.invokevirtual 63, 3) := by decide +kernel
theorem dX6_minute_16 : decode cX6_minute 16 = .ok (.ireturn, 1) := by decide +kernel
theorem dX6_minute_17 : decode cX6_minute 17 = .ok (.aload_n 0, 1) := by decide +kernel
theorem dX6_minute_18 : decode cX6_minute 18 = .ok (.invokevirtual 190, 3) := by decide +kernel
theorem dX6_minute_21 : decode cX6_minute 21 = .ok (.aload_n 0, 1) := by decide +kernel
theorem dX6_minute_22 : decode cX6_minute 22 = .ok (.getfield 7, 3) := by decide +kernel
theorem dX6_minute_25 : decode cX6_minute 25 = .ok (.bipush 18, 2) := by decide +kernel
theorem dX6_minute_27 : decode cX6_minute 27 = .ok (.iaload, 1) := by decide +kernel
theorem dX6_minute_28 : decode cX6_minute 28 = .ok (.istore_n 2, 1) := by decide +kernel
theorem dX6_minute_29 : decode cX6_minute 29 = .ok (.iconst 0, 1) := by decide +kernel
theorem dX6_minute_30 : decode cX6_minute 30 = .ok (.istore_n 3, 1) := by decide +kernel
theorem dX6_minute_31 : decode cX6_minute 31 = .ok (.iload_n 3, 1) := by decide +kernel
theorem dX6_minute_32 : decode cX6_minute 32 = .ok (.iload_n 1, 1) := by decide +kernel
theorem dX6_minute_33 : decode cX6_minute 33 = .ok (.if_icmp .ge 29, 3) := by decide +kernel
theorem dX6_minute_36 : decode cX6_minute 36 = .ok (.aload_n 0, 1) := by decide +kernel
theorem dX6_minute_37 : decode cX6_minute 37 = .ok (.getfield 7, 3) := by decide +kernel
theorem dX6_minute_40 : decode cX6_minute 40 = .ok (.bipush 21, 2) := by decide +kernel
theorem dX6_minute_42 : decode cX6_minute 42 = .ok (.iaload, 1) := by decide +kernel
theorem dX6_minute_43 : decode cX6_minute 43 = .ok (.sipush 999, 3) := by decide +kernel
theorem dX6_minute_46 : decode cX6_minute 46 = .ok (.if_icmp .ge 16, 3) := by decide +kernel
theorem dX6_minute_49 : decode cX6_minute 49 = .ok (.aload_n 0, 1) := by decide +kernel
theorem dX6_minute_50 : decode cX6_minute 50 = .ok (.getfield 7, 3) := by decide +kernel
theorem dX6_minute_53 : decode cX6_minute 53 = .ok (.invokestatic 193, 3) := by decide +kernel
theorem dX6_minute_56 : decode cX6_minute 56 = .ok (.iinc 3 1, 3) := by decide +kernel
theorem dX6_minute_59 : decode cX6_minute 59 = .ok (.goto (-28), 3) := by decide +kernel
theorem dX6_minute_62 : decode cX6_minute 62 = .ok (.aload_n 0, 1) := by decide +kernel
theorem dX6_minute_63 : decode cX6_minute 63 = .ok (.getfield 7, 3) := by decide +kernel
theorem dX6_minute_66 : decode cX6_minute 66 = .ok (.bipush 18, 2) := by decide +kernel
theorem dX6_minute_68 : decode cX6_minute 68 = .ok (.iaload, 1) := by decide +kernel
theorem dX6_minute_69 : decode cX6_minute 69 = .ok (.iload_n 2, 1) := by decide +kernel
theorem dX6_minute_70 : decode cX6_minute 70 = .ok (.isub, 1) := by decide +kernel
theorem dX6_minute_71 : decode cX6_minute 71 = .ok (.ireturn, 1) := by decide +kernel
set_option maxRecDepth 20000 in
theorem ggX6_carrot_X6_isChild : GoodIn wsX6_carrot wsX6_isChild := goodIn_r _ [6, 1, 7, 8, 5, 9, 25, 26, 27, 28, 29, 30, 31, 32, 33, 34, 35, 36, 37, 38, 39, 40, 41, 42, 43] (by decide +kernel) (by decide +kernel)
set_option maxRecDepth 20000 in
theorem gX6_carrot_X6_isChild : GoodIn wsX6_carrot (wsV RX6 197 RX6 yX6_isChild wsX6_isChild) := goodIn_app (goodIn_of _ (by decide +kernel)) ggX6_carrot_X6_isChild
set_option maxRecDepth 20000 in
theorem ggX6_carrot_X6_bad : GoodIn wsX6_carrot wsX6_bad := goodIn_r _ [13, 14, 25, 26, 27, 28, 29, 30, 31, 32, 33, 34, 35, 36, 37, 38, 39, 40, 41, 42, 43] (by decide +kernel) (by decide +kernel)
set_option maxRecDepth 20000 in
theorem gX6_carrot_X6_bad : GoodIn wsX6_carrot (wsV RX6 63 RX6 yX6_bad wsX6_bad) := goodIn_app (goodIn_of _ (by decide +kernel)) ggX6_carrot_X6_bad
set_option maxRecDepth 20000 in
theorem ggX6_carrot_X6_remember : GoodIn wsX6_carrot wsX6_remember := goodIn_r _ [18, 1, 19, 20, 5, 21, 25, 26, 27, 28, 29, 30, 31, 32, 33, 34, 35, 36, 37, 38, 39, 40, 41, 42, 43] (by decide +kernel) (by decide +kernel)
set_option maxRecDepth 20000 in
theorem gX6_carrot_X6_remember : GoodIn wsX6_carrot (wsV RX6 190 RX6 yX6_remember wsX6_remember) := goodIn_app (goodIn_of _ (by decide +kernel)) ggX6_carrot_X6_remember
set_option maxRecDepth 20000 in
theorem ggX6_carrot_X6_lesser : GoodIn wsX6_carrot wsX6_lesser := goodIn_r _ [24] (by decide +kernel) (by decide +kernel)
set_option maxRecDepth 20000 in
theorem gX6_carrot_X6_lesser : GoodIn wsX6_carrot (va_wsS RX6 128 yX6_lesser wsX6_lesser) := goodIn_app (goodIn_of _ (by decide +kernel)) ggX6_carrot_X6_lesser
theorem dX6_carrot_0 : decode cX6_carrot 0 = .ok (.aload_n 0, 1) := by decide +kernel
theorem dX6_carrot_1 : decode cX6_carrot 1 = .ok (.iload_n 1, 1) := by decide +kernel
theorem dX6_carrot_2 : decode cX6_carrot 2 = .ok (.invokevirtual 197, 3) := by decide +kernel
theorem dX6_carrot_5 : decode cX6_carrot 5 = .ok (.ifCond .ne 8, 3) := by decide +kernel
theorem dX6_carrot_8 : decode cX6_carrot 8 = .ok (.aload_n 0, 1) := by decide +kernel
theorem dX6_carrot_9 : decode cX6_carrot 9 = .ok (.invokevirtual 63, 3) := by decide +kernel
theorem dX6_carrot_12 : decode cX6_carrot 12 = .ok (.ireturn, 1) := by decide +kernel
theorem dX6_carrot_13 : decode cX6_carrot 13 = .ok (.aload_n 0, 1) := by decide +kernel
theorem dX6_carrot_14 : decode cX6_carrot 14 = .ok (.invokevirtual 190, 3) := by decide +kernel
theorem dX6_carrot_17 : decode cX6_carrot 17 = .ok (.aload_n 0, 1) := by decide +kernel
theorem dX6_carrot_18 : decode cX6_carrot 18 = .ok (.getfield 7, 3) := by decide +kernel
theorem dX6_carrot_21 : decode cX6_carrot 21 = .ok (.bipush 6, 2) := by decide +kernel
theorem dX6_carrot_23 : decode cX6_carrot 23 = .ok (.iload_n 1, 1) := by decide +kernel
theorem dX6_carrot_24 : decode cX6_carrot 24 = .ok (.iadd, 1) := by decide +kernel
theorem dX6_carrot_25 : decode cX6_carrot 25 = .ok (.aload_n 0, 1) := by decide +kernel
theorem dX6_carrot_26 : decode cX6_carrot 26 = .ok (.getfield 7, 3) := by decide +kernel
theorem dX6_carrot_29 : decode cX6_carrot 29 = .ok (.bipush 6, 2) := by decide +kernel
theorem dX6_carrot_31 : decode cX6_carrot 31 = .ok (.iload_n 1, 1) := by decide +kernel
theorem dX6_carrot_32 : decode cX6_carrot 32 = .ok (.iadd, 1) := by decide +kernel
theorem dX6_carrot_33 : decode cX6_carrot 33 = .ok (.iaload, 1) := by decide +kernel
theorem dX6_carrot_34 : decode cX6_carrot 34 = .ok (.bipush 10, 2) := by decide +kernel
theorem dX6_carrot_36 : decode cX6_carrot 36 = .ok (.invokestatic 128, 3) := by decide +kernel
theorem dX6_carrot_39 : decode cX6_carrot 39 = .ok (.iastore, 1) := by decide +kernel
theorem dX6_carrot_40 : decode cX6_carrot 40 = .ok (.aload_n 0, 1) := by decide +kernel
theorem dX6_carrot_41 : decode cX6_carrot 41 = .ok (.getfield 7, 3) := by decide +kernel
theorem dX6_carrot_44 : decode cX6_carrot 44 = .ok (.bipush 6, 2) := by decide +kernel
theorem dX6_carrot_46 : decode cX6_carrot 46 = .ok (.iload_n 1, 1) := by decide +kernel
theorem dX6_carrot_47 : decode cX6_carrot 47 = .ok (.iadd, 1) := by decide +kernel
theorem dX6_carrot_48 : decode cX6_carrot 48 = .ok (.iaload, 1) := by decide +kernel
theorem dX6_carrot_49 : decode cX6_carrot 49 = .ok (.ireturn, 1) := by decide +kernel
set_option maxRecDepth 20000 in
theorem ggX6_moves_X6_isChild : GoodIn wsX6_moves wsX6_isChild := goodIn_r _ [6, 1, 7, 8, 5, 9, 34, 35, 36, 37, 38, 39, 40, 41, 42, 43, 44, 45, 46, 47, 48, 49, 50, 51, 52] (by decide +kernel) (by decide +kernel)
set_option maxRecDepth 20000 in
theorem gX6_moves_X6_isChild : GoodIn wsX6_moves (wsV RX6 197 RX6 yX6_isChild wsX6_isChild) := goodIn_app (goodIn_of _ (by decide +kernel)) ggX6_moves_X6_isChild
set_option maxRecDepth 20000 in
theorem ggX6_moves_X6_isSeat : GoodIn wsX6_moves wsX6_isSeat := goodIn_r _ [12, 13, 7, 8, 5, 9] (by decide +kernel) (by decide +kernel)
set_option maxRecDepth 20000 in
theorem gX6_moves_X6_isSeat : GoodIn wsX6_moves (va_wsS RX6 59 yX6_isSeat wsX6_isSeat) := goodIn_app (goodIn_of _ (by decide +kernel)) ggX6_moves_X6_isSeat
set_option maxRecDepth 20000 in
theorem ggX6_moves_X6_bad : GoodIn wsX6_moves wsX6_bad := goodIn_r _ [17, 18, 34, 35, 36, 37, 38, 39, 40, 41, 42, 43, 44, 45, 46, 47, 48, 49, 50, 51, 52] (by decide +kernel) (by decide +kernel)
set_option maxRecDepth 20000 in
theorem gX6_moves_X6_bad : GoodIn wsX6_moves (wsV RX6 63 RX6 yX6_bad wsX6_bad) := goodIn_app (goodIn_of _ (by decide +kernel)) ggX6_moves_X6_bad
set_option maxRecDepth 20000 in
theorem ggX6_moves_X6_whoIs : GoodIn wsX6_moves wsX6_whoIs := goodIn_r _ [21] (by decide +kernel) (by decide +kernel)
set_option maxRecDepth 20000 in
theorem gX6_moves_X6_whoIs : GoodIn wsX6_moves (va_wsS RX6 73 yX6_whoIs wsX6_whoIs) := goodIn_app (goodIn_of _ (by decide +kernel)) ggX6_moves_X6_whoIs
set_option maxRecDepth 20000 in
theorem ggX6_moves_X6_no : GoodIn wsX6_moves wsX6_no := goodIn_r _ [25, 26, 34, 35, 36, 37, 38, 39, 40, 41, 42, 43, 44, 45, 46, 47, 48, 49, 50, 51, 52] (by decide +kernel) (by decide +kernel)
set_option maxRecDepth 20000 in
theorem gX6_moves_X6_no : GoodIn wsX6_moves (wsV RX6 77 RX6 yX6_no wsX6_no) := goodIn_app (goodIn_of _ (by decide +kernel)) ggX6_moves_X6_no
set_option maxRecDepth 20000 in
theorem ggX6_moves_X6_remember : GoodIn wsX6_moves wsX6_remember := goodIn_r _ [30, 1, 31, 32, 5, 33, 34, 35, 36, 37, 38, 39, 40, 41, 42, 43, 44, 45, 46, 47, 48, 49, 50, 51, 52] (by decide +kernel) (by decide +kernel)
set_option maxRecDepth 20000 in
theorem gX6_moves_X6_remember : GoodIn wsX6_moves (wsV RX6 190 RX6 yX6_remember wsX6_remember) := goodIn_app (goodIn_of _ (by decide +kernel)) ggX6_moves_X6_remember
theorem dX6_moves_0 : decode cX6_moves 0 = .ok (.aload_n 0, 1) := by decide +kernel
theorem dX6_moves_1 : decode cX6_moves 1 = .ok (.iload_n 1, 1) := by decide +kernel
theorem dX6_moves_2 : decode cX6_moves 2 = .ok (.invokevirtual 197, 3) := by decide +kernel
theorem dX6_moves_5 : decode cX6_moves 5 = .ok (.ifCond .eq 10, 3) := by decide +kernel
theorem dX6_moves_8 : decode cX6_moves 8 = .ok (.iload_n 2, 1) := by decide +kernel
theorem dX6_moves_9 : decode cX6_moves 9 = .ok (.invokestatic 59, 3) := by decide +kernel
theorem dX6_moves_12 : decode cX6_moves 12 = .ok (.ifCond .ne 8, 3) := by decide +kernel
theorem dX6_moves_15 : decode cX6_moves 15 = .ok (.aload_n 0, 1) := by decide +kernel
theorem dX6_moves_16 : decode cX6_moves 16 = .ok (.invokevirtual 63, 3) := by decide +kernel
theorem dX6_moves_19 : decode cX6_moves 19 = .ok (.ireturn, 1) := by decide +kernel
theorem dX6_moves_20 : decode cX6_moves 20 = .ok (.aload_n 0, 1) := by decide +kernel
theorem dX6_moves_21 : decode cX6_moves 21 = .ok (.getfield 7, 3) := by decide +kernel
theorem dX6_moves_24 : decode cX6_moves 24 = .ok (.iload_n 2, 1) := by decide +kernel
theorem dX6_moves_25 : decode cX6_moves 25 = .ok (.invokestatic 73, 3) := by decide +kernel
theorem dX6_moves_28 : decode cX6_moves 28 = .ok (.istore_n 3, 1) := by decide +kernel
theorem dX6_moves_29 : decode cX6_moves 29 = .ok (.iload_n 3, 1) := by decide +kernel
theorem dX6_moves_30 : decode cX6_moves 30 = .ok (.iconst (-1), 1) := by decide +kernel
theorem dX6_moves_31 : decode cX6_moves 31 = .ok (.if_icmp .eq 13, 3) := by decide +kernel
theorem dX6_moves_34 : decode cX6_moves 34 = .ok (.iload_n 3, 1) := by decide +kernel
theorem dX6_moves_35 : decode cX6_moves 35 = .ok (.iload_n 1, 1) := by decide +kernel
theorem dX6_moves_36 : decode cX6_moves 36 = .ok (.if_icmp .eq 8, 3) := by decide +kernel
theorem dX6_moves_39 : decode cX6_moves 39 = .ok (.aload_n 0, 1) := by decide +kernel
theorem dX6_moves_40 : decode cX6_moves 40 = .ok (.invokevirtual 77, 3) := by decide +kernel
theorem dX6_moves_43 : decode cX6_moves 43 = .ok (.ireturn, 1) := by decide +kernel
theorem dX6_moves_44 : decode cX6_moves 44 = .ok (.aload_n 0, 1) := by decide +kernel
theorem dX6_moves_45 : decode cX6_moves 45 = .ok (.invokevirtual 190, 3) := by decide +kernel
theorem dX6_moves_48 : decode cX6_moves 48 = .ok (.aload_n 0, 1) := by decide +kernel
theorem dX6_moves_49 : decode cX6_moves 49 = .ok (.getfield 7, 3) := by decide +kernel
theorem dX6_moves_52 : decode cX6_moves 52 = .ok (.iconst 0, 1) := by decide +kernel
theorem dX6_moves_53 : decode cX6_moves 53 = .ok (.iload_n 1, 1) := by decide +kernel
theorem dX6_moves_54 : decode cX6_moves 54 = .ok (.iadd, 1) := by decide +kernel
theorem dX6_moves_55 : decode cX6_moves 55 = .ok (.iaload, 1) := by decide +kernel
theorem dX6_moves_56 : decode cX6_moves 56 = .ok (.istore 4, 2) := by decide +kernel
theorem dX6_moves_58 : decode cX6_moves 58 = .ok (.aload_n 0, 1) := by decide +kernel
theorem dX6_moves_59 : decode cX6_moves 59 = .ok (.getfield 7, 3) := by decide +kernel
theorem dX6_moves_62 : decode cX6_moves 62 = .ok (.iconst 0, 1) := by decide +kernel
theorem dX6_moves_63 : decode cX6_moves 63 = .ok (.iload_n 1, 1) := by decide +kernel
theorem dX6_moves_64 : decode cX6_moves 64 = .ok (.iadd, 1) := by decide +kernel
theorem dX6_moves_65 : decode cX6_moves 65 = .ok (.iload_n 2, 1) := by decide +kernel
theorem dX6_moves_66 : decode cX6_moves 66 = .ok (.iastore, 1) := by decide +kernel
theorem dX6_moves_67 : decode cX6_moves 67 = .ok (.iload 4, 2) := by decide +kernel
theorem dX6_moves_69 : decode cX6_moves 69 = .ok (.ireturn, 1) := by decide +kernel
set_option maxRecDepth 20000 in
theorem ggX6_woman_X6_isSeat : GoodIn wsX6_woman wsX6_isSeat := goodIn_r _ [5, 6, 7, 8, 4, 9] (by decide +kernel) (by decide +kernel)
set_option maxRecDepth 20000 in
theorem gX6_woman_X6_isSeat : GoodIn wsX6_woman (va_wsS RX6 59 yX6_isSeat wsX6_isSeat) := goodIn_app (goodIn_of _ (by decide +kernel)) ggX6_woman_X6_isSeat
set_option maxRecDepth 20000 in
theorem ggX6_woman_X6_bad : GoodIn wsX6_woman wsX6_bad := goodIn_r _ [13, 14, 22, 23, 24, 25, 26, 27, 28, 29, 30, 31, 32, 33, 34, 35, 36, 37, 38, 39, 40] (by decide +kernel) (by decide +kernel)
set_option maxRecDepth 20000 in
theorem gX6_woman_X6_bad : GoodIn wsX6_woman (wsV RX6 63 RX6 yX6_bad wsX6_bad) := goodIn_app (goodIn_of _ (by decide +kernel)) ggX6_woman_X6_bad
set_option maxRecDepth 20000 in
theorem ggX6_woman_X6_remember : GoodIn wsX6_woman wsX6_remember := goodIn_r _ [18, 1, 19, 20, 4, 21, 22, 23, 24, 25, 26, 27, 28, 29, 30, 31, 32, 33, 34, 35, 36, 37, 38, 39, 40] (by decide +kernel) (by decide +kernel)
set_option maxRecDepth 20000 in
theorem gX6_woman_X6_remember : GoodIn wsX6_woman (wsV RX6 190 RX6 yX6_remember wsX6_remember) := goodIn_app (goodIn_of _ (by decide +kernel)) ggX6_woman_X6_remember
theorem dX6_woman_0 : decode cX6_woman 0 = .ok (.iload_n 1, 1) := by decide +kernel
theorem dX6_woman_1 : decode cX6_woman 1 = .ok (.invokestatic 59, 3) := by decide +kernel
theorem dX6_woman_4 : decode cX6_woman 4 = .ok (.ifCond .ne 8, 3) := by decide +kernel
theorem dX6_woman_7 : decode cX6_woman 7 = .ok (.aload_n 0, 1) := by decide +kernel
theorem dX6_woman_8 : decode cX6_woman 8 = .ok (.invokevirtual 63, 3) := by decide +kernel
theorem dX6_woman_11 : decode cX6_woman 11 = .ok (.ireturn, 1) := by decide +kernel
theorem dX6_woman_12 : decode cX6_woman 12 = .ok (.aload_n 0, 1) := by decide +kernel
theorem dX6_woman_13 : decode cX6_woman 13 = .ok (.invokevirtual 190, 3) := by decide +kernel
theorem dX6_woman_16 : decode cX6_woman 16 = .ok (.aload_n 0, 1) := by decide +kernel
theorem dX6_woman_17 : decode cX6_woman 17 = .ok (.getfield 7, 3) := by decide +kernel
theorem dX6_woman_20 : decode cX6_woman 20 = .ok (.bipush 20, 2) := by decide +kernel
theorem dX6_woman_22 : decode cX6_woman 22 = .ok (.iaload, 1) := by decide +kernel
theorem dX6_woman_23 : decode cX6_woman 23 = .ok (.istore_n 2, 1) := by decide +kernel
theorem dX6_woman_24 : decode cX6_woman 24 = .ok (.aload_n 0, 1) := by decide +kernel
theorem dX6_woman_25 : decode cX6_woman 25 = .ok (.getfield 7, 3) := by decide +kernel
theorem dX6_woman_28 : decode cX6_woman 28 = .ok (.bipush 20, 2) := by decide +kernel
theorem dX6_woman_30 : decode cX6_woman 30 = .ok (.iload_n 1, 1) := by decide +kernel
theorem dX6_woman_31 : decode cX6_woman 31 = .ok (.iastore, 1) := by decide +kernel
theorem dX6_woman_32 : decode cX6_woman 32 = .ok (.iload_n 2, 1) := by decide +kernel
theorem dX6_woman_33 : decode cX6_woman 33 = .ok (.ireturn, 1) := by decide +kernel
set_option maxRecDepth 20000 in
theorem ggX6_undo_X6_no : GoodIn wsX6_undo wsX6_no := goodIn_r _ [6, 7, 11, 12, 13, 14, 15, 16, 17, 18, 19, 20, 21, 22, 23, 24, 25, 26, 27, 28, 29] (by decide +kernel) (by decide +kernel)
set_option maxRecDepth 20000 in
theorem gX6_undo_X6_no : GoodIn wsX6_undo (wsV RX6 77 RX6 yX6_no wsX6_no) := goodIn_app (goodIn_of _ (by decide +kernel)) ggX6_undo_X6_no
set_option maxRecDepth 20000 in
theorem ggX6_undo_X6_copies : GoodIn wsX6_undo wsX6_copies := goodIn_r _ [10] (by decide +kernel) (by decide +kernel)
set_option maxRecDepth 20000 in
theorem gX6_undo_X6_copies : GoodIn wsX6_undo (va_wsS RX6 152 yX6_copies wsX6_copies) := goodIn_app (goodIn_of _ (by decide +kernel)) ggX6_undo_X6_copies
theorem dX6_undo_0 : decode cX6_undo 0 = .ok (.aload_n 0, 1) := by decide +kernel
theorem dX6_undo_1 : decode cX6_undo 1 = .ok (.getfield 7, 3) := by decide +kernel
theorem dX6_undo_4 : decode cX6_undo 4 = .ok (.bipush 78, 2) := by decide +kernel
theorem dX6_undo_6 : decode cX6_undo 6 = .ok (.iaload, 1) := by decide +kernel
theorem dX6_undo_7 : decode cX6_undo 7 = .ok (.ifCond .ne 8, 3) := by decide +kernel
theorem dX6_undo_10 : decode cX6_undo 10 = .ok (.aload_n 0, 1) := by decide +kernel
theorem dX6_undo_11 : decode cX6_undo 11 = .ok (.invokevirtual 77, 3) := by decide +kernel
theorem dX6_undo_14 : decode cX6_undo 14 = .ok (.ireturn, 1) := by decide +kernel
theorem dX6_undo_15 : decode cX6_undo 15 = .ok (.aload_n 0, 1) := by decide +kernel
theorem dX6_undo_16 : decode cX6_undo 16 = .ok (.getfield 7, 3) := by decide +kernel
theorem dX6_undo_19 : decode cX6_undo 19 = .ok (.bipush 78, 2) := by decide +kernel
theorem dX6_undo_21 : decode cX6_undo 21 = .ok (.dup2, 1) := by decide +kernel
theorem dX6_undo_22 : decode cX6_undo 22 = .ok (.iaload, 1) := by decide +kernel
theorem dX6_undo_23 : decode cX6_undo 23 = .ok (.iconst 1, 1) := by decide +kernel
theorem dX6_undo_24 : decode cX6_undo 24 = .ok (.isub, 1) := by decide +kernel
theorem dX6_undo_25 : decode cX6_undo 25 = .ok (.iastore, 1) := by decide +kernel
theorem dX6_undo_26 : decode cX6_undo 26 = .ok (.aload_n 0, 1) := by decide +kernel
theorem dX6_undo_27 : decode cX6_undo 27 = .ok (.getfield 7, 3) := by decide +kernel
theorem dX6_undo_30 : decode cX6_undo 30 = .ok (.bipush 79, 2) := by decide +kernel
theorem dX6_undo_32 : decode cX6_undo 32 = .ok (.bipush 22, 2) := by decide +kernel
theorem dX6_undo_34 : decode cX6_undo 34 = .ok (.aload_n 0, 1) := by decide +kernel
theorem dX6_undo_35 : decode cX6_undo 35 = .ok (.getfield 7, 3) := by decide +kernel
theorem dX6_undo_38 : decode cX6_undo 38 = .ok (.bipush 78, 2) := by decide +kernel
theorem dX6_undo_40 : decode cX6_undo 40 = .ok (.iaload, 1) := by decide +kernel
theorem dX6_undo_41 : decode cX6_undo 41 = .ok (.imul, 1) := by decide +kernel
theorem dX6_undo_42 : decode cX6_undo 42 = .ok (.iadd, 1) := by decide +kernel
theorem dX6_undo_43 : decode cX6_undo 43 = .ok (.aload_n 0, 1) := by decide +kernel
theorem dX6_undo_44 : decode cX6_undo 44 = .ok (.getfield 7, 3) := by decide +kernel
theorem dX6_undo_47 : decode cX6_undo 47 = .ok (.iconst 0, 1) := by decide +kernel
theorem dX6_undo_48 : decode cX6_undo 48 = .ok (.bipush 22, 2) := by decide +kernel
theorem dX6_undo_50 : decode cX6_undo 50 = .ok (.invokestatic 152, 3) := by decide +kernel
theorem dX6_undo_53 : decode cX6_undo 53 = .ok (.aload_n 0, 1) := by decide +kernel
theorem dX6_undo_54 : decode cX6_undo 54 = .ok (.getfield 7, 3) := by decide +kernel
theorem dX6_undo_57 : decode cX6_undo 57 = .ok (.bipush 21, 2) := by decide +kernel
theorem dX6_undo_59 : decode cX6_undo 59 = .ok (.iaload, 1) := by decide +kernel
theorem dX6_undo_60 : decode cX6_undo 60 = .ok (.ireturn, 1) := by decide +kernel
set_option maxRecDepth 20000 in
theorem ggX6_of_X6_isChild : GoodIn wsX6_of wsX6_isChild := goodIn_r _ [7, 2, 8, 9, 6, 10, 22, 23, 24, 25, 26, 27, 28, 29, 30, 31, 32, 33, 34, 35, 36, 37, 38, 39, 40] (by decide +kernel) (by decide +kernel)
set_option maxRecDepth 20000 in
theorem gX6_of_X6_isChild : GoodIn wsX6_of (wsV RX6 197 RX6 yX6_isChild wsX6_isChild) := goodIn_app (goodIn_of _ (by decide +kernel)) ggX6_of_X6_isChild
set_option maxRecDepth 20000 in
theorem ggX6_of_X6_in : GoodIn wsX6_of wsX6_in := goodIn_r _ [10] (by decide +kernel) (by decide +kernel)
set_option maxRecDepth 20000 in
theorem gX6_of_X6_in : GoodIn wsX6_of (va_wsS RX6 55 yX6_in wsX6_in) := goodIn_app (goodIn_of _ (by decide +kernel)) ggX6_of_X6_in
set_option maxRecDepth 20000 in
theorem ggX6_of_X6_bad : GoodIn wsX6_of wsX6_bad := goodIn_r _ [14, 15, 22, 23, 24, 25, 26, 27, 28, 29, 30, 31, 32, 33, 34, 35, 36, 37, 38, 39, 40] (by decide +kernel) (by decide +kernel)
set_option maxRecDepth 20000 in
theorem gX6_of_X6_bad : GoodIn wsX6_of (wsV RX6 63 RX6 yX6_bad wsX6_bad) := goodIn_app (goodIn_of _ (by decide +kernel)) ggX6_of_X6_bad
set_option maxRecDepth 20000 in
theorem ggX6_of_X6_tight : GoodIn wsX6_of wsX6_tight := goodIn_r _ [18, 19, 20, 6, 21] (by decide +kernel) (by decide +kernel)
set_option maxRecDepth 20000 in
theorem gX6_of_X6_tight : GoodIn wsX6_of (va_wsS RX6 156 yX6_tight wsX6_tight) := goodIn_app (goodIn_of _ (by decide +kernel)) ggX6_of_X6_tight
theorem dX6_of_0 : decode cX6_of 0 = .ok (.aload_n 0, 1) := by decide +kernel
theorem dX6_of_1 : decode cX6_of 1 = .ok (.iload_n 1, 1) := by decide +kernel
theorem dX6_of_2 : decode cX6_of 2 = .ok (.invokevirtual 197, 3) := by decide +kernel
theorem dX6_of_5 : decode cX6_of 5 = .ok (.ifCond .eq 15, 3) := by decide +kernel
theorem dX6_of_8 : decode cX6_of 8 = .ok (.iload_n 2, 1) := by decide +kernel
theorem dX6_of_9 : decode cX6_of 9 = .ok (.i2l, 1) := by decide +kernel
theorem dX6_of_10 : decode cX6_of 10 = .ok (.lconst 0, 1) := by decide +kernel
theorem dX6_of_11 : decode cX6_of 11 = .ok (.ldc2_w 67, 3) := by decide +kernel
theorem dX6_of_14 : decode cX6_of 14 = .ok (.invokestatic 55, 3) := by decide +kernel
theorem dX6_of_17 : decode cX6_of 17 = .ok (.ifCond .ne 8, 3) := by decide +kernel
theorem dX6_of_20 : decode cX6_of 20 = .ok (.aload_n 0, 1) := by decide +kernel
theorem dX6_of_21 : decode cX6_of 21 = .ok (.invokevirtual 63, 3) := by decide +kernel
theorem dX6_of_24 : decode cX6_of 24 = .ok (.ireturn, 1) := by decide +kernel
theorem dX6_of_25 : decode cX6_of 25 = .ok (.iload_n 2, 1) := by decide +kernel
theorem dX6_of_26 : decode cX6_of 26 = .ok (.tableswitch 83 0 4 #[34, 44, 53, 63, 73], 34) := by decide +kernel
theorem dX6_of_60 : decode cX6_of 60 = .ok (.aload_n 0, 1) := by decide +kernel
theorem dX6_of_61 : decode cX6_of 61 = .ok (.getfield 7, 3) := by decide +kernel
theorem dX6_of_64 : decode cX6_of 64 = .ok (.bipush 23, 2) := by decide +kernel
theorem dX6_of_66 : decode cX6_of 66 = .ok (.iload_n 1, 1) := by decide +kernel
theorem dX6_of_67 : decode cX6_of 67 = .ok (.iadd, 1) := by decide +kernel
theorem dX6_of_68 : decode cX6_of 68 = .ok (.iaload, 1) := by decide +kernel
theorem dX6_of_69 : decode cX6_of 69 = .ok (.ireturn, 1) := by decide +kernel
theorem dX6_of_70 : decode cX6_of 70 = .ok (.aload_n 0, 1) := by decide +kernel
theorem dX6_of_71 : decode cX6_of 71 = .ok (.getfield 7, 3) := by decide +kernel
theorem dX6_of_74 : decode cX6_of 74 = .ok (.iconst 0, 1) := by decide +kernel
theorem dX6_of_75 : decode cX6_of 75 = .ok (.iload_n 1, 1) := by decide +kernel
theorem dX6_of_76 : decode cX6_of 76 = .ok (.iadd, 1) := by decide +kernel
theorem dX6_of_77 : decode cX6_of 77 = .ok (.iaload, 1) := by decide +kernel
theorem dX6_of_78 : decode cX6_of 78 = .ok (.ireturn, 1) := by decide +kernel
theorem dX6_of_79 : decode cX6_of 79 = .ok (.aload_n 0, 1) := by decide +kernel
theorem dX6_of_80 : decode cX6_of 80 = .ok (.getfield 7, 3) := by decide +kernel
theorem dX6_of_83 : decode cX6_of 83 = .ok (.bipush 29, 2) := by decide +kernel
theorem dX6_of_85 : decode cX6_of 85 = .ok (.iload_n 1, 1) := by decide +kernel
theorem dX6_of_86 : decode cX6_of 86 = .ok (.iadd, 1) := by decide +kernel
theorem dX6_of_87 : decode cX6_of 87 = .ok (.iaload, 1) := by decide +kernel
theorem dX6_of_88 : decode cX6_of 88 = .ok (.ireturn, 1) := by decide +kernel
theorem dX6_of_89 : decode cX6_of 89 = .ok (.aload_n 0, 1) := by decide +kernel
theorem dX6_of_90 : decode cX6_of 90 = .ok (.getfield 7, 3) := by decide +kernel
theorem dX6_of_93 : decode cX6_of 93 = .ok (.bipush 6, 2) := by decide +kernel
theorem dX6_of_95 : decode cX6_of 95 = .ok (.iload_n 1, 1) := by decide +kernel
theorem dX6_of_96 : decode cX6_of 96 = .ok (.iadd, 1) := by decide +kernel
theorem dX6_of_97 : decode cX6_of 97 = .ok (.iaload, 1) := by decide +kernel
theorem dX6_of_98 : decode cX6_of 98 = .ok (.ireturn, 1) := by decide +kernel
theorem dX6_of_99 : decode cX6_of 99 = .ok (.aload_n 0, 1) := by decide +kernel
theorem dX6_of_100 : decode cX6_of 100 = .ok (.getfield 7, 3) := by decide +kernel
theorem dX6_of_103 : decode cX6_of 103 = .ok (.bipush 12, 2) := by decide +kernel
theorem dX6_of_105 : decode cX6_of 105 = .ok (.iload_n 1, 1) := by decide +kernel
theorem dX6_of_106 : decode cX6_of 106 = .ok (.iadd, 1) := by decide +kernel
theorem dX6_of_107 : decode cX6_of 107 = .ok (.iaload, 1) := by decide +kernel
theorem dX6_of_108 : decode cX6_of 108 = .ok (.ireturn, 1) := by decide +kernel
theorem dX6_of_109 : decode cX6_of 109 = .ok (.aload_n 0, 1) := by decide +kernel
theorem dX6_of_110 : decode cX6_of 110 = .ok (.getfield 7, 3) := by decide +kernel
theorem dX6_of_113 : decode cX6_of 113 = .ok (.iload_n 1, 1) := by decide +kernel
theorem dX6_of_114 : decode cX6_of 114 = .ok (.invokestatic 156, 3) := by decide +kernel
theorem dX6_of_117 : decode cX6_of 117 = .ok (.ireturn, 1) := by decide +kernel
set_option maxRecDepth 20000 in
theorem ggX6_now_X6_isChild : GoodIn wsX6_now wsX6_isChild := goodIn_r _ [7, 2, 8, 9, 6, 10, 40, 41, 42, 43, 44, 45, 46, 47, 48, 49, 50, 51, 52, 53, 54, 55, 56, 57, 58] (by decide +kernel) (by decide +kernel)
set_option maxRecDepth 20000 in
theorem gX6_now_X6_isChild : GoodIn wsX6_now (wsV RX6 197 RX6 yX6_isChild wsX6_isChild) := goodIn_app (goodIn_of _ (by decide +kernel)) ggX6_now_X6_isChild
set_option maxRecDepth 20000 in
theorem ggX6_now_X6_in : GoodIn wsX6_now wsX6_in := goodIn_r _ [10] (by decide +kernel) (by decide +kernel)
set_option maxRecDepth 20000 in
theorem gX6_now_X6_in : GoodIn wsX6_now (va_wsS RX6 55 yX6_in wsX6_in) := goodIn_app (goodIn_of _ (by decide +kernel)) ggX6_now_X6_in
set_option maxRecDepth 20000 in
theorem ggX6_now_X6_worse : GoodIn wsX6_now wsX6_worse := goodIn_r _ [14, 15, 40, 41, 42, 43, 44, 45, 46, 47, 48, 49, 50, 51, 52, 53, 54, 55, 56, 57, 58] (by decide +kernel) (by decide +kernel)
set_option maxRecDepth 20000 in
theorem gX6_now_X6_worse : GoodIn wsX6_now (wsV RX6 202 RX6 yX6_worse wsX6_worse) := goodIn_app (goodIn_of _ (by decide +kernel)) ggX6_now_X6_worse
set_option maxRecDepth 20000 in
theorem ggX6_now_X6_nearOf : GoodIn wsX6_now wsX6_nearOf := goodIn_r _ [18, 19, 20, 6, 21, 22, 23, 24, 25, 26, 27, 28, 29, 30] (by decide +kernel) (by decide +kernel)
set_option maxRecDepth 20000 in
theorem gX6_now_X6_nearOf : GoodIn wsX6_now (va_wsS RX6 163 yX6_nearOf wsX6_nearOf) := goodIn_app (goodIn_of _ (by decide +kernel)) ggX6_now_X6_nearOf
set_option maxRecDepth 20000 in
theorem ggX6_now_X6_whom : GoodIn wsX6_now wsX6_whom := goodIn_r _ [33, 22, 23, 6, 24] (by decide +kernel) (by decide +kernel)
set_option maxRecDepth 20000 in
theorem gX6_now_X6_whom : GoodIn wsX6_now (va_wsS RX6 170 yX6_whom wsX6_whom) := goodIn_app (goodIn_of _ (by decide +kernel)) ggX6_now_X6_whom
set_option maxRecDepth 20000 in
theorem ggX6_now_X6_bites : GoodIn wsX6_now wsX6_bites := goodIn_r _ [36, 16, 17, 6, 18, 19, 20, 21, 22, 23, 24, 25, 26, 27, 28, 29, 30, 37, 38, 39, 31, 32, 33] (by decide +kernel) (by decide +kernel)
set_option maxRecDepth 20000 in
theorem gX6_now_X6_bites : GoodIn wsX6_now (va_wsS RX6 173 yX6_bites wsX6_bites) := goodIn_app (goodIn_of _ (by decide +kernel)) ggX6_now_X6_bites
theorem dX6_now_0 : decode cX6_now 0 = .ok (.aload_n 0, 1) := by decide +kernel
theorem dX6_now_1 : decode cX6_now 1 = .ok (.iload_n 1, 1) := by decide +kernel
theorem dX6_now_2 : decode cX6_now 2 = .ok (.invokevirtual 197, 3) := by decide +kernel
theorem dX6_now_5 : decode cX6_now 5 = .ok (.ifCond .eq 15, 3) := by decide +kernel
theorem dX6_now_8 : decode cX6_now 8 = .ok (.iload_n 2, 1) := by decide +kernel
theorem dX6_now_9 : decode cX6_now 9 = .ok (.i2l, 1) := by decide +kernel
theorem dX6_now_10 : decode cX6_now 10 = .ok (.lconst 0, 1) := by decide +kernel
theorem dX6_now_11 : decode cX6_now 11 = .ok (.ldc2_w 200, 3) := by decide +kernel
theorem dX6_now_14 : decode cX6_now 14 = .ok (.invokestatic 55, 3) := by decide +kernel
theorem dX6_now_17 : decode cX6_now 17 = .ok (.ifCond .ne 8, 3) := by decide +kernel
theorem dX6_now_20 : decode cX6_now 20 = .ok (.aload_n 0, 1) := by decide +kernel
theorem dX6_now_21 : decode cX6_now 21 = .ok (.invokevirtual 202, 3) := by decide +kernel
theorem dX6_now_24 : decode cX6_now 24 = .ok (.ireturn, 1) := by decide +kernel
theorem dX6_now_25 : decode cX6_now 25 = .ok (.iload_n 2, 1) := by decide +kernel
theorem dX6_now_26 : decode cX6_now 26 = .ok (.ifCond .ne 14, 3) := by decide +kernel
theorem dX6_now_29 : decode cX6_now 29 = .ok (.aload_n 0, 1) := by decide +kernel
theorem dX6_now_30 : decode cX6_now 30 = .ok (.getfield 7, 3) := by decide +kernel
theorem dX6_now_33 : decode cX6_now 33 = .ok (.iload_n 1, 1) := by decide +kernel
theorem dX6_now_34 : decode cX6_now 34 = .ok (.invokestatic 163, 3) := by decide +kernel
theorem dX6_now_37 : decode cX6_now 37 = .ok (.goto 35, 3) := by decide +kernel
theorem dX6_now_40 : decode cX6_now 40 = .ok (.iload_n 2, 1) := by decide +kernel
theorem dX6_now_41 : decode cX6_now 41 = .ok (.iconst 1, 1) := by decide +kernel
theorem dX6_now_42 : decode cX6_now 42 = .ok (.if_icmp .ne 14, 3) := by decide +kernel
theorem dX6_now_45 : decode cX6_now 45 = .ok (.aload_n 0, 1) := by decide +kernel
theorem dX6_now_46 : decode cX6_now 46 = .ok (.getfield 7, 3) := by decide +kernel
theorem dX6_now_49 : decode cX6_now 49 = .ok (.iload_n 1, 1) := by decide +kernel
theorem dX6_now_50 : decode cX6_now 50 = .ok (.invokestatic 170, 3) := by decide +kernel
theorem dX6_now_53 : decode cX6_now 53 = .ok (.goto 19, 3) := by decide +kernel
theorem dX6_now_56 : decode cX6_now 56 = .ok (.aload_n 0, 1) := by decide +kernel
theorem dX6_now_57 : decode cX6_now 57 = .ok (.getfield 7, 3) := by decide +kernel
theorem dX6_now_60 : decode cX6_now 60 = .ok (.iload_n 1, 1) := by decide +kernel
theorem dX6_now_61 : decode cX6_now 61 = .ok (.invokestatic 173, 3) := by decide +kernel
theorem dX6_now_64 : decode cX6_now 64 = .ok (.ifCond .eq 7, 3) := by decide +kernel
theorem dX6_now_67 : decode cX6_now 67 = .ok (.iconst 1, 1) := by decide +kernel
theorem dX6_now_68 : decode cX6_now 68 = .ok (.goto 4, 3) := by decide +kernel
theorem dX6_now_71 : decode cX6_now 71 = .ok (.iconst 0, 1) := by decide +kernel
theorem dX6_now_72 : decode cX6_now 72 = .ok (.ireturn, 1) := by decide +kernel
set_option maxRecDepth 20000 in
theorem ggX6_layAside_X6_copies : GoodIn wsX6_layAside wsX6_copies := goodIn_r _ [6] (by decide +kernel) (by decide +kernel)
set_option maxRecDepth 20000 in
theorem gX6_layAside_X6_copies : GoodIn wsX6_layAside (va_wsS RX6 152 yX6_copies wsX6_copies) := goodIn_app (goodIn_of _ (by decide +kernel)) ggX6_layAside_X6_copies
theorem dX6_layAside_0 : decode cX6_layAside 0 = .ok (.aload_n 0, 1) := by decide +kernel
theorem dX6_layAside_1 : decode cX6_layAside 1 = .ok (.getfield 7, 3) := by decide +kernel
theorem dX6_layAside_4 : decode cX6_layAside 4 = .ok (.iconst 0, 1) := by decide +kernel
theorem dX6_layAside_5 : decode cX6_layAside 5 = .ok (.aload_n 0, 1) := by decide +kernel
theorem dX6_layAside_6 : decode cX6_layAside 6 = .ok (.getfield 16, 3) := by decide +kernel
theorem dX6_layAside_9 : decode cX6_layAside 9 = .ok (.iconst 0, 1) := by decide +kernel
theorem dX6_layAside_10 : decode cX6_layAside 10 = .ok (.bipush 35, 2) := by decide +kernel
theorem dX6_layAside_12 : decode cX6_layAside 12 = .ok (.invokestatic 152, 3) := by decide +kernel
theorem dX6_layAside_15 : decode cX6_layAside 15 = .ok (.return_, 1) := by decide +kernel
set_option maxRecDepth 20000 in
theorem ggX6_bitesIn_X6_goes : GoodIn wsX6_bitesIn wsX6_goes := goodIn_r _ [5, 6, 7, 4, 8, 9, 10, 11, 12, 13, 14, 15, 16, 17, 18, 19, 20, 21, 22, 23, 24, 25, 26, 27, 28, 29, 30, 31, 32, 33, 34, 35, 36, 37, 38] (by decide +kernel) (by decide +kernel)
set_option maxRecDepth 20000 in
theorem gX6_bitesIn_X6_goes : GoodIn wsX6_bitesIn (va_wsS RX6 193 yX6_goes wsX6_goes) := goodIn_app (goodIn_of _ (by decide +kernel)) ggX6_bitesIn_X6_goes
theorem dX6_bitesIn_0 : decode cX6_bitesIn 0 = .ok (.aload_n 0, 1) := by decide +kernel
theorem dX6_bitesIn_1 : decode cX6_bitesIn 1 = .ok (.getfield 16, 3) := by decide +kernel
theorem dX6_bitesIn_4 : decode cX6_bitesIn 4 = .ok (.bipush 18, 2) := by decide +kernel
theorem dX6_bitesIn_6 : decode cX6_bitesIn 6 = .ok (.iaload, 1) := by decide +kernel
theorem dX6_bitesIn_7 : decode cX6_bitesIn 7 = .ok (.istore_n 2, 1) := by decide +kernel
theorem dX6_bitesIn_8 : decode cX6_bitesIn 8 = .ok (.iconst 0, 1) := by decide +kernel
theorem dX6_bitesIn_9 : decode cX6_bitesIn 9 = .ok (.istore_n 3, 1) := by decide +kernel
theorem dX6_bitesIn_10 : decode cX6_bitesIn 10 = .ok (.iload_n 3, 1) := by decide +kernel
theorem dX6_bitesIn_11 : decode cX6_bitesIn 11 = .ok (.iload_n 1, 1) := by decide +kernel
theorem dX6_bitesIn_12 : decode cX6_bitesIn 12 = .ok (.if_icmp .ge 16, 3) := by decide +kernel
theorem dX6_bitesIn_15 : decode cX6_bitesIn 15 = .ok (.aload_n 0, 1) := by decide +kernel
theorem dX6_bitesIn_16 : decode cX6_bitesIn 16 = .ok (.getfield 16, 3) := by decide +kernel
theorem dX6_bitesIn_19 : decode cX6_bitesIn 19 = .ok (.invokestatic 193, 3) := by decide +kernel
theorem dX6_bitesIn_22 : decode cX6_bitesIn 22 = .ok (.iinc 3 1, 3) := by decide +kernel
theorem dX6_bitesIn_25 : decode cX6_bitesIn 25 = .ok (.goto (-15), 3) := by decide +kernel
theorem dX6_bitesIn_28 : decode cX6_bitesIn 28 = .ok (.aload_n 0, 1) := by decide +kernel
theorem dX6_bitesIn_29 : decode cX6_bitesIn 29 = .ok (.getfield 16, 3) := by decide +kernel
theorem dX6_bitesIn_32 : decode cX6_bitesIn 32 = .ok (.bipush 18, 2) := by decide +kernel
theorem dX6_bitesIn_34 : decode cX6_bitesIn 34 = .ok (.iaload, 1) := by decide +kernel
theorem dX6_bitesIn_35 : decode cX6_bitesIn 35 = .ok (.iload_n 2, 1) := by decide +kernel
theorem dX6_bitesIn_36 : decode cX6_bitesIn 36 = .ok (.isub, 1) := by decide +kernel
theorem dX6_bitesIn_37 : decode cX6_bitesIn 37 = .ok (.ireturn, 1) := by decide +kernel
set_option maxRecDepth 20000 in
theorem ggX6_then_X6_in : GoodIn wsX6_then wsX6_in := goodIn_r _ [6] (by decide +kernel) (by decide +kernel)
set_option maxRecDepth 20000 in
theorem gX6_then_X6_in : GoodIn wsX6_then (va_wsS RX6 55 yX6_in wsX6_in) := goodIn_app (goodIn_of _ (by decide +kernel)) ggX6_then_X6_in
set_option maxRecDepth 20000 in
theorem ggX6_then_X6_isChild : GoodIn wsX6_then wsX6_isChild := goodIn_r _ [10, 11, 3, 4, 5, 6, 64, 65, 66, 67, 68, 69, 70, 71, 72, 73, 74, 75, 76, 77, 78, 79, 80, 81, 82] (by decide +kernel) (by decide +kernel)
set_option maxRecDepth 20000 in
theorem gX6_then_X6_isChild : GoodIn wsX6_then (wsV RX6 197 RX6 yX6_isChild wsX6_isChild) := goodIn_app (goodIn_of _ (by decide +kernel)) ggX6_then_X6_isChild
set_option maxRecDepth 20000 in
theorem ggX6_then_X6_bad : GoodIn wsX6_then wsX6_bad := goodIn_r _ [15, 16, 64, 65, 66, 67, 68, 69, 70, 71, 72, 73, 74, 75, 76, 77, 78, 79, 80, 81, 82] (by decide +kernel) (by decide +kernel)
set_option maxRecDepth 20000 in
theorem gX6_then_X6_bad : GoodIn wsX6_then (wsV RX6 63 RX6 yX6_bad wsX6_bad) := goodIn_app (goodIn_of _ (by decide +kernel)) ggX6_then_X6_bad
set_option maxRecDepth 20000 in
theorem ggX6_then_X6_layAside : GoodIn wsX6_then wsX6_layAside := goodIn_r _ [20, 11, 2, 21, 22, 5, 23, 64, 65, 66, 67, 68, 69, 70, 71, 72, 73, 74, 75, 76, 77, 78, 79, 80, 81, 82] (by decide +kernel) (by decide +kernel)
set_option maxRecDepth 20000 in
theorem gX6_then_X6_layAside : GoodIn wsX6_then (wsV RX6 205 RX6 yX6_layAside wsX6_layAside) := goodIn_app (goodIn_of _ (by decide +kernel)) ggX6_then_X6_layAside
set_option maxRecDepth 20000 in
theorem ggX6_then_X6_bitesIn : GoodIn wsX6_then wsX6_bitesIn := goodIn_r _ [27, 2, 28, 29, 5, 30, 31, 32, 33, 34, 35, 36, 37, 38, 39, 40, 41, 42, 43, 44, 45, 46, 47, 48, 49, 50, 51, 52, 53, 54, 55, 56, 57, 58, 59, 60, 61, 62, 63, 64, 65, 66, 67, 68, 69, 70, 71, 72, 73, 74, 75, 76, 77, 78, 79, 80, 81, 82] (by decide +kernel) (by decide +kernel)
set_option maxRecDepth 20000 in
theorem gX6_then_X6_bitesIn : GoodIn wsX6_then (wsV RX6 208 RX6 yX6_bitesIn wsX6_bitesIn) := goodIn_app (goodIn_of _ (by decide +kernel)) ggX6_then_X6_bitesIn
theorem dX6_then_0 : decode cX6_then 0 = .ok (.iload_n 1, 1) := by decide +kernel
theorem dX6_then_1 : decode cX6_then 1 = .ok (.i2l, 1) := by decide +kernel
theorem dX6_then_2 : decode cX6_then 2 = .ok (.lconst 0, 1) := by decide +kernel
theorem dX6_then_3 : decode cX6_then 3 = .ok (.ldc2_w 188, 3) := by decide +kernel
theorem dX6_then_6 : decode cX6_then 6 = .ok (.invokestatic 55, 3) := by decide +kernel
theorem dX6_then_9 : decode cX6_then 9 = .ok (.ifCond .eq 16, 3) := by decide +kernel
theorem dX6_then_12 : decode cX6_then 12 = .ok (.iload_n 2, 1) := by decide +kernel
theorem dX6_then_13 : decode cX6_then 13 = .ok (.iconst (-1), 1) := by decide +kernel
theorem dX6_then_14 : decode cX6_then 14 = .ok (.if_icmp .eq 16, 3) := by decide +kernel
theorem dX6_then_17 : decode cX6_then 17 = .ok (.aload_n 0, 1) := by decide +kernel
theorem dX6_then_18 : decode cX6_then 18 = .ok (.iload_n 2, 1) := by decide +kernel
theorem dX6_then_19 : decode cX6_then 19 = .ok (.invokevirtual 197, 3) := by decide +kernel
theorem dX6_then_22 : decode cX6_then 22 = .ok (.ifCond .ne 8, 3) := by decide +kernel
theorem dX6_then_25 : decode cX6_then 25 = .ok (.aload_n 0, 1) := by decide +kernel
theorem dX6_then_26 : decode cX6_then 26 = .ok (.invokevirtual 63, 3) := by decide +kernel
theorem dX6_then_29 : decode cX6_then 29 = .ok (.ireturn, 1) := by decide +kernel
theorem dX6_then_30 : decode cX6_then 30 = .ok (.aload_n 0, 1) := by decide +kernel
theorem dX6_then_31 : decode cX6_then 31 = .ok (.invokevirtual 205, 3) := by decide +kernel
theorem dX6_then_34 : decode cX6_then 34 = .ok (.aload_n 0, 1) := by decide +kernel
theorem dX6_then_35 : decode cX6_then 35 = .ok (.iload_n 1, 1) := by decide +kernel
theorem dX6_then_36 : decode cX6_then 36 = .ok (.invokevirtual 208, 3) := by decide +kernel
theorem dX6_then_39 : decode cX6_then 39 = .ok (.istore_n 3, 1) := by decide +kernel
theorem dX6_then_40 : decode cX6_then 40 = .ok (.iload_n 2, 1) := by decide +kernel
theorem dX6_then_41 : decode cX6_then 41 = .ok (.iconst (-1), 1) := by decide +kernel
theorem dX6_then_42 : decode cX6_then 42 = .ok (.if_icmp .ne 13, 3) := by decide +kernel
theorem dX6_then_45 : decode cX6_then 45 = .ok (.aload_n 0, 1) := by decide +kernel
theorem dX6_then_46 : decode cX6_then 46 = .ok (.getfield 16, 3) := by decide +kernel
theorem dX6_then_49 : decode cX6_then 49 = .ok (.bipush 18, 2) := by decide +kernel
theorem dX6_then_51 : decode cX6_then 51 = .ok (.iaload, 1) := by decide +kernel
theorem dX6_then_52 : decode cX6_then 52 = .ok (.goto 12, 3) := by decide +kernel
theorem dX6_then_55 : decode cX6_then 55 = .ok (.aload_n 0, 1) := by decide +kernel
theorem dX6_then_56 : decode cX6_then 56 = .ok (.getfield 16, 3) := by decide +kernel
theorem dX6_then_59 : decode cX6_then 59 = .ok (.bipush 12, 2) := by decide +kernel
theorem dX6_then_61 : decode cX6_then 61 = .ok (.iload_n 2, 1) := by decide +kernel
theorem dX6_then_62 : decode cX6_then 62 = .ok (.iadd, 1) := by decide +kernel
theorem dX6_then_63 : decode cX6_then 63 = .ok (.iaload, 1) := by decide +kernel
theorem dX6_then_64 : decode cX6_then 64 = .ok (.ireturn, 1) := by decide +kernel
set_option maxRecDepth 20000 in
theorem ggX6_quiet_X6_layAside : GoodIn wsX6_quiet wsX6_layAside := goodIn_r _ [5, 6, 7, 8, 9, 4, 10, 51, 52, 53, 54, 55, 56, 57, 58, 59, 60, 61, 62, 63, 64, 65, 66, 67, 68, 69] (by decide +kernel) (by decide +kernel)
set_option maxRecDepth 20000 in
theorem gX6_quiet_X6_layAside : GoodIn wsX6_quiet (wsV RX6 205 RX6 yX6_layAside wsX6_layAside) := goodIn_app (goodIn_of _ (by decide +kernel)) ggX6_quiet_X6_layAside
set_option maxRecDepth 20000 in
theorem ggX6_quiet_X6_bitesIn : GoodIn wsX6_quiet wsX6_bitesIn := goodIn_r _ [14, 7, 15, 16, 4, 17, 18, 19, 20, 21, 22, 23, 24, 25, 26, 27, 28, 29, 30, 31, 32, 33, 34, 35, 36, 37, 38, 39, 40, 41, 42, 43, 44, 45, 46, 47, 48, 49, 50, 51, 52, 53, 54, 55, 56, 57, 58, 59, 60, 61, 62, 63, 64, 65, 66, 67, 68, 69] (by decide +kernel) (by decide +kernel)
set_option maxRecDepth 20000 in
theorem gX6_quiet_X6_bitesIn : GoodIn wsX6_quiet (wsV RX6 208 RX6 yX6_bitesIn wsX6_bitesIn) := goodIn_app (goodIn_of _ (by decide +kernel)) ggX6_quiet_X6_bitesIn
theorem dX6_quiet_0 : decode cX6_quiet 0 = .ok (.aload_n 0, 1) := by decide +kernel
theorem dX6_quiet_1 : decode cX6_quiet 1 = .ok (.invokevirtual 205, 3) := by decide +kernel
theorem dX6_quiet_4 : decode cX6_quiet 4 = .ok (.iconst 1, 1) := by decide +kernel
theorem dX6_quiet_5 : decode cX6_quiet 5 = .ok (.istore_n 1, 1) := by decide +kernel
theorem dX6_quiet_6 : decode cX6_quiet 6 = .ok (.iload_n 1, 1) := by decide +kernel
theorem dX6_quiet_7 : decode cX6_quiet 7 = .ok (.bipush 61, 2) := by decide +kernel
theorem dX6_quiet_9 : decode cX6_quiet 9 = .ok (.if_icmp .ge 19, 3) := by decide +kernel
theorem dX6_quiet_12 : decode cX6_quiet 12 = .ok (.aload_n 0, 1) := by decide +kernel
theorem dX6_quiet_13 : decode cX6_quiet 13 = .ok (.iconst 1, 1) := by decide +kernel
theorem dX6_quiet_14 : decode cX6_quiet 14 = .ok (.invokevirtual 208, 3) := by decide +kernel
theorem dX6_quiet_17 : decode cX6_quiet 17 = .ok (.ifCond .le 5, 3) := by decide +kernel
theorem dX6_quiet_20 : decode cX6_quiet 20 = .ok (.iload_n 1, 1) := by decide +kernel
theorem dX6_quiet_21 : decode cX6_quiet 21 = .ok (.ireturn, 1) := by decide +kernel
theorem dX6_quiet_22 : decode cX6_quiet 22 = .ok (.iinc 1 1, 3) := by decide +kernel
theorem dX6_quiet_25 : decode cX6_quiet 25 = .ok (.goto (-19), 3) := by decide +kernel
theorem dX6_quiet_28 : decode cX6_quiet 28 = .ok (.iconst (-1), 1) := by decide +kernel
theorem dX6_quiet_29 : decode cX6_quiet 29 = .ok (.ireturn, 1) := by decide +kernel
set_option maxRecDepth 20000 in
theorem ggX6_stand_X6_in : GoodIn wsX6_stand wsX6_in := goodIn_r _ [7] (by decide +kernel) (by decide +kernel)
set_option maxRecDepth 20000 in
theorem gX6_stand_X6_in : GoodIn wsX6_stand (va_wsS RX6 55 yX6_in wsX6_in) := goodIn_app (goodIn_of _ (by decide +kernel)) ggX6_stand_X6_in
set_option maxRecDepth 20000 in
theorem ggX6_stand_X6_bad : GoodIn wsX6_stand wsX6_bad := goodIn_r _ [11, 12, 61, 62, 63, 64, 65, 66, 67, 68, 69, 70, 71, 72, 73, 74, 75, 76, 77, 78, 79] (by decide +kernel) (by decide +kernel)
set_option maxRecDepth 20000 in
theorem gX6_stand_X6_bad : GoodIn wsX6_stand (wsV RX6 63 RX6 yX6_bad wsX6_bad) := goodIn_app (goodIn_of _ (by decide +kernel)) ggX6_stand_X6_bad
set_option maxRecDepth 20000 in
theorem ggX6_stand_X6_layAside : GoodIn wsX6_stand wsX6_layAside := goodIn_r _ [16, 17, 3, 18, 19, 6, 20, 61, 62, 63, 64, 65, 66, 67, 68, 69, 70, 71, 72, 73, 74, 75, 76, 77, 78, 79] (by decide +kernel) (by decide +kernel)
set_option maxRecDepth 20000 in
theorem gX6_stand_X6_layAside : GoodIn wsX6_stand (wsV RX6 205 RX6 yX6_layAside wsX6_layAside) := goodIn_app (goodIn_of _ (by decide +kernel)) ggX6_stand_X6_layAside
set_option maxRecDepth 20000 in
theorem ggX6_stand_X6_bitesIn : GoodIn wsX6_stand wsX6_bitesIn := goodIn_r _ [24, 3, 25, 26, 6, 27, 28, 29, 30, 31, 32, 33, 34, 35, 36, 37, 38, 39, 40, 41, 42, 43, 44, 45, 46, 47, 48, 49, 50, 51, 52, 53, 54, 55, 56, 57, 58, 59, 60, 61, 62, 63, 64, 65, 66, 67, 68, 69, 70, 71, 72, 73, 74, 75, 76, 77, 78, 79] (by decide +kernel) (by decide +kernel)
set_option maxRecDepth 20000 in
theorem gX6_stand_X6_bitesIn : GoodIn wsX6_stand (wsV RX6 208 RX6 yX6_bitesIn wsX6_bitesIn) := goodIn_app (goodIn_of _ (by decide +kernel)) ggX6_stand_X6_bitesIn
theorem dX6_stand_0 : decode cX6_stand 0 = .ok (.iload_n 1, 1) := by decide +kernel
theorem dX6_stand_1 : decode cX6_stand 1 = .ok (.i2l, 1) := by decide +kernel
theorem dX6_stand_2 : decode cX6_stand 2 = .ok (.lconst 1, 1) := by decide +kernel
theorem dX6_stand_3 : decode cX6_stand 3 = .ok (.ldc2_w 188, 3) := by decide +kernel
theorem dX6_stand_6 : decode cX6_stand 6 = .ok (.invokestatic 55, 3) := by decide +kernel
theorem dX6_stand_9 : decode cX6_stand 9 = .ok (.ifCond .eq 13, 3) := by decide +kernel
theorem dX6_stand_12 : decode cX6_stand 12 = .ok (.iload_n 2, 1) := by decide +kernel
theorem dX6_stand_13 : decode cX6_stand 13 = .ok (.i2l, 1) := by decide +kernel
theorem dX6_stand_14 : decode cX6_stand 14 = .ok (.lconst 0, 1) := by decide +kernel
theorem dX6_stand_15 : decode cX6_stand 15 = .ok (.lconst 1, 1) := by decide +kernel
theorem dX6_stand_16 : decode cX6_stand 16 = .ok (.invokestatic 55, 3) := by decide +kernel
theorem dX6_stand_19 : decode cX6_stand 19 = .ok (.ifCond .ne 8, 3) := by decide +kernel
theorem dX6_stand_22 : decode cX6_stand 22 = .ok (.aload_n 0, 1) := by decide +kernel
theorem dX6_stand_23 : decode cX6_stand 23 = .ok (.invokevirtual 63, 3) := by decide +kernel
theorem dX6_stand_26 : decode cX6_stand 26 = .ok (.ireturn, 1) := by decide +kernel
theorem dX6_stand_27 : decode cX6_stand 27 = .ok (.iconst (-1), 1) := by decide +kernel
theorem dX6_stand_28 : decode cX6_stand 28 = .ok (.istore_n 3, 1) := by decide +kernel
theorem dX6_stand_29 : decode cX6_stand 29 = .ok (.ldc 211, 2) := by decide +kernel
theorem dX6_stand_31 : decode cX6_stand 31 = .ok (.istore 4, 2) := by decide +kernel
theorem dX6_stand_33 : decode cX6_stand 33 = .ok (.iconst 0, 1) := by decide +kernel
theorem dX6_stand_34 : decode cX6_stand 34 = .ok (.istore 5, 2) := by decide +kernel
theorem dX6_stand_36 : decode cX6_stand 36 = .ok (.iload 5, 2) := by decide +kernel
theorem dX6_stand_38 : decode cX6_stand 38 = .ok (.bipush 8, 2) := by decide +kernel
theorem dX6_stand_40 : decode cX6_stand 40 = .ok (.if_icmp .ge 59, 3) := by decide +kernel
theorem dX6_stand_43 : decode cX6_stand 43 = .ok (.aload_n 0, 1) := by decide +kernel
theorem dX6_stand_44 : decode cX6_stand 44 = .ok (.invokevirtual 205, 3) := by decide +kernel
theorem dX6_stand_47 : decode cX6_stand 47 = .ok (.aload_n 0, 1) := by decide +kernel
theorem dX6_stand_48 : decode cX6_stand 48 = .ok (.getfield 16, 3) := by decide +kernel
theorem dX6_stand_51 : decode cX6_stand 51 = .ok (.bipush 20, 2) := by decide +kernel
theorem dX6_stand_53 : decode cX6_stand 53 = .ok (.iload 5, 2) := by decide +kernel
theorem dX6_stand_55 : decode cX6_stand 55 = .ok (.iastore, 1) := by decide +kernel
theorem dX6_stand_56 : decode cX6_stand 56 = .ok (.aload_n 0, 1) := by decide +kernel
theorem dX6_stand_57 : decode cX6_stand 57 = .ok (.iload_n 1, 1) := by decide +kernel
theorem dX6_stand_58 : decode cX6_stand 58 = .ok (.invokevirtual 208, 3) := by decide +kernel
theorem dX6_stand_61 : decode cX6_stand 61 = .ok (.istore 6, 2) := by decide +kernel
theorem dX6_stand_63 : decode cX6_stand 63 = .ok (.iload 6, 2) := by decide +kernel
theorem dX6_stand_65 : decode cX6_stand 65 = .ok (.iload 4, 2) := by decide +kernel
theorem dX6_stand_67 : decode cX6_stand 67 = .ok (.if_icmp .ge 8, 3) := by decide +kernel
theorem dX6_stand_70 : decode cX6_stand 70 = .ok (.iload 5, 2) := by decide +kernel
theorem dX6_stand_72 : decode cX6_stand 72 = .ok (.goto 4, 3) := by decide +kernel
theorem dX6_stand_75 : decode cX6_stand 75 = .ok (.iload_n 3, 1) := by decide +kernel
theorem dX6_stand_76 : decode cX6_stand 76 = .ok (.istore_n 3, 1) := by decide +kernel
theorem dX6_stand_77 : decode cX6_stand 77 = .ok (.iload 6, 2) := by decide +kernel
theorem dX6_stand_79 : decode cX6_stand 79 = .ok (.iload 4, 2) := by decide +kernel
theorem dX6_stand_81 : decode cX6_stand 81 = .ok (.if_icmp .ge 8, 3) := by decide +kernel
theorem dX6_stand_84 : decode cX6_stand 84 = .ok (.iload 6, 2) := by decide +kernel
theorem dX6_stand_86 : decode cX6_stand 86 = .ok (.goto 5, 3) := by decide +kernel
theorem dX6_stand_89 : decode cX6_stand 89 = .ok (.iload 4, 2) := by decide +kernel
theorem dX6_stand_91 : decode cX6_stand 91 = .ok (.istore 4, 2) := by decide +kernel
theorem dX6_stand_93 : decode cX6_stand 93 = .ok (.iinc 5 1, 3) := by decide +kernel
theorem dX6_stand_96 : decode cX6_stand 96 = .ok (.goto (-60), 3) := by decide +kernel
theorem dX6_stand_99 : decode cX6_stand 99 = .ok (.iload_n 2, 1) := by decide +kernel
theorem dX6_stand_100 : decode cX6_stand 100 = .ok (.ifCond .ne 7, 3) := by decide +kernel
theorem dX6_stand_103 : decode cX6_stand 103 = .ok (.iload_n 3, 1) := by decide +kernel
theorem dX6_stand_104 : decode cX6_stand 104 = .ok (.goto 5, 3) := by decide +kernel
theorem dX6_stand_107 : decode cX6_stand 107 = .ok (.iload 4, 2) := by decide +kernel
theorem dX6_stand_109 : decode cX6_stand 109 = .ok (.ireturn, 1) := by decide +kernel
set_option maxRecDepth 20000 in
theorem ggX6_helps_X6_layAside : GoodIn wsX6_helps wsX6_layAside := goodIn_r _ [7, 1, 2, 8, 9, 6, 10, 51, 52, 53, 54, 55, 56, 57, 58, 59, 60, 61, 62, 63, 64, 65, 66, 67, 68, 69] (by decide +kernel) (by decide +kernel)
set_option maxRecDepth 20000 in
theorem gX6_helps_X6_layAside : GoodIn wsX6_helps (wsV RX6 205 RX6 yX6_layAside wsX6_layAside) := goodIn_app (goodIn_of _ (by decide +kernel)) ggX6_helps_X6_layAside
set_option maxRecDepth 20000 in
theorem ggX6_helps_X6_bitesIn : GoodIn wsX6_helps wsX6_bitesIn := goodIn_r _ [14, 2, 15, 16, 6, 17, 18, 19, 20, 21, 22, 23, 24, 25, 26, 27, 28, 29, 30, 31, 32, 33, 34, 35, 36, 37, 38, 39, 40, 41, 42, 43, 44, 45, 46, 47, 48, 49, 50, 51, 52, 53, 54, 55, 56, 57, 58, 59, 60, 61, 62, 63, 64, 65, 66, 67, 68, 69] (by decide +kernel) (by decide +kernel)
set_option maxRecDepth 20000 in
theorem gX6_helps_X6_bitesIn : GoodIn wsX6_helps (wsV RX6 208 RX6 yX6_bitesIn wsX6_bitesIn) := goodIn_app (goodIn_of _ (by decide +kernel)) ggX6_helps_X6_bitesIn
set_option maxRecDepth 20000 in
theorem ggX6_helps_X6_lesser : GoodIn wsX6_helps wsX6_lesser := goodIn_r _ [38] (by decide +kernel) (by decide +kernel)
set_option maxRecDepth 20000 in
theorem gX6_helps_X6_lesser : GoodIn wsX6_helps (va_wsS RX6 128 yX6_lesser wsX6_lesser) := goodIn_app (goodIn_of _ (by decide +kernel)) ggX6_helps_X6_lesser
theorem dX6_helps_0 : decode cX6_helps 0 = .ok (.aload_n 0, 1) := by decide +kernel
theorem dX6_helps_1 : decode cX6_helps 1 = .ok (.invokevirtual 205, 3) := by decide +kernel
theorem dX6_helps_4 : decode cX6_helps 4 = .ok (.aload_n 0, 1) := by decide +kernel
theorem dX6_helps_5 : decode cX6_helps 5 = .ok (.bipush 20, 2) := by decide +kernel
theorem dX6_helps_7 : decode cX6_helps 7 = .ok (.invokevirtual 208, 3) := by decide +kernel
theorem dX6_helps_10 : decode cX6_helps 10 = .ok (.istore_n 1, 1) := by decide +kernel
theorem dX6_helps_11 : decode cX6_helps 11 = .ok (.iconst (-1), 1) := by decide +kernel
theorem dX6_helps_12 : decode cX6_helps 12 = .ok (.istore_n 2, 1) := by decide +kernel
theorem dX6_helps_13 : decode cX6_helps 13 = .ok (.iconst 0, 1) := by decide +kernel
theorem dX6_helps_14 : decode cX6_helps 14 = .ok (.istore_n 3, 1) := by decide +kernel
theorem dX6_helps_15 : decode cX6_helps 15 = .ok (.iload_n 3, 1) := by decide +kernel
theorem dX6_helps_16 : decode cX6_helps 16 = .ok (.aload_n 0, 1) := by decide +kernel
theorem dX6_helps_17 : decode cX6_helps 17 = .ok (.getfield 7, 3) := by decide +kernel
theorem dX6_helps_20 : decode cX6_helps 20 = .ok (.bipush 22, 2) := by decide +kernel
theorem dX6_helps_22 : decode cX6_helps 22 = .ok (.iaload, 1) := by decide +kernel
theorem dX6_helps_23 : decode cX6_helps 23 = .ok (.if_icmp .ge 105, 3) := by decide +kernel
theorem dX6_helps_26 : decode cX6_helps 26 = .ok (.iconst 0, 1) := by decide +kernel
theorem dX6_helps_27 : decode cX6_helps 27 = .ok (.istore 4, 2) := by decide +kernel
theorem dX6_helps_29 : decode cX6_helps 29 = .ok (.iload 4, 2) := by decide +kernel
theorem dX6_helps_31 : decode cX6_helps 31 = .ok (.bipush 10, 2) := by decide +kernel
theorem dX6_helps_33 : decode cX6_helps 33 = .ok (.if_icmp .ge 89, 3) := by decide +kernel
theorem dX6_helps_36 : decode cX6_helps 36 = .ok (.aload_n 0, 1) := by decide +kernel
theorem dX6_helps_37 : decode cX6_helps 37 = .ok (.invokevirtual 205, 3) := by decide +kernel
theorem dX6_helps_40 : decode cX6_helps 40 = .ok (.aload_n 0, 1) := by decide +kernel
theorem dX6_helps_41 : decode cX6_helps 41 = .ok (.iload 4, 2) := by decide +kernel
theorem dX6_helps_43 : decode cX6_helps 43 = .ok (.invokevirtual 208, 3) := by decide +kernel
theorem dX6_helps_46 : decode cX6_helps 46 = .ok (.istore 5, 2) := by decide +kernel
theorem dX6_helps_48 : decode cX6_helps 48 = .ok (.aload_n 0, 1) := by decide +kernel
theorem dX6_helps_49 : decode cX6_helps 49 = .ok (.getfield 16, 3) := by decide +kernel
theorem dX6_helps_52 : decode cX6_helps 52 = .ok (.bipush 6, 2) := by decide +kernel
theorem dX6_helps_54 : decode cX6_helps 54 = .ok (.iload_n 3, 1) := by decide +kernel
theorem dX6_helps_55 : decode cX6_helps 55 = .ok (.iadd, 1) := by decide +kernel
theorem dX6_helps_56 : decode cX6_helps 56 = .ok (.aload_n 0, 1) := by decide +kernel
theorem dX6_helps_57 : decode cX6_helps 57 = .ok (.getfield 16, 3) := by decide +kernel
theorem dX6_helps_60 : decode cX6_helps 60 = .ok (.bipush 6, 2) := by decide +kernel
theorem dX6_helps_62 : decode cX6_helps 62 = .ok (.iload_n 3, 1) := by decide +kernel
theorem dX6_helps_63 : decode cX6_helps 63 = .ok (.iadd, 1) := by decide +kernel
theorem dX6_helps_64 : decode cX6_helps 64 = .ok (.iaload, 1) := by decide +kernel
theorem dX6_helps_65 : decode cX6_helps 65 = .ok (.bipush 10, 2) := by decide +kernel
theorem dX6_helps_67 : decode cX6_helps 67 = .ok (.invokestatic 128, 3) := by decide +kernel
theorem dX6_helps_70 : decode cX6_helps 70 = .ok (.iastore, 1) := by decide +kernel
theorem dX6_helps_71 : decode cX6_helps 71 = .ok (.iload 5, 2) := by decide +kernel
theorem dX6_helps_73 : decode cX6_helps 73 = .ok (.aload_n 0, 1) := by decide +kernel
theorem dX6_helps_74 : decode cX6_helps 74 = .ok (.bipush 20, 2) := by decide +kernel
theorem dX6_helps_76 : decode cX6_helps 76 = .ok (.iload 4, 2) := by decide +kernel
theorem dX6_helps_78 : decode cX6_helps 78 = .ok (.isub, 1) := by decide +kernel
theorem dX6_helps_79 : decode cX6_helps 79 = .ok (.invokevirtual 208, 3) := by decide +kernel
theorem dX6_helps_82 : decode cX6_helps 82 = .ok (.iadd, 1) := by decide +kernel
theorem dX6_helps_83 : decode cX6_helps 83 = .ok (.istore 5, 2) := by decide +kernel
theorem dX6_helps_85 : decode cX6_helps 85 = .ok (.iload 5, 2) := by decide +kernel
theorem dX6_helps_87 : decode cX6_helps 87 = .ok (.iload_n 1, 1) := by decide +kernel
theorem dX6_helps_88 : decode cX6_helps 88 = .ok (.if_icmp .ge 13, 3) := by decide +kernel
theorem dX6_helps_91 : decode cX6_helps 91 = .ok (.bipush 10, 2) := by decide +kernel
theorem dX6_helps_93 : decode cX6_helps 93 = .ok (.iload_n 3, 1) := by decide +kernel
theorem dX6_helps_94 : decode cX6_helps 94 = .ok (.imul, 1) := by decide +kernel
theorem dX6_helps_95 : decode cX6_helps 95 = .ok (.iload 4, 2) := by decide +kernel
theorem dX6_helps_97 : decode cX6_helps 97 = .ok (.iadd, 1) := by decide +kernel
theorem dX6_helps_98 : decode cX6_helps 98 = .ok (.goto 4, 3) := by decide +kernel
theorem dX6_helps_101 : decode cX6_helps 101 = .ok (.iload_n 2, 1) := by decide +kernel
theorem dX6_helps_102 : decode cX6_helps 102 = .ok (.istore_n 2, 1) := by decide +kernel
theorem dX6_helps_103 : decode cX6_helps 103 = .ok (.iload 5, 2) := by decide +kernel
theorem dX6_helps_105 : decode cX6_helps 105 = .ok (.iload_n 1, 1) := by decide +kernel
theorem dX6_helps_106 : decode cX6_helps 106 = .ok (.if_icmp .ge 8, 3) := by decide +kernel
theorem dX6_helps_109 : decode cX6_helps 109 = .ok (.iload 5, 2) := by decide +kernel
theorem dX6_helps_111 : decode cX6_helps 111 = .ok (.goto 4, 3) := by decide +kernel
theorem dX6_helps_114 : decode cX6_helps 114 = .ok (.iload_n 1, 1) := by decide +kernel
theorem dX6_helps_115 : decode cX6_helps 115 = .ok (.istore_n 1, 1) := by decide +kernel
theorem dX6_helps_116 : decode cX6_helps 116 = .ok (.iinc 4 1, 3) := by decide +kernel
theorem dX6_helps_119 : decode cX6_helps 119 = .ok (.goto (-90), 3) := by decide +kernel
theorem dX6_helps_122 : decode cX6_helps 122 = .ok (.iinc 3 1, 3) := by decide +kernel
theorem dX6_helps_125 : decode cX6_helps 125 = .ok (.goto (-110), 3) := by decide +kernel
theorem dX6_helps_128 : decode cX6_helps 128 = .ok (.iload_n 2, 1) := by decide +kernel
theorem dX6_helps_129 : decode cX6_helps 129 = .ok (.ireturn, 1) := by decide +kernel
set_option maxRecDepth 20000 in
theorem ggX6_seatsAll_X6_layAside : GoodIn wsX6_seatsAll wsX6_layAside := goodIn_r _ [10, 1, 4, 11, 12, 9, 13, 44, 45, 46, 47, 48, 49, 50, 51, 52, 53, 54, 55, 56, 57, 58, 59, 60, 61, 62] (by decide +kernel) (by decide +kernel)
set_option maxRecDepth 20000 in
theorem gX6_seatsAll_X6_layAside : GoodIn wsX6_seatsAll (wsV RX6 205 RX6 yX6_layAside wsX6_layAside) := goodIn_app (goodIn_of _ (by decide +kernel)) ggX6_seatsAll_X6_layAside
set_option maxRecDepth 20000 in
theorem ggX6_seatsAll_X6_biters : GoodIn wsX6_seatsAll wsX6_biters := goodIn_r _ [16, 17, 18, 9, 19, 20, 21, 22, 23, 24, 25, 26, 27, 28, 29, 30, 31, 32, 33, 34, 35, 36, 37, 38, 39, 40] (by decide +kernel) (by decide +kernel)
set_option maxRecDepth 20000 in
theorem gX6_seatsAll_X6_biters : GoodIn wsX6_seatsAll (va_wsS RX6 176 yX6_biters wsX6_biters) := goodIn_app (goodIn_of _ (by decide +kernel)) ggX6_seatsAll_X6_biters
set_option maxRecDepth 20000 in
theorem ggX6_seatsAll_X6_bits : GoodIn wsX6_seatsAll wsX6_bits := goodIn_r _ [43] (by decide +kernel) (by decide +kernel)
set_option maxRecDepth 20000 in
theorem gX6_seatsAll_X6_bits : GoodIn wsX6_seatsAll (va_wsS RX6 184 yX6_bits wsX6_bits) := goodIn_app (goodIn_of _ (by decide +kernel)) ggX6_seatsAll_X6_bits
set_option maxRecDepth 20000 in
theorem ggX6_seatsAll_X6_copies : GoodIn wsX6_seatsAll wsX6_copies := goodIn_r _ [13] (by decide +kernel) (by decide +kernel)
set_option maxRecDepth 20000 in
theorem gX6_seatsAll_X6_copies : GoodIn wsX6_seatsAll (va_wsS RX6 152 yX6_copies wsX6_copies) := goodIn_app (goodIn_of _ (by decide +kernel)) ggX6_seatsAll_X6_copies
set_option maxRecDepth 20000 in
theorem ggX6_seatsAll_X6_whoIs : GoodIn wsX6_seatsAll wsX6_whoIs := goodIn_r _ [28] (by decide +kernel) (by decide +kernel)
set_option maxRecDepth 20000 in
theorem gX6_seatsAll_X6_whoIs : GoodIn wsX6_seatsAll (va_wsS RX6 73 yX6_whoIs wsX6_whoIs) := goodIn_app (goodIn_of _ (by decide +kernel)) ggX6_seatsAll_X6_whoIs
theorem dX6_seatsAll_0 : decode cX6_seatsAll 0 = .ok (.aload_n 0, 1) := by decide +kernel
theorem dX6_seatsAll_1 : decode cX6_seatsAll 1 = .ok (.getfield 7, 3) := by decide +kernel
theorem dX6_seatsAll_4 : decode cX6_seatsAll 4 = .ok (.bipush 22, 2) := by decide +kernel
theorem dX6_seatsAll_6 : decode cX6_seatsAll 6 = .ok (.iaload, 1) := by decide +kernel
theorem dX6_seatsAll_7 : decode cX6_seatsAll 7 = .ok (.istore_n 1, 1) := by decide +kernel
theorem dX6_seatsAll_8 : decode cX6_seatsAll 8 = .ok (.ldc 211, 2) := by decide +kernel
theorem dX6_seatsAll_10 : decode cX6_seatsAll 10 = .ok (.istore_n 2, 1) := by decide +kernel
theorem dX6_seatsAll_11 : decode cX6_seatsAll 11 = .ok (.aload_n 0, 1) := by decide +kernel
theorem dX6_seatsAll_12 : decode cX6_seatsAll 12 = .ok (.invokevirtual 205, 3) := by decide +kernel
theorem dX6_seatsAll_15 : decode cX6_seatsAll 15 = .ok (.iconst 0, 1) := by decide +kernel
theorem dX6_seatsAll_16 : decode cX6_seatsAll 16 = .ok (.istore_n 3, 1) := by decide +kernel
theorem dX6_seatsAll_17 : decode cX6_seatsAll 17 = .ok (.aload_n 0, 1) := by decide +kernel
theorem dX6_seatsAll_18 : decode cX6_seatsAll 18 = .ok (.getfield 33, 3) := by decide +kernel
theorem dX6_seatsAll_21 : decode cX6_seatsAll 21 = .ok (.iconst 0, 1) := by decide +kernel
theorem dX6_seatsAll_22 : decode cX6_seatsAll 22 = .ok (.iconst (-1), 1) := by decide +kernel
theorem dX6_seatsAll_23 : decode cX6_seatsAll 23 = .ok (.iastore, 1) := by decide +kernel
theorem dX6_seatsAll_24 : decode cX6_seatsAll 24 = .ok (.iload_n 3, 1) := by decide +kernel
theorem dX6_seatsAll_25 : decode cX6_seatsAll 25 = .ok (.ifCond .lt 151, 3) := by decide +kernel
theorem dX6_seatsAll_28 : decode cX6_seatsAll 28 = .ok (.iload_n 3, 1) := by decide +kernel
theorem dX6_seatsAll_29 : decode cX6_seatsAll 29 = .ok (.iload_n 1, 1) := by decide +kernel
theorem dX6_seatsAll_30 : decode cX6_seatsAll 30 = .ok (.if_icmp .ne 45, 3) := by decide +kernel
theorem dX6_seatsAll_33 : decode cX6_seatsAll 33 = .ok (.aload_n 0, 1) := by decide +kernel
theorem dX6_seatsAll_34 : decode cX6_seatsAll 34 = .ok (.getfield 16, 3) := by decide +kernel
theorem dX6_seatsAll_37 : decode cX6_seatsAll 37 = .ok (.invokestatic 176, 3) := by decide +kernel
theorem dX6_seatsAll_40 : decode cX6_seatsAll 40 = .ok (.invokestatic 184, 3) := by decide +kernel
theorem dX6_seatsAll_43 : decode cX6_seatsAll 43 = .ok (.istore 4, 2) := by decide +kernel
theorem dX6_seatsAll_45 : decode cX6_seatsAll 45 = .ok (.iload 4, 2) := by decide +kernel
theorem dX6_seatsAll_47 : decode cX6_seatsAll 47 = .ok (.iload_n 2, 1) := by decide +kernel
theorem dX6_seatsAll_48 : decode cX6_seatsAll 48 = .ok (.if_icmp .ge 21, 3) := by decide +kernel
theorem dX6_seatsAll_51 : decode cX6_seatsAll 51 = .ok (.iload 4, 2) := by decide +kernel
theorem dX6_seatsAll_53 : decode cX6_seatsAll 53 = .ok (.istore_n 2, 1) := by decide +kernel
theorem dX6_seatsAll_54 : decode cX6_seatsAll 54 = .ok (.aload_n 0, 1) := by decide +kernel
theorem dX6_seatsAll_55 : decode cX6_seatsAll 55 = .ok (.getfield 16, 3) := by decide +kernel
theorem dX6_seatsAll_58 : decode cX6_seatsAll 58 = .ok (.iconst 0, 1) := by decide +kernel
theorem dX6_seatsAll_59 : decode cX6_seatsAll 59 = .ok (.aload_n 0, 1) := by decide +kernel
theorem dX6_seatsAll_60 : decode cX6_seatsAll 60 = .ok (.getfield 36, 3) := by decide +kernel
theorem dX6_seatsAll_63 : decode cX6_seatsAll 63 = .ok (.iconst 0, 1) := by decide +kernel
theorem dX6_seatsAll_64 : decode cX6_seatsAll 64 = .ok (.bipush 6, 2) := by decide +kernel
theorem dX6_seatsAll_66 : decode cX6_seatsAll 66 = .ok (.invokestatic 152, 3) := by decide +kernel
theorem dX6_seatsAll_69 : decode cX6_seatsAll 69 = .ok (.iinc 3 (-1), 3) := by decide +kernel
theorem dX6_seatsAll_72 : decode cX6_seatsAll 72 = .ok (.goto (-48), 3) := by decide +kernel
theorem dX6_seatsAll_75 : decode cX6_seatsAll 75 = .ok (.aload_n 0, 1) := by decide +kernel
theorem dX6_seatsAll_76 : decode cX6_seatsAll 76 = .ok (.getfield 33, 3) := by decide +kernel
theorem dX6_seatsAll_79 : decode cX6_seatsAll 79 = .ok (.iload_n 3, 1) := by decide +kernel
theorem dX6_seatsAll_80 : decode cX6_seatsAll 80 = .ok (.dup2, 1) := by decide +kernel
theorem dX6_seatsAll_81 : decode cX6_seatsAll 81 = .ok (.iaload, 1) := by decide +kernel
theorem dX6_seatsAll_82 : decode cX6_seatsAll 82 = .ok (.iconst 1, 1) := by decide +kernel
theorem dX6_seatsAll_83 : decode cX6_seatsAll 83 = .ok (.iadd, 1) := by decide +kernel
theorem dX6_seatsAll_84 : decode cX6_seatsAll 84 = .ok (.iastore, 1) := by decide +kernel
theorem dX6_seatsAll_85 : decode cX6_seatsAll 85 = .ok (.iload_n 3, 1) := by decide +kernel
theorem dX6_seatsAll_86 : decode cX6_seatsAll 86 = .ok (.istore 4, 2) := by decide +kernel
theorem dX6_seatsAll_88 : decode cX6_seatsAll 88 = .ok (.iload 4, 2) := by decide +kernel
theorem dX6_seatsAll_90 : decode cX6_seatsAll 90 = .ok (.iload_n 1, 1) := by decide +kernel
theorem dX6_seatsAll_91 : decode cX6_seatsAll 91 = .ok (.if_icmp .ge 19, 3) := by decide +kernel
theorem dX6_seatsAll_94 : decode cX6_seatsAll 94 = .ok (.aload_n 0, 1) := by decide +kernel
theorem dX6_seatsAll_95 : decode cX6_seatsAll 95 = .ok (.getfield 16, 3) := by decide +kernel
theorem dX6_seatsAll_98 : decode cX6_seatsAll 98 = .ok (.iconst 0, 1) := by decide +kernel
theorem dX6_seatsAll_99 : decode cX6_seatsAll 99 = .ok (.iload 4, 2) := by decide +kernel
theorem dX6_seatsAll_101 : decode cX6_seatsAll 101 = .ok (.iadd, 1) := by decide +kernel
theorem dX6_seatsAll_102 : decode cX6_seatsAll 102 = .ok (.iconst (-1), 1) := by decide +kernel
theorem dX6_seatsAll_103 : decode cX6_seatsAll 103 = .ok (.iastore, 1) := by decide +kernel
theorem dX6_seatsAll_104 : decode cX6_seatsAll 104 = .ok (.iinc 4 1, 3) := by decide +kernel
theorem dX6_seatsAll_107 : decode cX6_seatsAll 107 = .ok (.goto (-19), 3) := by decide +kernel
theorem dX6_seatsAll_110 : decode cX6_seatsAll 110 = .ok (.aload_n 0, 1) := by decide +kernel
theorem dX6_seatsAll_111 : decode cX6_seatsAll 111 = .ok (.getfield 33, 3) := by decide +kernel
theorem dX6_seatsAll_114 : decode cX6_seatsAll 114 = .ok (.iload_n 3, 1) := by decide +kernel
theorem dX6_seatsAll_115 : decode cX6_seatsAll 115 = .ok (.iaload, 1) := by decide +kernel
theorem dX6_seatsAll_116 : decode cX6_seatsAll 116 = .ok (.bipush 7, 2) := by decide +kernel
theorem dX6_seatsAll_118 : decode cX6_seatsAll 118 = .ok (.if_icmp .le 9, 3) := by decide +kernel
theorem dX6_seatsAll_121 : decode cX6_seatsAll 121 = .ok (.iinc 3 (-1), 3) := by decide +kernel
theorem dX6_seatsAll_124 : decode cX6_seatsAll 124 = .ok (.goto (-100), 3) := by decide +kernel
theorem dX6_seatsAll_127 : decode cX6_seatsAll 127 = .ok (.aload_n 0, 1) := by decide +kernel
theorem dX6_seatsAll_128 : decode cX6_seatsAll 128 = .ok (.getfield 16, 3) := by decide +kernel
theorem dX6_seatsAll_131 : decode cX6_seatsAll 131 = .ok (.aload_n 0, 1) := by decide +kernel
theorem dX6_seatsAll_132 : decode cX6_seatsAll 132 = .ok (.getfield 33, 3) := by decide +kernel
theorem dX6_seatsAll_135 : decode cX6_seatsAll 135 = .ok (.iload_n 3, 1) := by decide +kernel
theorem dX6_seatsAll_136 : decode cX6_seatsAll 136 = .ok (.iaload, 1) := by decide +kernel
theorem dX6_seatsAll_137 : decode cX6_seatsAll 137 = .ok (.invokestatic 73, 3) := by decide +kernel
theorem dX6_seatsAll_140 : decode cX6_seatsAll 140 = .ok (.iconst (-1), 1) := by decide +kernel
theorem dX6_seatsAll_141 : decode cX6_seatsAll 141 = .ok (.if_icmp .ne (-117), 3) := by decide +kernel
theorem dX6_seatsAll_144 : decode cX6_seatsAll 144 = .ok (.aload_n 0, 1) := by decide +kernel
theorem dX6_seatsAll_145 : decode cX6_seatsAll 145 = .ok (.getfield 16, 3) := by decide +kernel
theorem dX6_seatsAll_148 : decode cX6_seatsAll 148 = .ok (.iconst 0, 1) := by decide +kernel
theorem dX6_seatsAll_149 : decode cX6_seatsAll 149 = .ok (.iload_n 3, 1) := by decide +kernel
theorem dX6_seatsAll_150 : decode cX6_seatsAll 150 = .ok (.iadd, 1) := by decide +kernel
theorem dX6_seatsAll_151 : decode cX6_seatsAll 151 = .ok (.aload_n 0, 1) := by decide +kernel
theorem dX6_seatsAll_152 : decode cX6_seatsAll 152 = .ok (.getfield 33, 3) := by decide +kernel
theorem dX6_seatsAll_155 : decode cX6_seatsAll 155 = .ok (.iload_n 3, 1) := by decide +kernel
theorem dX6_seatsAll_156 : decode cX6_seatsAll 156 = .ok (.iaload, 1) := by decide +kernel
theorem dX6_seatsAll_157 : decode cX6_seatsAll 157 = .ok (.iastore, 1) := by decide +kernel
theorem dX6_seatsAll_158 : decode cX6_seatsAll 158 = .ok (.iinc 3 1, 3) := by decide +kernel
theorem dX6_seatsAll_161 : decode cX6_seatsAll 161 = .ok (.iload_n 3, 1) := by decide +kernel
theorem dX6_seatsAll_162 : decode cX6_seatsAll 162 = .ok (.iload_n 1, 1) := by decide +kernel
theorem dX6_seatsAll_163 : decode cX6_seatsAll 163 = .ok (.if_icmp .ge (-139), 3) := by decide +kernel
theorem dX6_seatsAll_166 : decode cX6_seatsAll 166 = .ok (.aload_n 0, 1) := by decide +kernel
theorem dX6_seatsAll_167 : decode cX6_seatsAll 167 = .ok (.getfield 33, 3) := by decide +kernel
theorem dX6_seatsAll_170 : decode cX6_seatsAll 170 = .ok (.iload_n 3, 1) := by decide +kernel
theorem dX6_seatsAll_171 : decode cX6_seatsAll 171 = .ok (.iconst (-1), 1) := by decide +kernel
theorem dX6_seatsAll_172 : decode cX6_seatsAll 172 = .ok (.iastore, 1) := by decide +kernel
theorem dX6_seatsAll_173 : decode cX6_seatsAll 173 = .ok (.goto (-149), 3) := by decide +kernel
theorem dX6_seatsAll_176 : decode cX6_seatsAll 176 = .ok (.iload_n 2, 1) := by decide +kernel
theorem dX6_seatsAll_177 : decode cX6_seatsAll 177 = .ok (.ireturn, 1) := by decide +kernel
set_option maxRecDepth 20000 in
theorem ggX6_seated_X6_isChild : GoodIn wsX6_seated wsX6_isChild := goodIn_r _ [6, 7, 8, 9, 5, 10, 60, 61, 62, 63, 64, 65, 66, 67, 68, 69, 70, 71, 72, 73, 74, 75, 76, 77, 78] (by decide +kernel) (by decide +kernel)
set_option maxRecDepth 20000 in
theorem gX6_seated_X6_isChild : GoodIn wsX6_seated (wsV RX6 197 RX6 yX6_isChild wsX6_isChild) := goodIn_app (goodIn_of _ (by decide +kernel)) ggX6_seated_X6_isChild
set_option maxRecDepth 20000 in
theorem ggX6_seated_X6_worse : GoodIn wsX6_seated wsX6_worse := goodIn_r _ [14, 15, 60, 61, 62, 63, 64, 65, 66, 67, 68, 69, 70, 71, 72, 73, 74, 75, 76, 77, 78] (by decide +kernel) (by decide +kernel)
set_option maxRecDepth 20000 in
theorem gX6_seated_X6_worse : GoodIn wsX6_seated (wsV RX6 202 RX6 yX6_worse wsX6_worse) := goodIn_app (goodIn_of _ (by decide +kernel)) ggX6_seated_X6_worse
set_option maxRecDepth 20000 in
theorem ggX6_seated_X6_seatsAll : GoodIn wsX6_seated wsX6_seatsAll := goodIn_r _ [19, 7, 20, 21, 22, 1, 23, 24, 25, 5, 26, 27, 28, 29, 30, 31, 32, 33, 34, 35, 36, 37, 38, 39, 40, 41, 42, 43, 44, 45, 46, 47, 48, 49, 50, 51, 52, 53, 54, 55, 56, 57, 58, 59, 60, 61, 62, 63, 64, 65, 66, 67, 68, 69, 70, 71, 72, 73, 74, 75, 76, 77, 78] (by decide +kernel) (by decide +kernel)
set_option maxRecDepth 20000 in
theorem gX6_seated_X6_seatsAll : GoodIn wsX6_seated (wsV RX6 212 RX6 yX6_seatsAll wsX6_seatsAll) := goodIn_app (goodIn_of _ (by decide +kernel)) ggX6_seated_X6_seatsAll
theorem dX6_seated_0 : decode cX6_seated 0 = .ok (.iload_n 1, 1) := by decide +kernel
theorem dX6_seated_1 : decode cX6_seated 1 = .ok (.iconst (-1), 1) := by decide +kernel
theorem dX6_seated_2 : decode cX6_seated 2 = .ok (.if_icmp .eq 16, 3) := by decide +kernel
theorem dX6_seated_5 : decode cX6_seated 5 = .ok (.aload_n 0, 1) := by decide +kernel
theorem dX6_seated_6 : decode cX6_seated 6 = .ok (.iload_n 1, 1) := by decide +kernel
theorem dX6_seated_7 : decode cX6_seated 7 = .ok (.invokevirtual 197, 3) := by decide +kernel
theorem dX6_seated_10 : decode cX6_seated 10 = .ok (.ifCond .ne 8, 3) := by decide +kernel
theorem dX6_seated_13 : decode cX6_seated 13 = .ok (.aload_n 0, 1) := by decide +kernel
theorem dX6_seated_14 : decode cX6_seated 14 = .ok (.invokevirtual 202, 3) := by decide +kernel
theorem dX6_seated_17 : decode cX6_seated 17 = .ok (.ireturn, 1) := by decide +kernel
theorem dX6_seated_18 : decode cX6_seated 18 = .ok (.aload_n 0, 1) := by decide +kernel
theorem dX6_seated_19 : decode cX6_seated 19 = .ok (.invokevirtual 212, 3) := by decide +kernel
theorem dX6_seated_22 : decode cX6_seated 22 = .ok (.istore_n 2, 1) := by decide +kernel
theorem dX6_seated_23 : decode cX6_seated 23 = .ok (.iload_n 1, 1) := by decide +kernel
theorem dX6_seated_24 : decode cX6_seated 24 = .ok (.iconst (-1), 1) := by decide +kernel
theorem dX6_seated_25 : decode cX6_seated 25 = .ok (.if_icmp .ne 7, 3) := by decide +kernel
theorem dX6_seated_28 : decode cX6_seated 28 = .ok (.iload_n 2, 1) := by decide +kernel
theorem dX6_seated_29 : decode cX6_seated 29 = .ok (.goto 9, 3) := by decide +kernel
theorem dX6_seated_32 : decode cX6_seated 32 = .ok (.aload_n 0, 1) := by decide +kernel
theorem dX6_seated_33 : decode cX6_seated 33 = .ok (.getfield 36, 3) := by decide +kernel
theorem dX6_seated_36 : decode cX6_seated 36 = .ok (.iload_n 1, 1) := by decide +kernel
theorem dX6_seated_37 : decode cX6_seated 37 = .ok (.iaload, 1) := by decide +kernel
theorem dX6_seated_38 : decode cX6_seated 38 = .ok (.ireturn, 1) := by decide +kernel
set_option maxRecDepth 20000 in
theorem ggX6_words_X6_isChild : GoodIn wsX6_words wsX6_isChild := goodIn_r _ [6, 7, 8, 9, 5, 10, 38, 39, 40, 41, 42, 43, 44, 45, 46, 47, 48, 49, 50, 51, 52, 53, 54, 55, 56] (by decide +kernel) (by decide +kernel)
set_option maxRecDepth 20000 in
theorem gX6_words_X6_isChild : GoodIn wsX6_words (wsV RX6 197 RX6 yX6_isChild wsX6_isChild) := goodIn_app (goodIn_of _ (by decide +kernel)) ggX6_words_X6_isChild
set_option maxRecDepth 20000 in
theorem ggX6_words_X6_bad : GoodIn wsX6_words wsX6_bad := goodIn_r _ [14, 15, 38, 39, 40, 41, 42, 43, 44, 45, 46, 47, 48, 49, 50, 51, 52, 53, 54, 55, 56] (by decide +kernel) (by decide +kernel)
set_option maxRecDepth 20000 in
theorem gX6_words_X6_bad : GoodIn wsX6_words (wsV RX6 63 RX6 yX6_bad wsX6_bad) := goodIn_app (goodIn_of _ (by decide +kernel)) ggX6_words_X6_bad
set_option maxRecDepth 20000 in
theorem ggX6_words_X6_layAside : GoodIn wsX6_words wsX6_layAside := goodIn_r _ [19, 7, 1, 20, 21, 5, 22, 38, 39, 40, 41, 42, 43, 44, 45, 46, 47, 48, 49, 50, 51, 52, 53, 54, 55, 56] (by decide +kernel) (by decide +kernel)
set_option maxRecDepth 20000 in
theorem gX6_words_X6_layAside : GoodIn wsX6_words (wsV RX6 205 RX6 yX6_layAside wsX6_layAside) := goodIn_app (goodIn_of _ (by decide +kernel)) ggX6_words_X6_layAside
set_option maxRecDepth 20000 in
theorem ggX6_words_X6_nearOf : GoodIn wsX6_words wsX6_nearOf := goodIn_r _ [25, 26, 27, 5, 28, 29, 30, 31, 32, 33, 34, 35, 36, 37] (by decide +kernel) (by decide +kernel)
set_option maxRecDepth 20000 in
theorem gX6_words_X6_nearOf : GoodIn wsX6_words (va_wsS RX6 163 yX6_nearOf wsX6_nearOf) := goodIn_app (goodIn_of _ (by decide +kernel)) ggX6_words_X6_nearOf
theorem dX6_words_0 : decode cX6_words 0 = .ok (.aload_n 0, 1) := by decide +kernel
theorem dX6_words_1 : decode cX6_words 1 = .ok (.iload_n 1, 1) := by decide +kernel
theorem dX6_words_2 : decode cX6_words 2 = .ok (.invokevirtual 197, 3) := by decide +kernel
theorem dX6_words_5 : decode cX6_words 5 = .ok (.ifCond .ne 8, 3) := by decide +kernel
theorem dX6_words_8 : decode cX6_words 8 = .ok (.aload_n 0, 1) := by decide +kernel
theorem dX6_words_9 : decode cX6_words 9 = .ok (.invokevirtual 63, 3) := by decide +kernel
theorem dX6_words_12 : decode cX6_words 12 = .ok (.ireturn, 1) := by decide +kernel
theorem dX6_words_13 : decode cX6_words 13 = .ok (.iconst 0, 1) := by decide +kernel
theorem dX6_words_14 : decode cX6_words 14 = .ok (.istore_n 2, 1) := by decide +kernel
theorem dX6_words_15 : decode cX6_words 15 = .ok (.iload_n 2, 1) := by decide +kernel
theorem dX6_words_16 : decode cX6_words 16 = .ok (.bipush 41, 2) := by decide +kernel
theorem dX6_words_18 : decode cX6_words 18 = .ok (.if_icmp .ge 41, 3) := by decide +kernel
theorem dX6_words_21 : decode cX6_words 21 = .ok (.aload_n 0, 1) := by decide +kernel
theorem dX6_words_22 : decode cX6_words 22 = .ok (.invokevirtual 205, 3) := by decide +kernel
theorem dX6_words_25 : decode cX6_words 25 = .ok (.aload_n 0, 1) := by decide +kernel
theorem dX6_words_26 : decode cX6_words 26 = .ok (.getfield 16, 3) := by decide +kernel
theorem dX6_words_29 : decode cX6_words 29 = .ok (.bipush 29, 2) := by decide +kernel
theorem dX6_words_31 : decode cX6_words 31 = .ok (.iload_n 1, 1) := by decide +kernel
theorem dX6_words_32 : decode cX6_words 32 = .ok (.iadd, 1) := by decide +kernel
theorem dX6_words_33 : decode cX6_words 33 = .ok (.dup2, 1) := by decide +kernel
theorem dX6_words_34 : decode cX6_words 34 = .ok (.iaload, 1) := by decide +kernel
theorem dX6_words_35 : decode cX6_words 35 = .ok (.iload_n 2, 1) := by decide +kernel
theorem dX6_words_36 : decode cX6_words 36 = .ok (.iadd, 1) := by decide +kernel
theorem dX6_words_37 : decode cX6_words 37 = .ok (.iastore, 1) := by decide +kernel
theorem dX6_words_38 : decode cX6_words 38 = .ok (.aload_n 0, 1) := by decide +kernel
theorem dX6_words_39 : decode cX6_words 39 = .ok (.getfield 16, 3) := by decide +kernel
theorem dX6_words_42 : decode cX6_words 42 = .ok (.iload_n 1, 1) := by decide +kernel
theorem dX6_words_43 : decode cX6_words 43 = .ok (.invokestatic 163, 3) := by decide +kernel
theorem dX6_words_46 : decode cX6_words 46 = .ok (.bipush 12, 2) := by decide +kernel
theorem dX6_words_48 : decode cX6_words 48 = .ok (.if_icmp .ge 5, 3) := by decide +kernel
theorem dX6_words_51 : decode cX6_words 51 = .ok (.iload_n 2, 1) := by decide +kernel
theorem dX6_words_52 : decode cX6_words 52 = .ok (.ireturn, 1) := by decide +kernel
theorem dX6_words_53 : decode cX6_words 53 = .ok (.iinc 2 1, 3) := by decide +kernel
theorem dX6_words_56 : decode cX6_words 56 = .ok (.goto (-41), 3) := by decide +kernel
theorem dX6_words_59 : decode cX6_words 59 = .ok (.iconst (-1), 1) := by decide +kernel
theorem dX6_words_60 : decode cX6_words 60 = .ok (.ireturn, 1) := by decide +kernel
set_option maxRecDepth 20000 in
theorem ggX6_say_X6_layAside : GoodIn wsX6_say wsX6_layAside := goodIn_r _ [8, 2, 3, 9, 10, 7, 11, 52, 53, 54, 55, 56, 57, 58, 59, 60, 61, 62, 63, 64, 65, 66, 67, 68, 69, 70] (by decide +kernel) (by decide +kernel)
set_option maxRecDepth 20000 in
theorem gX6_say_X6_layAside : GoodIn wsX6_say (wsV RX6 205 RX6 yX6_layAside wsX6_layAside) := goodIn_app (goodIn_of _ (by decide +kernel)) ggX6_say_X6_layAside
set_option maxRecDepth 20000 in
theorem ggX6_say_X6_bitesIn : GoodIn wsX6_say wsX6_bitesIn := goodIn_r _ [15, 3, 16, 17, 7, 18, 19, 20, 21, 22, 23, 24, 25, 26, 27, 28, 29, 30, 31, 32, 33, 34, 35, 36, 37, 38, 39, 40, 41, 42, 43, 44, 45, 46, 47, 48, 49, 50, 51, 52, 53, 54, 55, 56, 57, 58, 59, 60, 61, 62, 63, 64, 65, 66, 67, 68, 69, 70] (by decide +kernel) (by decide +kernel)
set_option maxRecDepth 20000 in
theorem gX6_say_X6_bitesIn : GoodIn wsX6_say (wsV RX6 208 RX6 yX6_bitesIn wsX6_bitesIn) := goodIn_app (goodIn_of _ (by decide +kernel)) ggX6_say_X6_bitesIn
theorem dX6_say_0 : decode cX6_say 0 = .ok (.iconst (-1), 1) := by decide +kernel
theorem dX6_say_1 : decode cX6_say 1 = .ok (.istore_n 1, 1) := by decide +kernel
theorem dX6_say_2 : decode cX6_say 2 = .ok (.ldc 211, 2) := by decide +kernel
theorem dX6_say_4 : decode cX6_say 4 = .ok (.istore_n 2, 1) := by decide +kernel
theorem dX6_say_5 : decode cX6_say 5 = .ok (.iconst 0, 1) := by decide +kernel
theorem dX6_say_6 : decode cX6_say 6 = .ok (.istore_n 3, 1) := by decide +kernel
theorem dX6_say_7 : decode cX6_say 7 = .ok (.iload_n 3, 1) := by decide +kernel
theorem dX6_say_8 : decode cX6_say 8 = .ok (.aload_n 0, 1) := by decide +kernel
theorem dX6_say_9 : decode cX6_say 9 = .ok (.getfield 7, 3) := by decide +kernel
theorem dX6_say_12 : decode cX6_say 12 = .ok (.bipush 22, 2) := by decide +kernel
theorem dX6_say_14 : decode cX6_say 14 = .ok (.iaload, 1) := by decide +kernel
theorem dX6_say_15 : decode cX6_say 15 = .ok (.if_icmp .ge 60, 3) := by decide +kernel
theorem dX6_say_18 : decode cX6_say 18 = .ok (.aload_n 0, 1) := by decide +kernel
theorem dX6_say_19 : decode cX6_say 19 = .ok (.invokevirtual 205, 3) := by decide +kernel
theorem dX6_say_22 : decode cX6_say 22 = .ok (.aload_n 0, 1) := by decide +kernel
theorem dX6_say_23 : decode cX6_say 23 = .ok (.getfield 16, 3) := by decide +kernel
theorem dX6_say_26 : decode cX6_say 26 = .ok (.bipush 29, 2) := by decide +kernel
theorem dX6_say_28 : decode cX6_say 28 = .ok (.iload_n 3, 1) := by decide +kernel
theorem dX6_say_29 : decode cX6_say 29 = .ok (.iadd, 1) := by decide +kernel
theorem dX6_say_30 : decode cX6_say 30 = .ok (.dup2, 1) := by decide +kernel
theorem dX6_say_31 : decode cX6_say 31 = .ok (.iaload, 1) := by decide +kernel
theorem dX6_say_32 : decode cX6_say 32 = .ok (.bipush 10, 2) := by decide +kernel
theorem dX6_say_34 : decode cX6_say 34 = .ok (.iadd, 1) := by decide +kernel
theorem dX6_say_35 : decode cX6_say 35 = .ok (.iastore, 1) := by decide +kernel
theorem dX6_say_36 : decode cX6_say 36 = .ok (.aload_n 0, 1) := by decide +kernel
theorem dX6_say_37 : decode cX6_say 37 = .ok (.bipush 20, 2) := by decide +kernel
theorem dX6_say_39 : decode cX6_say 39 = .ok (.invokevirtual 208, 3) := by decide +kernel
theorem dX6_say_42 : decode cX6_say 42 = .ok (.istore 4, 2) := by decide +kernel
theorem dX6_say_44 : decode cX6_say 44 = .ok (.iload 4, 2) := by decide +kernel
theorem dX6_say_46 : decode cX6_say 46 = .ok (.iload_n 2, 1) := by decide +kernel
theorem dX6_say_47 : decode cX6_say 47 = .ok (.if_icmp .ge 7, 3) := by decide +kernel
theorem dX6_say_50 : decode cX6_say 50 = .ok (.iload_n 3, 1) := by decide +kernel
theorem dX6_say_51 : decode cX6_say 51 = .ok (.goto 4, 3) := by decide +kernel
theorem dX6_say_54 : decode cX6_say 54 = .ok (.iload_n 1, 1) := by decide +kernel
theorem dX6_say_55 : decode cX6_say 55 = .ok (.istore_n 1, 1) := by decide +kernel
theorem dX6_say_56 : decode cX6_say 56 = .ok (.iload 4, 2) := by decide +kernel
theorem dX6_say_58 : decode cX6_say 58 = .ok (.iload_n 2, 1) := by decide +kernel
theorem dX6_say_59 : decode cX6_say 59 = .ok (.if_icmp .ge 8, 3) := by decide +kernel
theorem dX6_say_62 : decode cX6_say 62 = .ok (.iload 4, 2) := by decide +kernel
theorem dX6_say_64 : decode cX6_say 64 = .ok (.goto 4, 3) := by decide +kernel
theorem dX6_say_67 : decode cX6_say 67 = .ok (.iload_n 2, 1) := by decide +kernel
theorem dX6_say_68 : decode cX6_say 68 = .ok (.istore_n 2, 1) := by decide +kernel
theorem dX6_say_69 : decode cX6_say 69 = .ok (.iinc 3 1, 3) := by decide +kernel
theorem dX6_say_72 : decode cX6_say 72 = .ok (.goto (-65), 3) := by decide +kernel
theorem dX6_say_75 : decode cX6_say 75 = .ok (.iload_n 1, 1) := by decide +kernel
theorem dX6_say_76 : decode cX6_say 76 = .ok (.ireturn, 1) := by decide +kernel
set_option maxRecDepth 20000 in
theorem ggX6_note_X6_isChild : GoodIn wsX6_note wsX6_isChild := goodIn_r _ [12, 7, 13, 14, 11, 15, 26, 27, 28, 29, 30, 31, 32, 33, 34, 35, 36, 37, 38, 39, 40, 41, 42, 43, 44] (by decide +kernel) (by decide +kernel)
set_option maxRecDepth 20000 in
theorem gX6_note_X6_isChild : GoodIn wsX6_note (wsV RX6 197 RX6 yX6_isChild wsX6_isChild) := goodIn_app (goodIn_of _ (by decide +kernel)) ggX6_note_X6_isChild
set_option maxRecDepth 20000 in
theorem ggX6_note_X6_in : GoodIn wsX6_note wsX6_in := goodIn_r _ [15] (by decide +kernel) (by decide +kernel)
set_option maxRecDepth 20000 in
theorem gX6_note_X6_in : GoodIn wsX6_note (va_wsS RX6 55 yX6_in wsX6_in) := goodIn_app (goodIn_of _ (by decide +kernel)) ggX6_note_X6_in
set_option maxRecDepth 20000 in
theorem ggX6_note_X6_bad : GoodIn wsX6_note wsX6_bad := goodIn_r _ [19, 20, 26, 27, 28, 29, 30, 31, 32, 33, 34, 35, 36, 37, 38, 39, 40, 41, 42, 43, 44] (by decide +kernel) (by decide +kernel)
set_option maxRecDepth 20000 in
theorem gX6_note_X6_bad : GoodIn wsX6_note (wsV RX6 63 RX6 yX6_bad wsX6_bad) := goodIn_app (goodIn_of _ (by decide +kernel)) ggX6_note_X6_bad
set_option maxRecDepth 20000 in
theorem ggX6_note_X6_full : GoodIn wsX6_note wsX6_full := goodIn_r _ [24, 25, 26, 27, 28, 29, 30, 31, 32, 33, 34, 35, 36, 37, 38, 39, 40, 41, 42, 43, 44] (by decide +kernel) (by decide +kernel)
set_option maxRecDepth 20000 in
theorem gX6_note_X6_full : GoodIn wsX6_note (wsV RX6 80 RX6 yX6_full wsX6_full) := goodIn_app (goodIn_of _ (by decide +kernel)) ggX6_note_X6_full
theorem dX6_note_0 : decode cX6_note 0 = .ok (.aload_n 0, 1) := by decide +kernel
theorem dX6_note_1 : decode cX6_note 1 = .ok (.iload_n 1, 1) := by decide +kernel
theorem dX6_note_2 : decode cX6_note 2 = .ok (.invokevirtual 197, 3) := by decide +kernel
theorem dX6_note_5 : decode cX6_note 5 = .ok (.ifCond .eq 79, 3) := by decide +kernel
theorem dX6_note_8 : decode cX6_note 8 = .ok (.iload_n 2, 1) := by decide +kernel
theorem dX6_note_9 : decode cX6_note 9 = .ok (.i2l, 1) := by decide +kernel
theorem dX6_note_10 : decode cX6_note 10 = .ok (.lconst 0, 1) := by decide +kernel
theorem dX6_note_11 : decode cX6_note 11 = .ok (.ldc2_w 71, 3) := by decide +kernel
theorem dX6_note_14 : decode cX6_note 14 = .ok (.invokestatic 55, 3) := by decide +kernel
theorem dX6_note_17 : decode cX6_note 17 = .ok (.ifCond .eq 67, 3) := by decide +kernel
theorem dX6_note_20 : decode cX6_note 20 = .ok (.iload_n 3, 1) := by decide +kernel
theorem dX6_note_21 : decode cX6_note 21 = .ok (.i2l, 1) := by decide +kernel
theorem dX6_note_22 : decode cX6_note 22 = .ok (.lconst 0, 1) := by decide +kernel
theorem dX6_note_23 : decode cX6_note 23 = .ok (.ldc2_w 200, 3) := by decide +kernel
theorem dX6_note_26 : decode cX6_note 26 = .ok (.invokestatic 55, 3) := by decide +kernel
theorem dX6_note_29 : decode cX6_note 29 = .ok (.ifCond .eq 55, 3) := by decide +kernel
theorem dX6_note_32 : decode cX6_note 32 = .ok (.iload 4, 2) := by decide +kernel
theorem dX6_note_34 : decode cX6_note 34 = .ok (.i2l, 1) := by decide +kernel
theorem dX6_note_35 : decode cX6_note 35 = .ok (.lconst 0, 1) := by decide +kernel
theorem dX6_note_36 : decode cX6_note 36 = .ok (.ldc2_w 69, 3) := by decide +kernel
theorem dX6_note_39 : decode cX6_note 39 = .ok (.invokestatic 55, 3) := by decide +kernel
theorem dX6_note_42 : decode cX6_note 42 = .ok (.ifCond .eq 42, 3) := by decide +kernel
theorem dX6_note_45 : decode cX6_note 45 = .ok (.iload 5, 2) := by decide +kernel
theorem dX6_note_47 : decode cX6_note 47 = .ok (.i2l, 1) := by decide +kernel
theorem dX6_note_48 : decode cX6_note 48 = .ok (.lconst 0, 1) := by decide +kernel
theorem dX6_note_49 : decode cX6_note 49 = .ok (.ldc2_w 215, 3) := by decide +kernel
theorem dX6_note_52 : decode cX6_note 52 = .ok (.invokestatic 55, 3) := by decide +kernel
theorem dX6_note_55 : decode cX6_note 55 = .ok (.ifCond .eq 29, 3) := by decide +kernel
theorem dX6_note_58 : decode cX6_note 58 = .ok (.iload 6, 2) := by decide +kernel
theorem dX6_note_60 : decode cX6_note 60 = .ok (.i2l, 1) := by decide +kernel
theorem dX6_note_61 : decode cX6_note 61 = .ok (.lconst 0, 1) := by decide +kernel
theorem dX6_note_62 : decode cX6_note 62 = .ok (.ldc2_w 217, 3) := by decide +kernel
theorem dX6_note_65 : decode cX6_note 65 = .ok (.invokestatic 55, 3) := by decide +kernel
theorem dX6_note_68 : decode cX6_note 68 = .ok (.ifCond .eq 16, 3) := by decide +kernel
theorem dX6_note_71 : decode cX6_note 71 = .ok (.iload 7, 2) := by decide +kernel
theorem dX6_note_73 : decode cX6_note 73 = .ok (.i2l, 1) := by decide +kernel
theorem dX6_note_74 : decode cX6_note 74 = .ok (.lconst 0, 1) := by decide +kernel
theorem dX6_note_75 : decode cX6_note 75 = .ok (.ldc2_w 188, 3) := by decide +kernel
theorem dX6_note_78 : decode cX6_note 78 = .ok (.invokestatic 55, 3) := by decide +kernel
theorem dX6_note_81 : decode cX6_note 81 = .ok (.ifCond .ne 8, 3) := by decide +kernel
theorem dX6_note_84 : decode cX6_note 84 = .ok (.aload_n 0, 1) := by decide +kernel
theorem dX6_note_85 : decode cX6_note 85 = .ok (.invokevirtual 63, 3) := by decide +kernel
theorem dX6_note_88 : decode cX6_note 88 = .ok (.ireturn, 1) := by decide +kernel
theorem dX6_note_89 : decode cX6_note 89 = .ok (.aload_n 0, 1) := by decide +kernel
theorem dX6_note_90 : decode cX6_note 90 = .ok (.getfield 7, 3) := by decide +kernel
theorem dX6_note_93 : decode cX6_note 93 = .ok (.bipush 35, 2) := by decide +kernel
theorem dX6_note_95 : decode cX6_note 95 = .ok (.iaload, 1) := by decide +kernel
theorem dX6_note_96 : decode cX6_note 96 = .ok (.bipush 6, 2) := by decide +kernel
theorem dX6_note_98 : decode cX6_note 98 = .ok (.if_icmp .ne 8, 3) := by decide +kernel
theorem dX6_note_101 : decode cX6_note 101 = .ok (.aload_n 0, 1) := by decide +kernel
theorem dX6_note_102 : decode cX6_note 102 = .ok (.invokevirtual 80, 3) := by decide +kernel
theorem dX6_note_105 : decode cX6_note 105 = .ok (.ireturn, 1) := by decide +kernel
theorem dX6_note_106 : decode cX6_note 106 = .ok (.bipush 36, 2) := by decide +kernel
theorem dX6_note_108 : decode cX6_note 108 = .ok (.bipush 7, 2) := by decide +kernel
theorem dX6_note_110 : decode cX6_note 110 = .ok (.aload_n 0, 1) := by decide +kernel
theorem dX6_note_111 : decode cX6_note 111 = .ok (.getfield 7, 3) := by decide +kernel
theorem dX6_note_114 : decode cX6_note 114 = .ok (.bipush 35, 2) := by decide +kernel
theorem dX6_note_116 : decode cX6_note 116 = .ok (.iaload, 1) := by decide +kernel
theorem dX6_note_117 : decode cX6_note 117 = .ok (.imul, 1) := by decide +kernel
theorem dX6_note_118 : decode cX6_note 118 = .ok (.iadd, 1) := by decide +kernel
theorem dX6_note_119 : decode cX6_note 119 = .ok (.istore 8, 2) := by decide +kernel
theorem dX6_note_121 : decode cX6_note 121 = .ok (.aload_n 0, 1) := by decide +kernel
theorem dX6_note_122 : decode cX6_note 122 = .ok (.getfield 7, 3) := by decide +kernel
theorem dX6_note_125 : decode cX6_note 125 = .ok (.iload 8, 2) := by decide +kernel
theorem dX6_note_127 : decode cX6_note 127 = .ok (.iload_n 1, 1) := by decide +kernel
theorem dX6_note_128 : decode cX6_note 128 = .ok (.iastore, 1) := by decide +kernel
theorem dX6_note_129 : decode cX6_note 129 = .ok (.aload_n 0, 1) := by decide +kernel
theorem dX6_note_130 : decode cX6_note 130 = .ok (.getfield 7, 3) := by decide +kernel
theorem dX6_note_133 : decode cX6_note 133 = .ok (.iload 8, 2) := by decide +kernel
theorem dX6_note_135 : decode cX6_note 135 = .ok (.iconst 1, 1) := by decide +kernel
theorem dX6_note_136 : decode cX6_note 136 = .ok (.iadd, 1) := by decide +kernel
theorem dX6_note_137 : decode cX6_note 137 = .ok (.iload_n 2, 1) := by decide +kernel
theorem dX6_note_138 : decode cX6_note 138 = .ok (.iastore, 1) := by decide +kernel
theorem dX6_note_139 : decode cX6_note 139 = .ok (.aload_n 0, 1) := by decide +kernel
theorem dX6_note_140 : decode cX6_note 140 = .ok (.getfield 7, 3) := by decide +kernel
theorem dX6_note_143 : decode cX6_note 143 = .ok (.iload 8, 2) := by decide +kernel
theorem dX6_note_145 : decode cX6_note 145 = .ok (.iconst 2, 1) := by decide +kernel
theorem dX6_note_146 : decode cX6_note 146 = .ok (.iadd, 1) := by decide +kernel
theorem dX6_note_147 : decode cX6_note 147 = .ok (.iload_n 3, 1) := by decide +kernel
theorem dX6_note_148 : decode cX6_note 148 = .ok (.iastore, 1) := by decide +kernel
theorem dX6_note_149 : decode cX6_note 149 = .ok (.aload_n 0, 1) := by decide +kernel
theorem dX6_note_150 : decode cX6_note 150 = .ok (.getfield 7, 3) := by decide +kernel
theorem dX6_note_153 : decode cX6_note 153 = .ok (.iload 8, 2) := by decide +kernel
theorem dX6_note_155 : decode cX6_note 155 = .ok (.iconst 3, 1) := by decide +kernel
theorem dX6_note_156 : decode cX6_note 156 = .ok (.iadd, 1) := by decide +kernel
theorem dX6_note_157 : decode cX6_note 157 = .ok (.iload 4, 2) := by decide +kernel
theorem dX6_note_159 : decode cX6_note 159 = .ok (.iastore, 1) := by decide +kernel
theorem dX6_note_160 : decode cX6_note 160 = .ok (.aload_n 0, 1) := by decide +kernel
theorem dX6_note_161 : decode cX6_note 161 = .ok (.getfield 7, 3) := by decide +kernel
theorem dX6_note_164 : decode cX6_note 164 = .ok (.iload 8, 2) := by decide +kernel
theorem dX6_note_166 : decode cX6_note 166 = .ok (.iconst 4, 1) := by decide +kernel
theorem dX6_note_167 : decode cX6_note 167 = .ok (.iadd, 1) := by decide +kernel
theorem dX6_note_168 : decode cX6_note 168 = .ok (.iload 5, 2) := by decide +kernel
theorem dX6_note_170 : decode cX6_note 170 = .ok (.iastore, 1) := by decide +kernel
theorem dX6_note_171 : decode cX6_note 171 = .ok (.aload_n 0, 1) := by decide +kernel
theorem dX6_note_172 : decode cX6_note 172 = .ok (.getfield 7, 3) := by decide +kernel
theorem dX6_note_175 : decode cX6_note 175 = .ok (.iload 8, 2) := by decide +kernel
theorem dX6_note_177 : decode cX6_note 177 = .ok (.iconst 5, 1) := by decide +kernel
theorem dX6_note_178 : decode cX6_note 178 = .ok (.iadd, 1) := by decide +kernel
theorem dX6_note_179 : decode cX6_note 179 = .ok (.iload 6, 2) := by decide +kernel
theorem dX6_note_181 : decode cX6_note 181 = .ok (.iastore, 1) := by decide +kernel
theorem dX6_note_182 : decode cX6_note 182 = .ok (.aload_n 0, 1) := by decide +kernel
theorem dX6_note_183 : decode cX6_note 183 = .ok (.getfield 7, 3) := by decide +kernel
theorem dX6_note_186 : decode cX6_note 186 = .ok (.iload 8, 2) := by decide +kernel
theorem dX6_note_188 : decode cX6_note 188 = .ok (.bipush 6, 2) := by decide +kernel
theorem dX6_note_190 : decode cX6_note 190 = .ok (.iadd, 1) := by decide +kernel
theorem dX6_note_191 : decode cX6_note 191 = .ok (.iload 7, 2) := by decide +kernel
theorem dX6_note_193 : decode cX6_note 193 = .ok (.iastore, 1) := by decide +kernel
theorem dX6_note_194 : decode cX6_note 194 = .ok (.aload_n 0, 1) := by decide +kernel
theorem dX6_note_195 : decode cX6_note 195 = .ok (.getfield 7, 3) := by decide +kernel
theorem dX6_note_198 : decode cX6_note 198 = .ok (.bipush 35, 2) := by decide +kernel
theorem dX6_note_200 : decode cX6_note 200 = .ok (.dup2, 1) := by decide +kernel
theorem dX6_note_201 : decode cX6_note 201 = .ok (.iaload, 1) := by decide +kernel
theorem dX6_note_202 : decode cX6_note 202 = .ok (.iconst 1, 1) := by decide +kernel
theorem dX6_note_203 : decode cX6_note 203 = .ok (.iadd, 1) := by decide +kernel
theorem dX6_note_204 : decode cX6_note 204 = .ok (.iastore, 1) := by decide +kernel
theorem dX6_note_205 : decode cX6_note 205 = .ok (.aload_n 0, 1) := by decide +kernel
theorem dX6_note_206 : decode cX6_note 206 = .ok (.getfield 7, 3) := by decide +kernel
theorem dX6_note_209 : decode cX6_note 209 = .ok (.bipush 35, 2) := by decide +kernel
theorem dX6_note_211 : decode cX6_note 211 = .ok (.iaload, 1) := by decide +kernel
theorem dX6_note_212 : decode cX6_note 212 = .ok (.ireturn, 1) := by decide +kernel
theorem dX6_forget_0 : decode cX6_forget 0 = .ok (.aload_n 0, 1) := by decide +kernel
theorem dX6_forget_1 : decode cX6_forget 1 = .ok (.getfield 7, 3) := by decide +kernel
theorem dX6_forget_4 : decode cX6_forget 4 = .ok (.bipush 35, 2) := by decide +kernel
theorem dX6_forget_6 : decode cX6_forget 6 = .ok (.iaload, 1) := by decide +kernel
theorem dX6_forget_7 : decode cX6_forget 7 = .ok (.istore_n 1, 1) := by decide +kernel
theorem dX6_forget_8 : decode cX6_forget 8 = .ok (.aload_n 0, 1) := by decide +kernel
theorem dX6_forget_9 : decode cX6_forget 9 = .ok (.getfield 7, 3) := by decide +kernel
theorem dX6_forget_12 : decode cX6_forget 12 = .ok (.bipush 35, 2) := by decide +kernel
theorem dX6_forget_14 : decode cX6_forget 14 = .ok (.iconst 0, 1) := by decide +kernel
theorem dX6_forget_15 : decode cX6_forget 15 = .ok (.iastore, 1) := by decide +kernel
theorem dX6_forget_16 : decode cX6_forget 16 = .ok (.iload_n 1, 1) := by decide +kernel
theorem dX6_forget_17 : decode cX6_forget 17 = .ok (.ireturn, 1) := by decide +kernel
set_option maxRecDepth 20000 in
theorem ggX6_kindsOf_X6_nearAs : GoodIn wsX6_kindsOf wsX6_nearAs := goodIn_r _ [5, 6, 7, 4, 8] (by decide +kernel) (by decide +kernel)
set_option maxRecDepth 20000 in
theorem gX6_kindsOf_X6_nearAs : GoodIn wsX6_kindsOf (va_wsS RX6 159 yX6_nearAs wsX6_nearAs) := goodIn_app (goodIn_of _ (by decide +kernel)) ggX6_kindsOf_X6_nearAs
theorem dX6_kindsOf_0 : decode cX6_kindsOf 0 = .ok (.iconst 0, 1) := by decide +kernel
theorem dX6_kindsOf_1 : decode cX6_kindsOf 1 = .ok (.istore_n 2, 1) := by decide +kernel
theorem dX6_kindsOf_2 : decode cX6_kindsOf 2 = .ok (.iconst 0, 1) := by decide +kernel
theorem dX6_kindsOf_3 : decode cX6_kindsOf 3 = .ok (.istore_n 3, 1) := by decide +kernel
theorem dX6_kindsOf_4 : decode cX6_kindsOf 4 = .ok (.iload_n 3, 1) := by decide +kernel
theorem dX6_kindsOf_5 : decode cX6_kindsOf 5 = .ok (.bipush 6, 2) := by decide +kernel
theorem dX6_kindsOf_7 : decode cX6_kindsOf 7 = .ok (.if_icmp .ge 140, 3) := by decide +kernel
theorem dX6_kindsOf_10 : decode cX6_kindsOf 10 = .ok (.iconst 1, 1) := by decide +kernel
theorem dX6_kindsOf_11 : decode cX6_kindsOf 11 = .ok (.istore 4, 2) := by decide +kernel
theorem dX6_kindsOf_13 : decode cX6_kindsOf 13 = .ok (.bipush 36, 2) := by decide +kernel
theorem dX6_kindsOf_15 : decode cX6_kindsOf 15 = .ok (.istore 5, 2) := by decide +kernel
theorem dX6_kindsOf_17 : decode cX6_kindsOf 17 = .ok (.iload 5, 2) := by decide +kernel
theorem dX6_kindsOf_19 : decode cX6_kindsOf 19 = .ok (.bipush 36, 2) := by decide +kernel
theorem dX6_kindsOf_21 : decode cX6_kindsOf 21 = .ok (.bipush 7, 2) := by decide +kernel
theorem dX6_kindsOf_23 : decode cX6_kindsOf 23 = .ok (.aload_n 0, 1) := by decide +kernel
theorem dX6_kindsOf_24 : decode cX6_kindsOf 24 = .ok (.getfield 7, 3) := by decide +kernel
theorem dX6_kindsOf_27 : decode cX6_kindsOf 27 = .ok (.bipush 35, 2) := by decide +kernel
theorem dX6_kindsOf_29 : decode cX6_kindsOf 29 = .ok (.iaload, 1) := by decide +kernel
theorem dX6_kindsOf_30 : decode cX6_kindsOf 30 = .ok (.imul, 1) := by decide +kernel
theorem dX6_kindsOf_31 : decode cX6_kindsOf 31 = .ok (.iadd, 1) := by decide +kernel
theorem dX6_kindsOf_32 : decode cX6_kindsOf 32 = .ok (.if_icmp .ge 94, 3) := by decide +kernel
theorem dX6_kindsOf_35 : decode cX6_kindsOf 35 = .ok (.iload 4, 2) := by decide +kernel
theorem dX6_kindsOf_37 : decode cX6_kindsOf 37 = .ok (.ifCond .eq 80, 3) := by decide +kernel
theorem dX6_kindsOf_40 : decode cX6_kindsOf 40 = .ok (.aload_n 0, 1) := by decide +kernel
theorem dX6_kindsOf_41 : decode cX6_kindsOf 41 = .ok (.getfield 7, 3) := by decide +kernel
theorem dX6_kindsOf_44 : decode cX6_kindsOf 44 = .ok (.iload 5, 2) := by decide +kernel
theorem dX6_kindsOf_46 : decode cX6_kindsOf 46 = .ok (.iaload, 1) := by decide +kernel
theorem dX6_kindsOf_47 : decode cX6_kindsOf 47 = .ok (.iload_n 1, 1) := by decide +kernel
theorem dX6_kindsOf_48 : decode cX6_kindsOf 48 = .ok (.if_icmp .ne 65, 3) := by decide +kernel
theorem dX6_kindsOf_51 : decode cX6_kindsOf 51 = .ok (.iload_n 3, 1) := by decide +kernel
theorem dX6_kindsOf_52 : decode cX6_kindsOf 52 = .ok (.aload_n 0, 1) := by decide +kernel
theorem dX6_kindsOf_53 : decode cX6_kindsOf 53 = .ok (.getfield 7, 3) := by decide +kernel
theorem dX6_kindsOf_56 : decode cX6_kindsOf 56 = .ok (.iload 5, 2) := by decide +kernel
theorem dX6_kindsOf_58 : decode cX6_kindsOf 58 = .ok (.iconst 1, 1) := by decide +kernel
theorem dX6_kindsOf_59 : decode cX6_kindsOf 59 = .ok (.iadd, 1) := by decide +kernel
theorem dX6_kindsOf_60 : decode cX6_kindsOf 60 = .ok (.iaload, 1) := by decide +kernel
theorem dX6_kindsOf_61 : decode cX6_kindsOf 61 = .ok (.aload_n 0, 1) := by decide +kernel
theorem dX6_kindsOf_62 : decode cX6_kindsOf 62 = .ok (.getfield 7, 3) := by decide +kernel
theorem dX6_kindsOf_65 : decode cX6_kindsOf 65 = .ok (.iload 5, 2) := by decide +kernel
theorem dX6_kindsOf_67 : decode cX6_kindsOf 67 = .ok (.iconst 2, 1) := by decide +kernel
theorem dX6_kindsOf_68 : decode cX6_kindsOf 68 = .ok (.iadd, 1) := by decide +kernel
theorem dX6_kindsOf_69 : decode cX6_kindsOf 69 = .ok (.iaload, 1) := by decide +kernel
theorem dX6_kindsOf_70 : decode cX6_kindsOf 70 = .ok (.aload_n 0, 1) := by decide +kernel
theorem dX6_kindsOf_71 : decode cX6_kindsOf 71 = .ok (.getfield 7, 3) := by decide +kernel
theorem dX6_kindsOf_74 : decode cX6_kindsOf 74 = .ok (.iload 5, 2) := by decide +kernel
theorem dX6_kindsOf_76 : decode cX6_kindsOf 76 = .ok (.iconst 3, 1) := by decide +kernel
theorem dX6_kindsOf_77 : decode cX6_kindsOf 77 = .ok (.iadd, 1) := by decide +kernel
theorem dX6_kindsOf_78 : decode cX6_kindsOf 78 = .ok (.iaload, 1) := by decide +kernel
theorem dX6_kindsOf_79 : decode cX6_kindsOf 79 = .ok (.aload_n 0, 1) := by decide +kernel
theorem dX6_kindsOf_80 : decode cX6_kindsOf 80 = .ok (.getfield 7, 3) := by decide +kernel
theorem dX6_kindsOf_83 : decode cX6_kindsOf 83 = .ok (.iload 5, 2) := by decide +kernel
theorem dX6_kindsOf_85 : decode cX6_kindsOf 85 = .ok (.iconst 4, 1) := by decide +kernel
theorem dX6_kindsOf_86 : decode cX6_kindsOf 86 = .ok (.iadd, 1) := by decide +kernel
theorem dX6_kindsOf_87 : decode cX6_kindsOf 87 = .ok (.iaload, 1) := by decide +kernel
theorem dX6_kindsOf_88 : decode cX6_kindsOf 88 = .ok (.aload_n 0, 1) := by decide +kernel
theorem dX6_kindsOf_89 : decode cX6_kindsOf 89 = .ok (.getfield 7, 3) := by decide +kernel
theorem dX6_kindsOf_92 : decode cX6_kindsOf 92 = .ok (.iload 5, 2) := by decide +kernel
theorem dX6_kindsOf_94 : decode cX6_kindsOf 94 = .ok (.iconst 5, 1) := by decide +kernel
theorem dX6_kindsOf_95 : decode cX6_kindsOf 95 = .ok (.iadd, 1) := by decide +kernel
theorem dX6_kindsOf_96 : decode cX6_kindsOf 96 = .ok (.iaload, 1) := by decide +kernel
theorem dX6_kindsOf_97 : decode cX6_kindsOf 97 = .ok (.invokestatic 159, 3) := by decide +kernel
theorem dX6_kindsOf_100 : decode cX6_kindsOf 100 = .ok (.aload_n 0, 1) := by decide +kernel
theorem dX6_kindsOf_101 : decode cX6_kindsOf 101 = .ok (.getfield 7, 3) := by decide +kernel
theorem dX6_kindsOf_104 : decode cX6_kindsOf 104 = .ok (.iload 5, 2) := by decide +kernel
theorem dX6_kindsOf_106 : decode cX6_kindsOf 106 = .ok (.bipush 6, 2) := by decide +kernel
theorem dX6_kindsOf_108 : decode cX6_kindsOf 108 = .ok (.iadd, 1) := by decide +kernel
theorem dX6_kindsOf_109 : decode cX6_kindsOf 109 = .ok (.iaload, 1) := by decide +kernel
theorem dX6_kindsOf_110 : decode cX6_kindsOf 110 = .ok (.if_icmp .ne 7, 3) := by decide +kernel
theorem dX6_kindsOf_113 : decode cX6_kindsOf 113 = .ok (.iconst 1, 1) := by decide +kernel
theorem dX6_kindsOf_114 : decode cX6_kindsOf 114 = .ok (.goto 4, 3) := by decide +kernel
theorem dX6_kindsOf_117 : decode cX6_kindsOf 117 = .ok (.iconst 0, 1) := by decide +kernel
theorem dX6_kindsOf_118 : decode cX6_kindsOf 118 = .ok (.istore 4, 2) := by decide +kernel
theorem dX6_kindsOf_120 : decode cX6_kindsOf 120 = .ok (.iinc 5 7, 3) := by decide +kernel
theorem dX6_kindsOf_123 : decode cX6_kindsOf 123 = .ok (.goto (-106), 3) := by decide +kernel
theorem dX6_kindsOf_126 : decode cX6_kindsOf 126 = .ok (.iload_n 2, 1) := by decide +kernel
theorem dX6_kindsOf_127 : decode cX6_kindsOf 127 = .ok (.iload 4, 2) := by decide +kernel
theorem dX6_kindsOf_129 : decode cX6_kindsOf 129 = .ok (.ifCond .eq 9, 3) := by decide +kernel
theorem dX6_kindsOf_132 : decode cX6_kindsOf 132 = .ok (.iconst 1, 1) := by decide +kernel
theorem dX6_kindsOf_133 : decode cX6_kindsOf 133 = .ok (.iload_n 3, 1) := by decide +kernel
theorem dX6_kindsOf_134 : decode cX6_kindsOf 134 = .ok (.ishl, 1) := by decide +kernel
theorem dX6_kindsOf_135 : decode cX6_kindsOf 135 = .ok (.goto 4, 3) := by decide +kernel
theorem dX6_kindsOf_138 : decode cX6_kindsOf 138 = .ok (.iconst 0, 1) := by decide +kernel
theorem dX6_kindsOf_139 : decode cX6_kindsOf 139 = .ok (.ior, 1) := by decide +kernel
theorem dX6_kindsOf_140 : decode cX6_kindsOf 140 = .ok (.istore_n 2, 1) := by decide +kernel
theorem dX6_kindsOf_141 : decode cX6_kindsOf 141 = .ok (.iinc 3 1, 3) := by decide +kernel
theorem dX6_kindsOf_144 : decode cX6_kindsOf 144 = .ok (.goto (-140), 3) := by decide +kernel
theorem dX6_kindsOf_147 : decode cX6_kindsOf 147 = .ok (.iload_n 2, 1) := by decide +kernel
theorem dX6_kindsOf_148 : decode cX6_kindsOf 148 = .ok (.ireturn, 1) := by decide +kernel
set_option maxRecDepth 20000 in
theorem ggX6_is_X6_isChild : GoodIn wsX6_is wsX6_isChild := goodIn_r _ [5, 6, 7, 8, 4, 9, 25, 26, 27, 28, 29, 30, 31, 32, 33, 34, 35, 36, 37, 38, 39, 40, 41, 42, 43] (by decide +kernel) (by decide +kernel)
set_option maxRecDepth 20000 in
theorem gX6_is_X6_isChild : GoodIn wsX6_is (wsV RX6 197 RX6 yX6_isChild wsX6_isChild) := goodIn_app (goodIn_of _ (by decide +kernel)) ggX6_is_X6_isChild
set_option maxRecDepth 20000 in
theorem ggX6_is_X6_kindsOf : GoodIn wsX6_is wsX6_kindsOf := goodIn_r _ [13, 6, 14, 15, 4, 16, 17, 18, 19, 25, 26, 27, 28, 29, 30, 31, 32, 33, 34, 35, 36, 37, 38, 39, 40, 41, 42, 43] (by decide +kernel) (by decide +kernel)
set_option maxRecDepth 20000 in
theorem gX6_is_X6_kindsOf : GoodIn wsX6_is (wsV RX6 219 RX6 yX6_kindsOf wsX6_kindsOf) := goodIn_app (goodIn_of _ (by decide +kernel)) ggX6_is_X6_kindsOf
set_option maxRecDepth 20000 in
theorem ggX6_is_X6_bad : GoodIn wsX6_is wsX6_bad := goodIn_r _ [23, 24, 25, 26, 27, 28, 29, 30, 31, 32, 33, 34, 35, 36, 37, 38, 39, 40, 41, 42, 43] (by decide +kernel) (by decide +kernel)
set_option maxRecDepth 20000 in
theorem gX6_is_X6_bad : GoodIn wsX6_is (wsV RX6 63 RX6 yX6_bad wsX6_bad) := goodIn_app (goodIn_of _ (by decide +kernel)) ggX6_is_X6_bad
theorem dX6_is_0 : decode cX6_is 0 = .ok (.aload_n 0, 1) := by decide +kernel
theorem dX6_is_1 : decode cX6_is 1 = .ok (.iload_n 1, 1) := by decide +kernel
theorem dX6_is_2 : decode cX6_is 2 = .ok (.invokevirtual 197, 3) := by decide +kernel
theorem dX6_is_5 : decode cX6_is 5 = .ok (.ifCond .eq 11, 3) := by decide +kernel
theorem dX6_is_8 : decode cX6_is 8 = .ok (.aload_n 0, 1) := by decide +kernel
theorem dX6_is_9 : decode cX6_is 9 = .ok (.iload_n 1, 1) := by decide +kernel
theorem dX6_is_10 : decode cX6_is 10 = .ok (.invokevirtual 219, 3) := by decide +kernel
theorem dX6_is_13 : decode cX6_is 13 = .ok (.goto 7, 3) := by decide +kernel
theorem dX6_is_16 : decode cX6_is 16 = .ok (.aload_n 0, 1) := by decide +kernel
theorem dX6_is_17 : decode cX6_is 17 = .ok (.invokevirtual 63, 3) := by decide +kernel
theorem dX6_is_20 : decode cX6_is 20 = .ok (.ireturn, 1) := by decide +kernel
set_option maxRecDepth 20000 in
theorem ggX6_alike_X6_has : GoodIn wsX6_alike wsX6_has := goodIn_r _ [4] (by decide +kernel) (by decide +kernel)
set_option maxRecDepth 20000 in
theorem gX6_alike_X6_has : GoodIn wsX6_alike (va_wsS RX6 180 yX6_has wsX6_has) := goodIn_app (goodIn_of _ (by decide +kernel)) ggX6_alike_X6_has
set_option maxRecDepth 20000 in
theorem ggX6_alike_X6_nearAs : GoodIn wsX6_alike wsX6_nearAs := goodIn_r _ [7, 8, 9, 3, 10] (by decide +kernel) (by decide +kernel)
set_option maxRecDepth 20000 in
theorem gX6_alike_X6_nearAs : GoodIn wsX6_alike (va_wsS RX6 159 yX6_nearAs wsX6_nearAs) := goodIn_app (goodIn_of _ (by decide +kernel)) ggX6_alike_X6_nearAs
theorem dX6_alike_0 : decode cX6_alike 0 = .ok (.iconst 0, 1) := by decide +kernel
theorem dX6_alike_1 : decode cX6_alike 1 = .ok (.istore 7, 2) := by decide +kernel
theorem dX6_alike_3 : decode cX6_alike 3 = .ok (.iconst 0, 1) := by decide +kernel
theorem dX6_alike_4 : decode cX6_alike 4 = .ok (.istore 8, 2) := by decide +kernel
theorem dX6_alike_6 : decode cX6_alike 6 = .ok (.iload 8, 2) := by decide +kernel
theorem dX6_alike_8 : decode cX6_alike 8 = .ok (.bipush 6, 2) := by decide +kernel
theorem dX6_alike_10 : decode cX6_alike 10 = .ok (.if_icmp .ge 101, 3) := by decide +kernel
theorem dX6_alike_13 : decode cX6_alike 13 = .ok (.iconst 0, 1) := by decide +kernel
theorem dX6_alike_14 : decode cX6_alike 14 = .ok (.istore 9, 2) := by decide +kernel
theorem dX6_alike_16 : decode cX6_alike 16 = .ok (.iconst 0, 1) := by decide +kernel
theorem dX6_alike_17 : decode cX6_alike 17 = .ok (.istore 10, 2) := by decide +kernel
theorem dX6_alike_19 : decode cX6_alike 19 = .ok (.iload 10, 2) := by decide +kernel
theorem dX6_alike_21 : decode cX6_alike 21 = .ok (.bipush 6, 2) := by decide +kernel
theorem dX6_alike_23 : decode cX6_alike 23 = .ok (.if_icmp .ge 66, 3) := by decide +kernel
theorem dX6_alike_26 : decode cX6_alike 26 = .ok (.iload 9, 2) := by decide +kernel
theorem dX6_alike_28 : decode cX6_alike 28 = .ok (.iload_n 1, 1) := by decide +kernel
theorem dX6_alike_29 : decode cX6_alike 29 = .ok (.iload 8, 2) := by decide +kernel
theorem dX6_alike_31 : decode cX6_alike 31 = .ok (.invokestatic 180, 3) := by decide +kernel
theorem dX6_alike_34 : decode cX6_alike 34 = .ok (.ifCond .eq 45, 3) := by decide +kernel
theorem dX6_alike_37 : decode cX6_alike 37 = .ok (.iload_n 1, 1) := by decide +kernel
theorem dX6_alike_38 : decode cX6_alike 38 = .ok (.iload 10, 2) := by decide +kernel
theorem dX6_alike_40 : decode cX6_alike 40 = .ok (.invokestatic 180, 3) := by decide +kernel
theorem dX6_alike_43 : decode cX6_alike 43 = .ok (.ifCond .eq 36, 3) := by decide +kernel
theorem dX6_alike_46 : decode cX6_alike 46 = .ok (.iload 8, 2) := by decide +kernel
theorem dX6_alike_48 : decode cX6_alike 48 = .ok (.iload_n 2, 1) := by decide +kernel
theorem dX6_alike_49 : decode cX6_alike 49 = .ok (.iload_n 3, 1) := by decide +kernel
theorem dX6_alike_50 : decode cX6_alike 50 = .ok (.iload 4, 2) := by decide +kernel
theorem dX6_alike_52 : decode cX6_alike 52 = .ok (.iload 5, 2) := by decide +kernel
theorem dX6_alike_54 : decode cX6_alike 54 = .ok (.iload 6, 2) := by decide +kernel
theorem dX6_alike_56 : decode cX6_alike 56 = .ok (.invokestatic 159, 3) := by decide +kernel
theorem dX6_alike_59 : decode cX6_alike 59 = .ok (.iload 10, 2) := by decide +kernel
theorem dX6_alike_61 : decode cX6_alike 61 = .ok (.iload_n 2, 1) := by decide +kernel
theorem dX6_alike_62 : decode cX6_alike 62 = .ok (.iload_n 3, 1) := by decide +kernel
theorem dX6_alike_63 : decode cX6_alike 63 = .ok (.iload 4, 2) := by decide +kernel
theorem dX6_alike_65 : decode cX6_alike 65 = .ok (.iload 5, 2) := by decide +kernel
theorem dX6_alike_67 : decode cX6_alike 67 = .ok (.iload 6, 2) := by decide +kernel
theorem dX6_alike_69 : decode cX6_alike 69 = .ok (.invokestatic 159, 3) := by decide +kernel
theorem dX6_alike_72 : decode cX6_alike 72 = .ok (.if_icmp .ne 7, 3) := by decide +kernel
theorem dX6_alike_75 : decode cX6_alike 75 = .ok (.iconst 1, 1) := by decide +kernel
theorem dX6_alike_76 : decode cX6_alike 76 = .ok (.goto 4, 3) := by decide +kernel
theorem dX6_alike_79 : decode cX6_alike 79 = .ok (.iconst 0, 1) := by decide +kernel
theorem dX6_alike_80 : decode cX6_alike 80 = .ok (.iadd, 1) := by decide +kernel
theorem dX6_alike_81 : decode cX6_alike 81 = .ok (.istore 9, 2) := by decide +kernel
theorem dX6_alike_83 : decode cX6_alike 83 = .ok (.iinc 10 1, 3) := by decide +kernel
theorem dX6_alike_86 : decode cX6_alike 86 = .ok (.goto (-67), 3) := by decide +kernel
theorem dX6_alike_89 : decode cX6_alike 89 = .ok (.iload 9, 2) := by decide +kernel
theorem dX6_alike_91 : decode cX6_alike 91 = .ok (.iload 7, 2) := by decide +kernel
theorem dX6_alike_93 : decode cX6_alike 93 = .ok (.if_icmp .le 8, 3) := by decide +kernel
theorem dX6_alike_96 : decode cX6_alike 96 = .ok (.iload 9, 2) := by decide +kernel
theorem dX6_alike_98 : decode cX6_alike 98 = .ok (.goto 5, 3) := by decide +kernel
theorem dX6_alike_101 : decode cX6_alike 101 = .ok (.iload 7, 2) := by decide +kernel
theorem dX6_alike_103 : decode cX6_alike 103 = .ok (.istore 7, 2) := by decide +kernel
theorem dX6_alike_105 : decode cX6_alike 105 = .ok (.iinc 8 1, 3) := by decide +kernel
theorem dX6_alike_108 : decode cX6_alike 108 = .ok (.goto (-102), 3) := by decide +kernel
theorem dX6_alike_111 : decode cX6_alike 111 = .ok (.iload 7, 2) := by decide +kernel
theorem dX6_alike_113 : decode cX6_alike 113 = .ok (.ireturn, 1) := by decide +kernel
set_option maxRecDepth 20000 in
theorem ggX6_look_X6_isChild : GoodIn wsX6_look wsX6_isChild := goodIn_r _ [7, 2, 8, 9, 6, 10, 33, 34, 35, 36, 37, 38, 39, 40, 41, 42, 43, 44, 45, 46, 47, 48, 49, 50, 51] (by decide +kernel) (by decide +kernel)
set_option maxRecDepth 20000 in
theorem gX6_look_X6_isChild : GoodIn wsX6_look (wsV RX6 197 RX6 yX6_isChild wsX6_isChild) := goodIn_app (goodIn_of _ (by decide +kernel)) ggX6_look_X6_isChild
set_option maxRecDepth 20000 in
theorem ggX6_look_X6_bad : GoodIn wsX6_look wsX6_bad := goodIn_r _ [14, 15, 33, 34, 35, 36, 37, 38, 39, 40, 41, 42, 43, 44, 45, 46, 47, 48, 49, 50, 51] (by decide +kernel) (by decide +kernel)
set_option maxRecDepth 20000 in
theorem gX6_look_X6_bad : GoodIn wsX6_look (wsV RX6 63 RX6 yX6_bad wsX6_bad) := goodIn_app (goodIn_of _ (by decide +kernel)) ggX6_look_X6_bad
set_option maxRecDepth 20000 in
theorem ggX6_look_X6_kindsOf : GoodIn wsX6_look wsX6_kindsOf := goodIn_r _ [19, 2, 20, 21, 6, 22, 23, 24, 25, 33, 34, 35, 36, 37, 38, 39, 40, 41, 42, 43, 44, 45, 46, 47, 48, 49, 50, 51] (by decide +kernel) (by decide +kernel)
set_option maxRecDepth 20000 in
theorem gX6_look_X6_kindsOf : GoodIn wsX6_look (wsV RX6 219 RX6 yX6_kindsOf wsX6_kindsOf) := goodIn_app (goodIn_of _ (by decide +kernel)) ggX6_look_X6_kindsOf
set_option maxRecDepth 20000 in
theorem ggX6_look_X6_alike : GoodIn wsX6_look wsX6_alike := goodIn_r _ [29, 30, 31, 6, 32, 20, 21, 22, 23, 24, 25] (by decide +kernel) (by decide +kernel)
set_option maxRecDepth 20000 in
theorem gX6_look_X6_alike : GoodIn wsX6_look (wsV RX6 222 RX6 yX6_alike wsX6_alike) := goodIn_app (goodIn_of _ (by decide +kernel)) ggX6_look_X6_alike
theorem dX6_look_0 : decode cX6_look 0 = .ok (.aload_n 0, 1) := by decide +kernel
theorem dX6_look_1 : decode cX6_look 1 = .ok (.iload_n 1, 1) := by decide +kernel
theorem dX6_look_2 : decode cX6_look 2 = .ok (.invokevirtual 197, 3) := by decide +kernel
theorem dX6_look_5 : decode cX6_look 5 = .ok (.ifCond .ne 8, 3) := by decide +kernel
theorem dX6_look_8 : decode cX6_look 8 = .ok (.aload_n 0, 1) := by decide +kernel
theorem dX6_look_9 : decode cX6_look 9 = .ok (.invokevirtual 63, 3) := by decide +kernel
theorem dX6_look_12 : decode cX6_look 12 = .ok (.ireturn, 1) := by decide +kernel
theorem dX6_look_13 : decode cX6_look 13 = .ok (.aload_n 0, 1) := by decide +kernel
theorem dX6_look_14 : decode cX6_look 14 = .ok (.iload_n 1, 1) := by decide +kernel
theorem dX6_look_15 : decode cX6_look 15 = .ok (.invokevirtual 219, 3) := by decide +kernel
theorem dX6_look_18 : decode cX6_look 18 = .ok (.istore_n 2, 1) := by decide +kernel
theorem dX6_look_19 : decode cX6_look 19 = .ok (.iload_n 2, 1) := by decide +kernel
theorem dX6_look_20 : decode cX6_look 20 = .ok (.ifCond .ne 5, 3) := by decide +kernel
theorem dX6_look_23 : decode cX6_look 23 = .ok (.iconst (-1), 1) := by decide +kernel
theorem dX6_look_24 : decode cX6_look 24 = .ok (.ireturn, 1) := by decide +kernel
theorem dX6_look_25 : decode cX6_look 25 = .ok (.iconst 0, 1) := by decide +kernel
theorem dX6_look_26 : decode cX6_look 26 = .ok (.istore_n 3, 1) := by decide +kernel
theorem dX6_look_27 : decode cX6_look 27 = .ok (.ldc 211, 2) := by decide +kernel
theorem dX6_look_29 : decode cX6_look 29 = .ok (.istore 4, 2) := by decide +kernel
theorem dX6_look_31 : decode cX6_look 31 = .ok (.iconst 0, 1) := by decide +kernel
theorem dX6_look_32 : decode cX6_look 32 = .ok (.istore 5, 2) := by decide +kernel
theorem dX6_look_34 : decode cX6_look 34 = .ok (.iload 5, 2) := by decide +kernel
theorem dX6_look_36 : decode cX6_look 36 = .ok (.bipush 27, 2) := by decide +kernel
theorem dX6_look_38 : decode cX6_look 38 = .ok (.if_icmp .ge 100, 3) := by decide +kernel
theorem dX6_look_41 : decode cX6_look 41 = .ok (.aload_n 0, 1) := by decide +kernel
theorem dX6_look_42 : decode cX6_look 42 = .ok (.iload_n 2, 1) := by decide +kernel
theorem dX6_look_43 : decode cX6_look 43 = .ok (.aload_n 0, 1) := by decide +kernel
theorem dX6_look_44 : decode cX6_look 44 = .ok (.getfield 7, 3) := by decide +kernel
theorem dX6_look_47 : decode cX6_look 47 = .ok (.bipush 6, 2) := by decide +kernel
theorem dX6_look_49 : decode cX6_look 49 = .ok (.iload_n 1, 1) := by decide +kernel
theorem dX6_look_50 : decode cX6_look 50 = .ok (.iadd, 1) := by decide +kernel
theorem dX6_look_51 : decode cX6_look 51 = .ok (.iaload, 1) := by decide +kernel
theorem dX6_look_52 : decode cX6_look 52 = .ok (.iload 5, 2) := by decide +kernel
theorem dX6_look_54 : decode cX6_look 54 = .ok (.iconst 3, 1) := by decide +kernel
theorem dX6_look_55 : decode cX6_look 55 = .ok (.idiv, 1) := by decide +kernel
theorem dX6_look_56 : decode cX6_look 56 = .ok (.iconst 3, 1) := by decide +kernel
theorem dX6_look_57 : decode cX6_look 57 = .ok (.irem, 1) := by decide +kernel
theorem dX6_look_58 : decode cX6_look 58 = .ok (.aload_n 0, 1) := by decide +kernel
theorem dX6_look_59 : decode cX6_look 59 = .ok (.getfield 7, 3) := by decide +kernel
theorem dX6_look_62 : decode cX6_look 62 = .ok (.bipush 29, 2) := by decide +kernel
theorem dX6_look_64 : decode cX6_look 64 = .ok (.iload_n 1, 1) := by decide +kernel
theorem dX6_look_65 : decode cX6_look 65 = .ok (.iadd, 1) := by decide +kernel
theorem dX6_look_66 : decode cX6_look 66 = .ok (.iaload, 1) := by decide +kernel
theorem dX6_look_67 : decode cX6_look 67 = .ok (.iload 5, 2) := by decide +kernel
theorem dX6_look_69 : decode cX6_look 69 = .ok (.iconst 3, 1) := by decide +kernel
theorem dX6_look_70 : decode cX6_look 70 = .ok (.irem, 1) := by decide +kernel
theorem dX6_look_71 : decode cX6_look 71 = .ok (.iload 5, 2) := by decide +kernel
theorem dX6_look_73 : decode cX6_look 73 = .ok (.bipush 9, 2) := by decide +kernel
theorem dX6_look_75 : decode cX6_look 75 = .ok (.idiv, 1) := by decide +kernel
theorem dX6_look_76 : decode cX6_look 76 = .ok (.invokevirtual 222, 3) := by decide +kernel
theorem dX6_look_79 : decode cX6_look 79 = .ok (.istore 6, 2) := by decide +kernel
theorem dX6_look_81 : decode cX6_look 81 = .ok (.iload 6, 2) := by decide +kernel
theorem dX6_look_83 : decode cX6_look 83 = .ok (.iload 4, 2) := by decide +kernel
theorem dX6_look_85 : decode cX6_look 85 = .ok (.if_icmp .ge 29, 3) := by decide +kernel
theorem dX6_look_88 : decode cX6_look 88 = .ok (.bipush 100, 2) := by decide +kernel
theorem dX6_look_90 : decode cX6_look 90 = .ok (.iload 5, 2) := by decide +kernel
theorem dX6_look_92 : decode cX6_look 92 = .ok (.bipush 9, 2) := by decide +kernel
theorem dX6_look_94 : decode cX6_look 94 = .ok (.idiv, 1) := by decide +kernel
theorem dX6_look_95 : decode cX6_look 95 = .ok (.imul, 1) := by decide +kernel
theorem dX6_look_96 : decode cX6_look 96 = .ok (.bipush 10, 2) := by decide +kernel
theorem dX6_look_98 : decode cX6_look 98 = .ok (.iload 5, 2) := by decide +kernel
theorem dX6_look_100 : decode cX6_look 100 = .ok (.iconst 3, 1) := by decide +kernel
theorem dX6_look_101 : decode cX6_look 101 = .ok (.idiv, 1) := by decide +kernel
theorem dX6_look_102 : decode cX6_look 102 = .ok (.iconst 3, 1) := by decide +kernel
theorem dX6_look_103 : decode cX6_look 103 = .ok (.irem, 1) := by decide +kernel
theorem dX6_look_104 : decode cX6_look 104 = .ok (.imul, 1) := by decide +kernel
theorem dX6_look_105 : decode cX6_look 105 = .ok (.iadd, 1) := by decide +kernel
theorem dX6_look_106 : decode cX6_look 106 = .ok (.iload 5, 2) := by decide +kernel
theorem dX6_look_108 : decode cX6_look 108 = .ok (.iconst 3, 1) := by decide +kernel
theorem dX6_look_109 : decode cX6_look 109 = .ok (.irem, 1) := by decide +kernel
theorem dX6_look_110 : decode cX6_look 110 = .ok (.iadd, 1) := by decide +kernel
theorem dX6_look_111 : decode cX6_look 111 = .ok (.goto 4, 3) := by decide +kernel
theorem dX6_look_114 : decode cX6_look 114 = .ok (.iload_n 3, 1) := by decide +kernel
theorem dX6_look_115 : decode cX6_look 115 = .ok (.istore_n 3, 1) := by decide +kernel
theorem dX6_look_116 : decode cX6_look 116 = .ok (.iload 6, 2) := by decide +kernel
theorem dX6_look_118 : decode cX6_look 118 = .ok (.iload 4, 2) := by decide +kernel
theorem dX6_look_120 : decode cX6_look 120 = .ok (.if_icmp .ge 8, 3) := by decide +kernel
theorem dX6_look_123 : decode cX6_look 123 = .ok (.iload 6, 2) := by decide +kernel
theorem dX6_look_125 : decode cX6_look 125 = .ok (.goto 5, 3) := by decide +kernel
theorem dX6_look_128 : decode cX6_look 128 = .ok (.iload 4, 2) := by decide +kernel
theorem dX6_look_130 : decode cX6_look 130 = .ok (.istore 4, 2) := by decide +kernel
theorem dX6_look_132 : decode cX6_look 132 = .ok (.iinc 5 1, 3) := by decide +kernel
theorem dX6_look_135 : decode cX6_look 135 = .ok (.goto (-101), 3) := by decide +kernel
theorem dX6_look_138 : decode cX6_look 138 = .ok (.iload_n 3, 1) := by decide +kernel
theorem dX6_look_139 : decode cX6_look 139 = .ok (.ireturn, 1) := by decide +kernel
set_option maxRecDepth 20000 in
theorem ggX6_who_X6_isChild : GoodIn wsX6_who wsX6_isChild := goodIn_r _ [6, 1, 7, 8, 5, 9, 21, 22, 23, 24, 25, 26, 27, 28, 29, 30, 31, 32, 33, 34, 35, 36, 37, 38, 39] (by decide +kernel) (by decide +kernel)
set_option maxRecDepth 20000 in
theorem gX6_who_X6_isChild : GoodIn wsX6_who (wsV RX6 197 RX6 yX6_isChild wsX6_isChild) := goodIn_app (goodIn_of _ (by decide +kernel)) ggX6_who_X6_isChild
set_option maxRecDepth 20000 in
theorem ggX6_who_X6_bad : GoodIn wsX6_who wsX6_bad := goodIn_r _ [13, 14, 21, 22, 23, 24, 25, 26, 27, 28, 29, 30, 31, 32, 33, 34, 35, 36, 37, 38, 39] (by decide +kernel) (by decide +kernel)
set_option maxRecDepth 20000 in
theorem gX6_who_X6_bad : GoodIn wsX6_who (wsV RX6 63 RX6 yX6_bad wsX6_bad) := goodIn_app (goodIn_of _ (by decide +kernel)) ggX6_who_X6_bad
set_option maxRecDepth 20000 in
theorem ggX6_who_X6_whom : GoodIn wsX6_who wsX6_whom := goodIn_r _ [17, 18, 19, 5, 20] (by decide +kernel) (by decide +kernel)
set_option maxRecDepth 20000 in
theorem gX6_who_X6_whom : GoodIn wsX6_who (va_wsS RX6 170 yX6_whom wsX6_whom) := goodIn_app (goodIn_of _ (by decide +kernel)) ggX6_who_X6_whom
theorem dX6_who_0 : decode cX6_who 0 = .ok (.aload_n 0, 1) := by decide +kernel
theorem dX6_who_1 : decode cX6_who 1 = .ok (.iload_n 1, 1) := by decide +kernel
theorem dX6_who_2 : decode cX6_who 2 = .ok (.invokevirtual 197, 3) := by decide +kernel
theorem dX6_who_5 : decode cX6_who 5 = .ok (.ifCond .ne 8, 3) := by decide +kernel
theorem dX6_who_8 : decode cX6_who 8 = .ok (.aload_n 0, 1) := by decide +kernel
theorem dX6_who_9 : decode cX6_who 9 = .ok (.invokevirtual 63, 3) := by decide +kernel
theorem dX6_who_12 : decode cX6_who 12 = .ok (.ireturn, 1) := by decide +kernel
theorem dX6_who_13 : decode cX6_who 13 = .ok (.iconst 0, 1) := by decide +kernel
theorem dX6_who_14 : decode cX6_who 14 = .ok (.istore_n 2, 1) := by decide +kernel
theorem dX6_who_15 : decode cX6_who 15 = .ok (.iconst 0, 1) := by decide +kernel
theorem dX6_who_16 : decode cX6_who 16 = .ok (.istore_n 3, 1) := by decide +kernel
theorem dX6_who_17 : decode cX6_who 17 = .ok (.iload_n 3, 1) := by decide +kernel
theorem dX6_who_18 : decode cX6_who 18 = .ok (.aload_n 0, 1) := by decide +kernel
theorem dX6_who_19 : decode cX6_who 19 = .ok (.getfield 7, 3) := by decide +kernel
theorem dX6_who_22 : decode cX6_who 22 = .ok (.bipush 22, 2) := by decide +kernel
theorem dX6_who_24 : decode cX6_who 24 = .ok (.iaload, 1) := by decide +kernel
theorem dX6_who_25 : decode cX6_who 25 = .ok (.if_icmp .ge 31, 3) := by decide +kernel
theorem dX6_who_28 : decode cX6_who 28 = .ok (.iload_n 2, 1) := by decide +kernel
theorem dX6_who_29 : decode cX6_who 29 = .ok (.aload_n 0, 1) := by decide +kernel
theorem dX6_who_30 : decode cX6_who 30 = .ok (.getfield 7, 3) := by decide +kernel
theorem dX6_who_33 : decode cX6_who 33 = .ok (.iload_n 3, 1) := by decide +kernel
theorem dX6_who_34 : decode cX6_who 34 = .ok (.invokestatic 170, 3) := by decide +kernel
theorem dX6_who_37 : decode cX6_who 37 = .ok (.iload_n 1, 1) := by decide +kernel
theorem dX6_who_38 : decode cX6_who 38 = .ok (.if_icmp .ne 9, 3) := by decide +kernel
theorem dX6_who_41 : decode cX6_who 41 = .ok (.iconst 1, 1) := by decide +kernel
theorem dX6_who_42 : decode cX6_who 42 = .ok (.iload_n 3, 1) := by decide +kernel
theorem dX6_who_43 : decode cX6_who 43 = .ok (.ishl, 1) := by decide +kernel
theorem dX6_who_44 : decode cX6_who 44 = .ok (.goto 4, 3) := by decide +kernel
theorem dX6_who_47 : decode cX6_who 47 = .ok (.iconst 0, 1) := by decide +kernel
theorem dX6_who_48 : decode cX6_who 48 = .ok (.ior, 1) := by decide +kernel
theorem dX6_who_49 : decode cX6_who 49 = .ok (.istore_n 2, 1) := by decide +kernel
theorem dX6_who_50 : decode cX6_who 50 = .ok (.iinc 3 1, 3) := by decide +kernel
theorem dX6_who_53 : decode cX6_who 53 = .ok (.goto (-36), 3) := by decide +kernel
theorem dX6_who_56 : decode cX6_who 56 = .ok (.iload_n 2, 1) := by decide +kernel
theorem dX6_who_57 : decode cX6_who 57 = .ok (.ireturn, 1) := by decide +kernel
set_option maxRecDepth 20000 in
theorem ggX6_gets_X6_biters : GoodIn wsX6_gets wsX6_biters := goodIn_r _ [5, 6, 7, 4, 8, 9, 10, 11, 12, 13, 14, 15, 16, 17, 18, 19, 20, 21, 22, 23, 24, 25, 26, 27, 28, 29] (by decide +kernel) (by decide +kernel)
set_option maxRecDepth 20000 in
theorem gX6_gets_X6_biters : GoodIn wsX6_gets (va_wsS RX6 176 yX6_biters wsX6_biters) := goodIn_app (goodIn_of _ (by decide +kernel)) ggX6_gets_X6_biters
set_option maxRecDepth 20000 in
theorem ggX6_gets_X6_has : GoodIn wsX6_gets wsX6_has := goodIn_r _ [32] (by decide +kernel) (by decide +kernel)
set_option maxRecDepth 20000 in
theorem gX6_gets_X6_has : GoodIn wsX6_gets (va_wsS RX6 180 yX6_has wsX6_has) := goodIn_app (goodIn_of _ (by decide +kernel)) ggX6_gets_X6_has
set_option maxRecDepth 20000 in
theorem ggX6_gets_X6_whom : GoodIn wsX6_gets wsX6_whom := goodIn_r _ [29, 15, 16, 4, 17] (by decide +kernel) (by decide +kernel)
set_option maxRecDepth 20000 in
theorem gX6_gets_X6_whom : GoodIn wsX6_gets (va_wsS RX6 170 yX6_whom wsX6_whom) := goodIn_app (goodIn_of _ (by decide +kernel)) ggX6_gets_X6_whom
theorem dX6_gets_0 : decode cX6_gets 0 = .ok (.aload_n 0, 1) := by decide +kernel
theorem dX6_gets_1 : decode cX6_gets 1 = .ok (.getfield 7, 3) := by decide +kernel
theorem dX6_gets_4 : decode cX6_gets 4 = .ok (.invokestatic 176, 3) := by decide +kernel
theorem dX6_gets_7 : decode cX6_gets 7 = .ok (.iload_n 2, 1) := by decide +kernel
theorem dX6_gets_8 : decode cX6_gets 8 = .ok (.iconst (-1), 1) := by decide +kernel
theorem dX6_gets_9 : decode cX6_gets 9 = .ok (.ixor, 1) := by decide +kernel
theorem dX6_gets_10 : decode cX6_gets 10 = .ok (.iand, 1) := by decide +kernel
theorem dX6_gets_11 : decode cX6_gets 11 = .ok (.istore_n 3, 1) := by decide +kernel
theorem dX6_gets_12 : decode cX6_gets 12 = .ok (.iload_n 2, 1) := by decide +kernel
theorem dX6_gets_13 : decode cX6_gets 13 = .ok (.iload_n 1, 1) := by decide +kernel
theorem dX6_gets_14 : decode cX6_gets 14 = .ok (.invokestatic 180, 3) := by decide +kernel
theorem dX6_gets_17 : decode cX6_gets 17 = .ok (.ifCond .eq 7, 3) := by decide +kernel
theorem dX6_gets_20 : decode cX6_gets 20 = .ok (.iconst 0, 1) := by decide +kernel
theorem dX6_gets_21 : decode cX6_gets 21 = .ok (.goto 4, 3) := by decide +kernel
theorem dX6_gets_24 : decode cX6_gets 24 = .ok (.iconst 1, 1) := by decide +kernel
theorem dX6_gets_25 : decode cX6_gets 25 = .ok (.istore 4, 2) := by decide +kernel
theorem dX6_gets_27 : decode cX6_gets 27 = .ok (.iconst 0, 1) := by decide +kernel
theorem dX6_gets_28 : decode cX6_gets 28 = .ok (.istore 5, 2) := by decide +kernel
theorem dX6_gets_30 : decode cX6_gets 30 = .ok (.iload 5, 2) := by decide +kernel
theorem dX6_gets_32 : decode cX6_gets 32 = .ok (.aload_n 0, 1) := by decide +kernel
theorem dX6_gets_33 : decode cX6_gets 33 = .ok (.getfield 7, 3) := by decide +kernel
theorem dX6_gets_36 : decode cX6_gets 36 = .ok (.bipush 22, 2) := by decide +kernel
theorem dX6_gets_38 : decode cX6_gets 38 = .ok (.iaload, 1) := by decide +kernel
theorem dX6_gets_39 : decode cX6_gets 39 = .ok (.if_icmp .ge 41, 3) := by decide +kernel
theorem dX6_gets_42 : decode cX6_gets 42 = .ok (.iload 4, 2) := by decide +kernel
theorem dX6_gets_44 : decode cX6_gets 44 = .ok (.iload_n 3, 1) := by decide +kernel
theorem dX6_gets_45 : decode cX6_gets 45 = .ok (.iload 5, 2) := by decide +kernel
theorem dX6_gets_47 : decode cX6_gets 47 = .ok (.invokestatic 180, 3) := by decide +kernel
theorem dX6_gets_50 : decode cX6_gets 50 = .ok (.ifCond .eq 20, 3) := by decide +kernel
theorem dX6_gets_53 : decode cX6_gets 53 = .ok (.aload_n 0, 1) := by decide +kernel
theorem dX6_gets_54 : decode cX6_gets 54 = .ok (.getfield 7, 3) := by decide +kernel
theorem dX6_gets_57 : decode cX6_gets 57 = .ok (.iload 5, 2) := by decide +kernel
theorem dX6_gets_59 : decode cX6_gets 59 = .ok (.invokestatic 170, 3) := by decide +kernel
theorem dX6_gets_62 : decode cX6_gets 62 = .ok (.iload_n 1, 1) := by decide +kernel
theorem dX6_gets_63 : decode cX6_gets 63 = .ok (.if_icmp .ne 7, 3) := by decide +kernel
theorem dX6_gets_66 : decode cX6_gets 66 = .ok (.iconst 2, 1) := by decide +kernel
theorem dX6_gets_67 : decode cX6_gets 67 = .ok (.goto 4, 3) := by decide +kernel
theorem dX6_gets_70 : decode cX6_gets 70 = .ok (.iconst 0, 1) := by decide +kernel
theorem dX6_gets_71 : decode cX6_gets 71 = .ok (.isub, 1) := by decide +kernel
theorem dX6_gets_72 : decode cX6_gets 72 = .ok (.istore 4, 2) := by decide +kernel
theorem dX6_gets_74 : decode cX6_gets 74 = .ok (.iinc 5 1, 3) := by decide +kernel
theorem dX6_gets_77 : decode cX6_gets 77 = .ok (.goto (-47), 3) := by decide +kernel
theorem dX6_gets_80 : decode cX6_gets 80 = .ok (.iload 4, 2) := by decide +kernel
theorem dX6_gets_82 : decode cX6_gets 82 = .ok (.ireturn, 1) := by decide +kernel
set_option maxRecDepth 20000 in
theorem ggX6_rings_X6_isChild : GoodIn wsX6_rings wsX6_isChild := goodIn_r _ [5, 6, 7, 8, 4, 9, 49, 50, 51, 52, 53, 54, 55, 56, 57, 58, 59, 60, 61, 62, 63, 64, 65, 66, 67] (by decide +kernel) (by decide +kernel)
set_option maxRecDepth 20000 in
theorem gX6_rings_X6_isChild : GoodIn wsX6_rings (wsV RX6 197 RX6 yX6_isChild wsX6_isChild) := goodIn_app (goodIn_of _ (by decide +kernel)) ggX6_rings_X6_isChild
set_option maxRecDepth 20000 in
theorem ggX6_rings_X6_bad : GoodIn wsX6_rings wsX6_bad := goodIn_r _ [13, 14, 49, 50, 51, 52, 53, 54, 55, 56, 57, 58, 59, 60, 61, 62, 63, 64, 65, 66, 67] (by decide +kernel) (by decide +kernel)
set_option maxRecDepth 20000 in
theorem gX6_rings_X6_bad : GoodIn wsX6_rings (wsV RX6 63 RX6 yX6_bad wsX6_bad) := goodIn_app (goodIn_of _ (by decide +kernel)) ggX6_rings_X6_bad
set_option maxRecDepth 20000 in
theorem ggX6_rings_X6_has : GoodIn wsX6_rings wsX6_has := goodIn_r _ [17] (by decide +kernel) (by decide +kernel)
set_option maxRecDepth 20000 in
theorem gX6_rings_X6_has : GoodIn wsX6_rings (va_wsS RX6 180 yX6_has wsX6_has) := goodIn_app (goodIn_of _ (by decide +kernel)) ggX6_rings_X6_has
set_option maxRecDepth 20000 in
theorem ggX6_rings_X6_gets : GoodIn wsX6_rings wsX6_gets := goodIn_r _ [21, 6, 22, 23, 4, 24, 25, 26, 27, 28, 29, 30, 31, 32, 33, 34, 35, 36, 37, 38, 39, 40, 41, 42, 43, 44, 45, 46, 47, 48, 15, 16, 17, 49, 50, 51, 52, 53, 54, 55, 56, 57, 58, 59, 60, 61, 62, 63, 64, 65, 66, 67] (by decide +kernel) (by decide +kernel)
set_option maxRecDepth 20000 in
theorem gX6_rings_X6_gets : GoodIn wsX6_rings (wsV RX6 225 RX6 yX6_gets wsX6_gets) := goodIn_app (goodIn_of _ (by decide +kernel)) ggX6_rings_X6_gets
theorem dX6_rings_0 : decode cX6_rings 0 = .ok (.aload_n 0, 1) := by decide +kernel
theorem dX6_rings_1 : decode cX6_rings 1 = .ok (.iload_n 1, 1) := by decide +kernel
theorem dX6_rings_2 : decode cX6_rings 2 = .ok (.invokevirtual 197, 3) := by decide +kernel
theorem dX6_rings_5 : decode cX6_rings 5 = .ok (.ifCond .eq 16, 3) := by decide +kernel
theorem dX6_rings_8 : decode cX6_rings 8 = .ok (.aload_n 0, 1) := by decide +kernel
theorem dX6_rings_9 : decode cX6_rings 9 = .ok (.iload_n 2, 1) := by decide +kernel
theorem dX6_rings_10 : decode cX6_rings 10 = .ok (.invokevirtual 197, 3) := by decide +kernel
theorem dX6_rings_13 : decode cX6_rings 13 = .ok (.ifCond .eq 8, 3) := by decide +kernel
theorem dX6_rings_16 : decode cX6_rings 16 = .ok (.iload_n 1, 1) := by decide +kernel
theorem dX6_rings_17 : decode cX6_rings 17 = .ok (.iload_n 2, 1) := by decide +kernel
theorem dX6_rings_18 : decode cX6_rings 18 = .ok (.if_icmp .ne 8, 3) := by decide +kernel
theorem dX6_rings_21 : decode cX6_rings 21 = .ok (.aload_n 0, 1) := by decide +kernel
theorem dX6_rings_22 : decode cX6_rings 22 = .ok (.invokevirtual 63, 3) := by decide +kernel
theorem dX6_rings_25 : decode cX6_rings 25 = .ok (.ireturn, 1) := by decide +kernel
theorem dX6_rings_26 : decode cX6_rings 26 = .ok (.iconst 0, 1) := by decide +kernel
theorem dX6_rings_27 : decode cX6_rings 27 = .ok (.istore_n 3, 1) := by decide +kernel
theorem dX6_rings_28 : decode cX6_rings 28 = .ok (.iconst 0, 1) := by decide +kernel
theorem dX6_rings_29 : decode cX6_rings 29 = .ok (.istore 4, 2) := by decide +kernel
theorem dX6_rings_31 : decode cX6_rings 31 = .ok (.iload 4, 2) := by decide +kernel
theorem dX6_rings_33 : decode cX6_rings 33 = .ok (.iconst 4, 1) := by decide +kernel
theorem dX6_rings_34 : decode cX6_rings 34 = .ok (.if_icmp .ge 109, 3) := by decide +kernel
theorem dX6_rings_37 : decode cX6_rings 37 = .ok (.iload 4, 2) := by decide +kernel
theorem dX6_rings_39 : decode cX6_rings 39 = .ok (.iconst 0, 1) := by decide +kernel
theorem dX6_rings_40 : decode cX6_rings 40 = .ok (.invokestatic 180, 3) := by decide +kernel
theorem dX6_rings_43 : decode cX6_rings 43 = .ok (.ifCond .eq 7, 3) := by decide +kernel
theorem dX6_rings_46 : decode cX6_rings 46 = .ok (.iconst 0, 1) := by decide +kernel
theorem dX6_rings_47 : decode cX6_rings 47 = .ok (.goto 6, 3) := by decide +kernel
theorem dX6_rings_50 : decode cX6_rings 50 = .ok (.iconst 1, 1) := by decide +kernel
theorem dX6_rings_51 : decode cX6_rings 51 = .ok (.iload_n 1, 1) := by decide +kernel
theorem dX6_rings_52 : decode cX6_rings 52 = .ok (.ishl, 1) := by decide +kernel
theorem dX6_rings_53 : decode cX6_rings 53 = .ok (.iload 4, 2) := by decide +kernel
theorem dX6_rings_55 : decode cX6_rings 55 = .ok (.iconst 1, 1) := by decide +kernel
theorem dX6_rings_56 : decode cX6_rings 56 = .ok (.invokestatic 180, 3) := by decide +kernel
theorem dX6_rings_59 : decode cX6_rings 59 = .ok (.ifCond .eq 7, 3) := by decide +kernel
theorem dX6_rings_62 : decode cX6_rings 62 = .ok (.iconst 0, 1) := by decide +kernel
theorem dX6_rings_63 : decode cX6_rings 63 = .ok (.goto 6, 3) := by decide +kernel
theorem dX6_rings_66 : decode cX6_rings 66 = .ok (.iconst 1, 1) := by decide +kernel
theorem dX6_rings_67 : decode cX6_rings 67 = .ok (.iload_n 2, 1) := by decide +kernel
theorem dX6_rings_68 : decode cX6_rings 68 = .ok (.ishl, 1) := by decide +kernel
theorem dX6_rings_69 : decode cX6_rings 69 = .ok (.ior, 1) := by decide +kernel
theorem dX6_rings_70 : decode cX6_rings 70 = .ok (.istore 5, 2) := by decide +kernel
theorem dX6_rings_72 : decode cX6_rings 72 = .ok (.aload_n 0, 1) := by decide +kernel
theorem dX6_rings_73 : decode cX6_rings 73 = .ok (.iload_n 1, 1) := by decide +kernel
theorem dX6_rings_74 : decode cX6_rings 74 = .ok (.iload 5, 2) := by decide +kernel
theorem dX6_rings_76 : decode cX6_rings 76 = .ok (.invokevirtual 225, 3) := by decide +kernel
theorem dX6_rings_79 : decode cX6_rings 79 = .ok (.aload_n 0, 1) := by decide +kernel
theorem dX6_rings_80 : decode cX6_rings 80 = .ok (.iload_n 1, 1) := by decide +kernel
theorem dX6_rings_81 : decode cX6_rings 81 = .ok (.iload 5, 2) := by decide +kernel
theorem dX6_rings_83 : decode cX6_rings 83 = .ok (.iconst 1, 1) := by decide +kernel
theorem dX6_rings_84 : decode cX6_rings 84 = .ok (.iload_n 1, 1) := by decide +kernel
theorem dX6_rings_85 : decode cX6_rings 85 = .ok (.ishl, 1) := by decide +kernel
theorem dX6_rings_86 : decode cX6_rings 86 = .ok (.ixor, 1) := by decide +kernel
theorem dX6_rings_87 : decode cX6_rings 87 = .ok (.invokevirtual 225, 3) := by decide +kernel
theorem dX6_rings_90 : decode cX6_rings 90 = .ok (.if_icmp .lt 28, 3) := by decide +kernel
theorem dX6_rings_93 : decode cX6_rings 93 = .ok (.aload_n 0, 1) := by decide +kernel
theorem dX6_rings_94 : decode cX6_rings 94 = .ok (.iload_n 2, 1) := by decide +kernel
theorem dX6_rings_95 : decode cX6_rings 95 = .ok (.iload 5, 2) := by decide +kernel
theorem dX6_rings_97 : decode cX6_rings 97 = .ok (.invokevirtual 225, 3) := by decide +kernel
theorem dX6_rings_100 : decode cX6_rings 100 = .ok (.aload_n 0, 1) := by decide +kernel
theorem dX6_rings_101 : decode cX6_rings 101 = .ok (.iload_n 2, 1) := by decide +kernel
theorem dX6_rings_102 : decode cX6_rings 102 = .ok (.iload 5, 2) := by decide +kernel
theorem dX6_rings_104 : decode cX6_rings 104 = .ok (.iconst 1, 1) := by decide +kernel
theorem dX6_rings_105 : decode cX6_rings 105 = .ok (.iload_n 2, 1) := by decide +kernel
theorem dX6_rings_106 : decode cX6_rings 106 = .ok (.ishl, 1) := by decide +kernel
theorem dX6_rings_107 : decode cX6_rings 107 = .ok (.ixor, 1) := by decide +kernel
theorem dX6_rings_108 : decode cX6_rings 108 = .ok (.invokevirtual 225, 3) := by decide +kernel
theorem dX6_rings_111 : decode cX6_rings 111 = .ok (.if_icmp .lt 7, 3) := by decide +kernel
theorem dX6_rings_114 : decode cX6_rings 114 = .ok (.iconst 1, 1) := by decide +kernel
theorem dX6_rings_115 : decode cX6_rings 115 = .ok (.goto 4, 3) := by decide +kernel
theorem dX6_rings_118 : decode cX6_rings 118 = .ok (.iconst 0, 1) := by decide +kernel
theorem dX6_rings_119 : decode cX6_rings 119 = .ok (.istore 6, 2) := by decide +kernel
theorem dX6_rings_121 : decode cX6_rings 121 = .ok (.iload_n 3, 1) := by decide +kernel
theorem dX6_rings_122 : decode cX6_rings 122 = .ok (.iload 6, 2) := by decide +kernel
theorem dX6_rings_124 : decode cX6_rings 124 = .ok (.ifCond .eq 10, 3) := by decide +kernel
theorem dX6_rings_127 : decode cX6_rings 127 = .ok (.iconst 1, 1) := by decide +kernel
theorem dX6_rings_128 : decode cX6_rings 128 = .ok (.iload 4, 2) := by decide +kernel
theorem dX6_rings_130 : decode cX6_rings 130 = .ok (.ishl, 1) := by decide +kernel
theorem dX6_rings_131 : decode cX6_rings 131 = .ok (.goto 4, 3) := by decide +kernel
theorem dX6_rings_134 : decode cX6_rings 134 = .ok (.iconst 0, 1) := by decide +kernel
theorem dX6_rings_135 : decode cX6_rings 135 = .ok (.ior, 1) := by decide +kernel
theorem dX6_rings_136 : decode cX6_rings 136 = .ok (.istore_n 3, 1) := by decide +kernel
theorem dX6_rings_137 : decode cX6_rings 137 = .ok (.iinc 4 1, 3) := by decide +kernel
theorem dX6_rings_140 : decode cX6_rings 140 = .ok (.goto (-109), 3) := by decide +kernel
theorem dX6_rings_143 : decode cX6_rings 143 = .ok (.iload_n 3, 1) := by decide +kernel
theorem dX6_rings_144 : decode cX6_rings 144 = .ok (.ireturn, 1) := by decide +kernel
set_option maxRecDepth 20000 in
theorem ggX6_eyes_X6_in : GoodIn wsX6_eyes wsX6_in := goodIn_r _ [8] (by decide +kernel) (by decide +kernel)
set_option maxRecDepth 20000 in
theorem gX6_eyes_X6_in : GoodIn wsX6_eyes (va_wsS RX6 55 yX6_in wsX6_in) := goodIn_app (goodIn_of _ (by decide +kernel)) ggX6_eyes_X6_in
set_option maxRecDepth 20000 in
theorem ggX6_eyes_X6_bad : GoodIn wsX6_eyes wsX6_bad := goodIn_r _ [12, 13, 44, 45, 46, 47, 48, 49, 50, 51, 52, 53, 54, 55, 56, 57, 58, 59, 60, 61, 62] (by decide +kernel) (by decide +kernel)
set_option maxRecDepth 20000 in
theorem gX6_eyes_X6_bad : GoodIn wsX6_eyes (wsV RX6 63 RX6 yX6_bad wsX6_bad) := goodIn_app (goodIn_of _ (by decide +kernel)) ggX6_eyes_X6_bad
set_option maxRecDepth 20000 in
theorem ggX6_eyes_X6_biters : GoodIn wsX6_eyes wsX6_biters := goodIn_r _ [16, 17, 18, 7, 19, 20, 21, 22, 23, 24, 25, 26, 27, 28, 29, 30, 31, 32, 33, 34, 35, 36, 37, 38, 39, 40] (by decide +kernel) (by decide +kernel)
set_option maxRecDepth 20000 in
theorem gX6_eyes_X6_biters : GoodIn wsX6_eyes (va_wsS RX6 176 yX6_biters wsX6_biters) := goodIn_app (goodIn_of _ (by decide +kernel)) ggX6_eyes_X6_biters
set_option maxRecDepth 20000 in
theorem ggX6_eyes_X6_bits : GoodIn wsX6_eyes wsX6_bits := goodIn_r _ [43] (by decide +kernel) (by decide +kernel)
set_option maxRecDepth 20000 in
theorem gX6_eyes_X6_bits : GoodIn wsX6_eyes (va_wsS RX6 184 yX6_bits wsX6_bits) := goodIn_app (goodIn_of _ (by decide +kernel)) ggX6_eyes_X6_bits
theorem dX6_eyes_0 : decode cX6_eyes 0 = .ok (.iload_n 1, 1) := by decide +kernel
theorem dX6_eyes_1 : decode cX6_eyes 1 = .ok (.i2l, 1) := by decide +kernel
theorem dX6_eyes_2 : decode cX6_eyes 2 = .ok (.lconst 0, 1) := by decide +kernel
theorem dX6_eyes_3 : decode cX6_eyes 3 = .ok (.ldc2_w 228, 3) := by decide +kernel
theorem dX6_eyes_6 : decode cX6_eyes 6 = .ok (.invokestatic 55, 3) := by decide +kernel
theorem dX6_eyes_9 : decode cX6_eyes 9 = .ok (.ifCond .ne 8, 3) := by decide +kernel
theorem dX6_eyes_12 : decode cX6_eyes 12 = .ok (.aload_n 0, 1) := by decide +kernel
theorem dX6_eyes_13 : decode cX6_eyes 13 = .ok (.invokevirtual 63, 3) := by decide +kernel
theorem dX6_eyes_16 : decode cX6_eyes 16 = .ok (.ireturn, 1) := by decide +kernel
theorem dX6_eyes_17 : decode cX6_eyes 17 = .ok (.aload_n 0, 1) := by decide +kernel
theorem dX6_eyes_18 : decode cX6_eyes 18 = .ok (.getfield 7, 3) := by decide +kernel
theorem dX6_eyes_21 : decode cX6_eyes 21 = .ok (.invokestatic 176, 3) := by decide +kernel
theorem dX6_eyes_24 : decode cX6_eyes 24 = .ok (.invokestatic 184, 3) := by decide +kernel
theorem dX6_eyes_27 : decode cX6_eyes 27 = .ok (.i2l, 1) := by decide +kernel
theorem dX6_eyes_28 : decode cX6_eyes 28 = .ok (.bipush 10, 2) := by decide +kernel
theorem dX6_eyes_30 : decode cX6_eyes 30 = .ok (.iload_n 1, 1) := by decide +kernel
theorem dX6_eyes_31 : decode cX6_eyes 31 = .ok (.isub, 1) := by decide +kernel
theorem dX6_eyes_32 : decode cX6_eyes 32 = .ok (.i2l, 1) := by decide +kernel
theorem dX6_eyes_33 : decode cX6_eyes 33 = .ok (.lmul, 1) := by decide +kernel
theorem dX6_eyes_34 : decode cX6_eyes 34 = .ok (.lstore_n 2, 1) := by decide +kernel
theorem dX6_eyes_35 : decode cX6_eyes 35 = .ok (.lload_n 2, 1) := by decide +kernel
theorem dX6_eyes_36 : decode cX6_eyes 36 = .ok (.lstore 4, 2) := by decide +kernel
theorem dX6_eyes_38 : decode cX6_eyes 38 = .ok (.ldc2_w 228, 3) := by decide +kernel
theorem dX6_eyes_41 : decode cX6_eyes 41 = .ok (.lstore 6, 2) := by decide +kernel
theorem dX6_eyes_43 : decode cX6_eyes 43 = .ok (.lload 6, 2) := by decide +kernel
theorem dX6_eyes_45 : decode cX6_eyes 45 = .ok (.lconst 0, 1) := by decide +kernel
theorem dX6_eyes_46 : decode cX6_eyes 46 = .ok (.lcmp, 1) := by decide +kernel
theorem dX6_eyes_47 : decode cX6_eyes 47 = .ok (.ifCond .eq 21, 3) := by decide +kernel
theorem dX6_eyes_50 : decode cX6_eyes 50 = .ok (.lload 4, 2) := by decide +kernel
theorem dX6_eyes_52 : decode cX6_eyes 52 = .ok (.lload 6, 2) := by decide +kernel
theorem dX6_eyes_54 : decode cX6_eyes 54 = .ok (.lrem, 1) := by decide +kernel
theorem dX6_eyes_55 : decode cX6_eyes 55 = .ok (.lstore 8, 2) := by decide +kernel
theorem dX6_eyes_57 : decode cX6_eyes 57 = .ok (.lload 6, 2) := by decide +kernel
theorem dX6_eyes_59 : decode cX6_eyes 59 = .ok (.lstore 4, 2) := by decide +kernel
theorem dX6_eyes_61 : decode cX6_eyes 61 = .ok (.lload 8, 2) := by decide +kernel
theorem dX6_eyes_63 : decode cX6_eyes 63 = .ok (.lstore 6, 2) := by decide +kernel
theorem dX6_eyes_65 : decode cX6_eyes 65 = .ok (.goto (-22), 3) := by decide +kernel
theorem dX6_eyes_68 : decode cX6_eyes 68 = .ok (.aload_n 0, 1) := by decide +kernel
theorem dX6_eyes_69 : decode cX6_eyes 69 = .ok (.lload_n 2, 1) := by decide +kernel
theorem dX6_eyes_70 : decode cX6_eyes 70 = .ok (.lload 4, 2) := by decide +kernel
theorem dX6_eyes_72 : decode cX6_eyes 72 = .ok (.ldiv, 1) := by decide +kernel
theorem dX6_eyes_73 : decode cX6_eyes 73 = .ok (.putfield 230, 3) := by decide +kernel
theorem dX6_eyes_76 : decode cX6_eyes 76 = .ok (.aload_n 0, 1) := by decide +kernel
theorem dX6_eyes_77 : decode cX6_eyes 77 = .ok (.ldc2_w 228, 3) := by decide +kernel
theorem dX6_eyes_80 : decode cX6_eyes 80 = .ok (.lload 4, 2) := by decide +kernel
theorem dX6_eyes_82 : decode cX6_eyes 82 = .ok (.ldiv, 1) := by decide +kernel
theorem dX6_eyes_83 : decode cX6_eyes 83 = .ok (.putfield 29, 3) := by decide +kernel
theorem dX6_eyes_86 : decode cX6_eyes 86 = .ok (.iconst 1, 1) := by decide +kernel
theorem dX6_eyes_87 : decode cX6_eyes 87 = .ok (.ireturn, 1) := by decide +kernel
set_option maxRecDepth 20000 in
theorem ggX6_weeks_X6_in : GoodIn wsX6_weeks wsX6_in := goodIn_r _ [13] (by decide +kernel) (by decide +kernel)
set_option maxRecDepth 20000 in
theorem gX6_weeks_X6_in : GoodIn wsX6_weeks (va_wsS RX6 55 yX6_in wsX6_in) := goodIn_app (goodIn_of _ (by decide +kernel)) ggX6_weeks_X6_in
set_option maxRecDepth 20000 in
theorem ggX6_weeks_X6_bad : GoodIn wsX6_weeks wsX6_bad := goodIn_r _ [17, 18, 66, 67, 68, 69, 70, 71, 72, 73, 74, 75, 76, 77, 78, 79, 80, 81, 82, 83, 84] (by decide +kernel) (by decide +kernel)
set_option maxRecDepth 20000 in
theorem gX6_weeks_X6_bad : GoodIn wsX6_weeks (wsV RX6 63 RX6 yX6_bad wsX6_bad) := goodIn_app (goodIn_of _ (by decide +kernel)) ggX6_weeks_X6_bad
set_option maxRecDepth 20000 in
theorem ggX6_weeks_X6_layAside : GoodIn wsX6_weeks wsX6_layAside := goodIn_r _ [22, 3, 7, 23, 24, 12, 25, 66, 67, 68, 69, 70, 71, 72, 73, 74, 75, 76, 77, 78, 79, 80, 81, 82, 83, 84] (by decide +kernel) (by decide +kernel)
set_option maxRecDepth 20000 in
theorem gX6_weeks_X6_layAside : GoodIn wsX6_weeks (wsV RX6 205 RX6 yX6_layAside wsX6_layAside) := goodIn_app (goodIn_of _ (by decide +kernel)) ggX6_weeks_X6_layAside
set_option maxRecDepth 20000 in
theorem ggX6_weeks_X6_bitesIn : GoodIn wsX6_weeks wsX6_bitesIn := goodIn_r _ [29, 7, 30, 31, 12, 32, 33, 34, 35, 36, 37, 38, 39, 40, 41, 42, 43, 44, 45, 46, 47, 48, 49, 50, 51, 52, 53, 54, 55, 56, 57, 58, 59, 60, 61, 62, 63, 64, 65, 66, 67, 68, 69, 70, 71, 72, 73, 74, 75, 76, 77, 78, 79, 80, 81, 82, 83, 84] (by decide +kernel) (by decide +kernel)
set_option maxRecDepth 20000 in
theorem gX6_weeks_X6_bitesIn : GoodIn wsX6_weeks (wsV RX6 208 RX6 yX6_bitesIn wsX6_bitesIn) := goodIn_app (goodIn_of _ (by decide +kernel)) ggX6_weeks_X6_bitesIn
theorem dX6_weeks_0 : decode cX6_weeks 0 = .ok (.iload_n 1, 1) := by decide +kernel
theorem dX6_weeks_1 : decode cX6_weeks 1 = .ok (.i2l, 1) := by decide +kernel
theorem dX6_weeks_2 : decode cX6_weeks 2 = .ok (.lconst 0, 1) := by decide +kernel
theorem dX6_weeks_3 : decode cX6_weeks 3 = .ok (.ldc2_w 233, 3) := by decide +kernel
theorem dX6_weeks_6 : decode cX6_weeks 6 = .ok (.invokestatic 55, 3) := by decide +kernel
theorem dX6_weeks_9 : decode cX6_weeks 9 = .ok (.ifCond .eq 15, 3) := by decide +kernel
theorem dX6_weeks_12 : decode cX6_weeks 12 = .ok (.iload_n 2, 1) := by decide +kernel
theorem dX6_weeks_13 : decode cX6_weeks 13 = .ok (.i2l, 1) := by decide +kernel
theorem dX6_weeks_14 : decode cX6_weeks 14 = .ok (.lconst 0, 1) := by decide +kernel
theorem dX6_weeks_15 : decode cX6_weeks 15 = .ok (.ldc2_w 188, 3) := by decide +kernel
theorem dX6_weeks_18 : decode cX6_weeks 18 = .ok (.invokestatic 55, 3) := by decide +kernel
theorem dX6_weeks_21 : decode cX6_weeks 21 = .ok (.ifCond .ne 8, 3) := by decide +kernel
theorem dX6_weeks_24 : decode cX6_weeks 24 = .ok (.aload_n 0, 1) := by decide +kernel
theorem dX6_weeks_25 : decode cX6_weeks 25 = .ok (.invokevirtual 63, 3) := by decide +kernel
theorem dX6_weeks_28 : decode cX6_weeks 28 = .ok (.ireturn, 1) := by decide +kernel
theorem dX6_weeks_29 : decode cX6_weeks 29 = .ok (.iload_n 1, 1) := by decide +kernel
theorem dX6_weeks_30 : decode cX6_weeks 30 = .ok (.i2l, 1) := by decide +kernel
theorem dX6_weeks_31 : decode cX6_weeks 31 = .ok (.lstore_n 3, 1) := by decide +kernel
theorem dX6_weeks_32 : decode cX6_weeks 32 = .ok (.iconst 0, 1) := by decide +kernel
theorem dX6_weeks_33 : decode cX6_weeks 33 = .ok (.istore 5, 2) := by decide +kernel
theorem dX6_weeks_35 : decode cX6_weeks 35 = .ok (.iconst 0, 1) := by decide +kernel
theorem dX6_weeks_36 : decode cX6_weeks 36 = .ok (.istore 6, 2) := by decide +kernel
theorem dX6_weeks_38 : decode cX6_weeks 38 = .ok (.iload 6, 2) := by decide +kernel
theorem dX6_weeks_40 : decode cX6_weeks 40 = .ok (.iload_n 2, 1) := by decide +kernel
theorem dX6_weeks_41 : decode cX6_weeks 41 = .ok (.if_icmp .ge 78, 3) := by decide +kernel
theorem dX6_weeks_44 : decode cX6_weeks 44 = .ok (.aload_n 0, 1) := by decide +kernel
theorem dX6_weeks_45 : decode cX6_weeks 45 = .ok (.invokevirtual 205, 3) := by decide +kernel
theorem dX6_weeks_48 : decode cX6_weeks 48 = .ok (.iconst 0, 1) := by decide +kernel
theorem dX6_weeks_49 : decode cX6_weeks 49 = .ok (.istore 7, 2) := by decide +kernel
theorem dX6_weeks_51 : decode cX6_weeks 51 = .ok (.iload 7, 2) := by decide +kernel
theorem dX6_weeks_53 : decode cX6_weeks 53 = .ok (.aload_n 0, 1) := by decide +kernel
theorem dX6_weeks_54 : decode cX6_weeks 54 = .ok (.getfield 7, 3) := by decide +kernel
theorem dX6_weeks_57 : decode cX6_weeks 57 = .ok (.bipush 22, 2) := by decide +kernel
theorem dX6_weeks_59 : decode cX6_weeks 59 = .ok (.iaload, 1) := by decide +kernel
theorem dX6_weeks_60 : decode cX6_weeks 60 = .ok (.if_icmp .ge 43, 3) := by decide +kernel
theorem dX6_weeks_63 : decode cX6_weeks 63 = .ok (.lload_n 3, 1) := by decide +kernel
theorem dX6_weeks_64 : decode cX6_weeks 64 = .ok (.ldc2_w 235, 3) := by decide +kernel
theorem dX6_weeks_67 : decode cX6_weeks 67 = .ok (.lmul, 1) := by decide +kernel
theorem dX6_weeks_68 : decode cX6_weeks 68 = .ok (.ldc2_w 237, 3) := by decide +kernel
theorem dX6_weeks_71 : decode cX6_weeks 71 = .ok (.ladd, 1) := by decide +kernel
theorem dX6_weeks_72 : decode cX6_weeks 72 = .ok (.ldc2_w 239, 3) := by decide +kernel
theorem dX6_weeks_75 : decode cX6_weeks 75 = .ok (.lrem, 1) := by decide +kernel
theorem dX6_weeks_76 : decode cX6_weeks 76 = .ok (.lstore_n 3, 1) := by decide +kernel
theorem dX6_weeks_77 : decode cX6_weeks 77 = .ok (.aload_n 0, 1) := by decide +kernel
theorem dX6_weeks_78 : decode cX6_weeks 78 = .ok (.getfield 16, 3) := by decide +kernel
theorem dX6_weeks_81 : decode cX6_weeks 81 = .ok (.bipush 6, 2) := by decide +kernel
theorem dX6_weeks_83 : decode cX6_weeks 83 = .ok (.iload 7, 2) := by decide +kernel
theorem dX6_weeks_85 : decode cX6_weeks 85 = .ok (.iadd, 1) := by decide +kernel
theorem dX6_weeks_86 : decode cX6_weeks 86 = .ok (.lload_n 3, 1) := by decide +kernel
theorem dX6_weeks_87 : decode cX6_weeks 87 = .ok (.ldc2_w 241, 3) := by decide +kernel
theorem dX6_weeks_90 : decode cX6_weeks 90 = .ok (.ldiv, 1) := by decide +kernel
theorem dX6_weeks_91 : decode cX6_weeks 91 = .ok (.ldc2_w 243, 3) := by decide +kernel
theorem dX6_weeks_94 : decode cX6_weeks 94 = .ok (.lrem, 1) := by decide +kernel
theorem dX6_weeks_95 : decode cX6_weeks 95 = .ok (.l2i, 1) := by decide +kernel
theorem dX6_weeks_96 : decode cX6_weeks 96 = .ok (.iastore, 1) := by decide +kernel
theorem dX6_weeks_97 : decode cX6_weeks 97 = .ok (.iinc 7 1, 3) := by decide +kernel
theorem dX6_weeks_100 : decode cX6_weeks 100 = .ok (.goto (-49), 3) := by decide +kernel
theorem dX6_weeks_103 : decode cX6_weeks 103 = .ok (.iload 5, 2) := by decide +kernel
theorem dX6_weeks_105 : decode cX6_weeks 105 = .ok (.aload_n 0, 1) := by decide +kernel
theorem dX6_weeks_106 : decode cX6_weeks 106 = .ok (.iconst 3, 1) := by decide +kernel
theorem dX6_weeks_107 : decode cX6_weeks 107 = .ok (.invokevirtual 208, 3) := by decide +kernel
theorem dX6_weeks_110 : decode cX6_weeks 110 = .ok (.iadd, 1) := by decide +kernel
theorem dX6_weeks_111 : decode cX6_weeks 111 = .ok (.istore 5, 2) := by decide +kernel
theorem dX6_weeks_113 : decode cX6_weeks 113 = .ok (.iinc 6 1, 3) := by decide +kernel
theorem dX6_weeks_116 : decode cX6_weeks 116 = .ok (.goto (-78), 3) := by decide +kernel
theorem dX6_weeks_119 : decode cX6_weeks 119 = .ok (.iload 5, 2) := by decide +kernel
theorem dX6_weeks_121 : decode cX6_weeks 121 = .ok (.ireturn, 1) := by decide +kernel
set_option maxRecDepth 20000 in
theorem ggX6_part_X6_in : GoodIn wsX6_part wsX6_in := goodIn_r _ [6] (by decide +kernel) (by decide +kernel)
set_option maxRecDepth 20000 in
theorem gX6_part_X6_in : GoodIn wsX6_part (va_wsS RX6 55 yX6_in wsX6_in) := goodIn_app (goodIn_of _ (by decide +kernel)) ggX6_part_X6_in
set_option maxRecDepth 20000 in
theorem ggX6_part_X6_bad : GoodIn wsX6_part wsX6_bad := goodIn_r _ [10, 11, 12, 13, 14, 15, 16, 17, 18, 19, 20, 21, 22, 23, 24, 25, 26, 27, 28, 29, 30] (by decide +kernel) (by decide +kernel)
set_option maxRecDepth 20000 in
theorem gX6_part_X6_bad : GoodIn wsX6_part (wsV RX6 63 RX6 yX6_bad wsX6_bad) := goodIn_app (goodIn_of _ (by decide +kernel)) ggX6_part_X6_bad
theorem dX6_part_0 : decode cX6_part 0 = .ok (.iload_n 1, 1) := by decide +kernel
theorem dX6_part_1 : decode cX6_part 1 = .ok (.i2l, 1) := by decide +kernel
theorem dX6_part_2 : decode cX6_part 2 = .ok (.lconst 0, 1) := by decide +kernel
theorem dX6_part_3 : decode cX6_part 3 = .ok (.lconst 1, 1) := by decide +kernel
theorem dX6_part_4 : decode cX6_part 4 = .ok (.invokestatic 55, 3) := by decide +kernel
theorem dX6_part_7 : decode cX6_part 7 = .ok (.ifCond .ne 9, 3) := by decide +kernel
theorem dX6_part_10 : decode cX6_part 10 = .ok (.aload_n 0, 1) := by decide +kernel
theorem dX6_part_11 : decode cX6_part 11 = .ok (.invokevirtual 63, 3) := by decide +kernel
theorem dX6_part_14 : decode cX6_part 14 = .ok (.i2l, 1) := by decide +kernel
theorem dX6_part_15 : decode cX6_part 15 = .ok (.lreturn, 1) := by decide +kernel
theorem dX6_part_16 : decode cX6_part 16 = .ok (.iload_n 1, 1) := by decide +kernel
theorem dX6_part_17 : decode cX6_part 17 = .ok (.ifCond .ne 10, 3) := by decide +kernel
theorem dX6_part_20 : decode cX6_part 20 = .ok (.aload_n 0, 1) := by decide +kernel
theorem dX6_part_21 : decode cX6_part 21 = .ok (.getfield 230, 3) := by decide +kernel
theorem dX6_part_24 : decode cX6_part 24 = .ok (.goto 7, 3) := by decide +kernel
theorem dX6_part_27 : decode cX6_part 27 = .ok (.aload_n 0, 1) := by decide +kernel
theorem dX6_part_28 : decode cX6_part 28 = .ok (.getfield 29, 3) := by decide +kernel
theorem dX6_part_31 : decode cX6_part 31 = .ok (.lreturn, 1) := by decide +kernel
set_option maxRecDepth 20000 in
theorem ggX6_image_X6_in : GoodIn wsX6_image wsX6_in := goodIn_r _ [7] (by decide +kernel) (by decide +kernel)
set_option maxRecDepth 20000 in
theorem gX6_image_X6_in : GoodIn wsX6_image (va_wsS RX6 55 yX6_in wsX6_in) := goodIn_app (goodIn_of _ (by decide +kernel)) ggX6_image_X6_in
set_option maxRecDepth 20000 in
theorem ggX6_image_X6_bad : GoodIn wsX6_image wsX6_bad := goodIn_r _ [11, 12, 16, 17, 18, 19, 20, 21, 22, 23, 24, 25, 26, 27, 28, 29, 30, 31, 32, 33, 34] (by decide +kernel) (by decide +kernel)
set_option maxRecDepth 20000 in
theorem gX6_image_X6_bad : GoodIn wsX6_image (wsV RX6 63 RX6 yX6_bad wsX6_bad) := goodIn_app (goodIn_of _ (by decide +kernel)) ggX6_image_X6_bad
set_option maxRecDepth 20000 in
theorem ggX6_image_X6_copies : GoodIn wsX6_image wsX6_copies := goodIn_r _ [15] (by decide +kernel) (by decide +kernel)
set_option maxRecDepth 20000 in
theorem gX6_image_X6_copies : GoodIn wsX6_image (va_wsS RX6 152 yX6_copies wsX6_copies) := goodIn_app (goodIn_of _ (by decide +kernel)) ggX6_image_X6_copies
theorem dX6_image_0 : decode cX6_image 0 = .ok (.iload_n 1, 1) := by decide +kernel
theorem dX6_image_1 : decode cX6_image 1 = .ok (.i2l, 1) := by decide +kernel
theorem dX6_image_2 : decode cX6_image 2 = .ok (.lconst 0, 1) := by decide +kernel
theorem dX6_image_3 : decode cX6_image 3 = .ok (.lconst 1, 1) := by decide +kernel
theorem dX6_image_4 : decode cX6_image 4 = .ok (.invokestatic 55, 3) := by decide +kernel
theorem dX6_image_7 : decode cX6_image 7 = .ok (.ifCond .ne 8, 3) := by decide +kernel
theorem dX6_image_10 : decode cX6_image 10 = .ok (.aload_n 0, 1) := by decide +kernel
theorem dX6_image_11 : decode cX6_image 11 = .ok (.invokevirtual 63, 3) := by decide +kernel
theorem dX6_image_14 : decode cX6_image 14 = .ok (.ireturn, 1) := by decide +kernel
theorem dX6_image_15 : decode cX6_image 15 = .ok (.aload_n 0, 1) := by decide +kernel
theorem dX6_image_16 : decode cX6_image 16 = .ok (.getfield 7, 3) := by decide +kernel
theorem dX6_image_19 : decode cX6_image 19 = .ok (.iconst 0, 1) := by decide +kernel
theorem dX6_image_20 : decode cX6_image 20 = .ok (.aload_n 0, 1) := by decide +kernel
theorem dX6_image_21 : decode cX6_image 21 = .ok (.getfield 19, 3) := by decide +kernel
theorem dX6_image_24 : decode cX6_image 24 = .ok (.sipush 255, 3) := by decide +kernel
theorem dX6_image_27 : decode cX6_image 27 = .ok (.iload_n 1, 1) := by decide +kernel
theorem dX6_image_28 : decode cX6_image 28 = .ok (.imul, 1) := by decide +kernel
theorem dX6_image_29 : decode cX6_image 29 = .ok (.sipush 255, 3) := by decide +kernel
theorem dX6_image_32 : decode cX6_image 32 = .ok (.invokestatic 152, 3) := by decide +kernel
theorem dX6_image_35 : decode cX6_image 35 = .ok (.aload_n 0, 1) := by decide +kernel
theorem dX6_image_36 : decode cX6_image 36 = .ok (.getfield 22, 3) := by decide +kernel
theorem dX6_image_39 : decode cX6_image 39 = .ok (.iload_n 1, 1) := by decide +kernel
theorem dX6_image_40 : decode cX6_image 40 = .ok (.iconst 1, 1) := by decide +kernel
theorem dX6_image_41 : decode cX6_image 41 = .ok (.bastore, 1) := by decide +kernel
theorem dX6_image_42 : decode cX6_image 42 = .ok (.iconst 1, 1) := by decide +kernel
theorem dX6_image_43 : decode cX6_image 43 = .ok (.ireturn, 1) := by decide +kernel
set_option maxRecDepth 20000 in
theorem ggX6_from_X6_in : GoodIn wsX6_from wsX6_in := goodIn_r _ [7] (by decide +kernel) (by decide +kernel)
set_option maxRecDepth 20000 in
theorem gX6_from_X6_in : GoodIn wsX6_from (va_wsS RX6 55 yX6_in wsX6_in) := goodIn_app (goodIn_of _ (by decide +kernel)) ggX6_from_X6_in
set_option maxRecDepth 20000 in
theorem ggX6_from_X6_bad : GoodIn wsX6_from wsX6_bad := goodIn_r _ [11, 12, 21, 22, 23, 24, 25, 26, 27, 28, 29, 30, 31, 32, 33, 34, 35, 36, 37, 38, 39] (by decide +kernel) (by decide +kernel)
set_option maxRecDepth 20000 in
theorem gX6_from_X6_bad : GoodIn wsX6_from (wsV RX6 63 RX6 yX6_bad wsX6_bad) := goodIn_app (goodIn_of _ (by decide +kernel)) ggX6_from_X6_bad
set_option maxRecDepth 20000 in
theorem ggX6_from_X6_no : GoodIn wsX6_from wsX6_no := goodIn_r _ [16, 17, 21, 22, 23, 24, 25, 26, 27, 28, 29, 30, 31, 32, 33, 34, 35, 36, 37, 38, 39] (by decide +kernel) (by decide +kernel)
set_option maxRecDepth 20000 in
theorem gX6_from_X6_no : GoodIn wsX6_from (wsV RX6 77 RX6 yX6_no wsX6_no) := goodIn_app (goodIn_of _ (by decide +kernel)) ggX6_from_X6_no
set_option maxRecDepth 20000 in
theorem ggX6_from_X6_copies : GoodIn wsX6_from wsX6_copies := goodIn_r _ [20] (by decide +kernel) (by decide +kernel)
set_option maxRecDepth 20000 in
theorem gX6_from_X6_copies : GoodIn wsX6_from (va_wsS RX6 152 yX6_copies wsX6_copies) := goodIn_app (goodIn_of _ (by decide +kernel)) ggX6_from_X6_copies
theorem dX6_from_0 : decode cX6_from 0 = .ok (.iload_n 1, 1) := by decide +kernel
theorem dX6_from_1 : decode cX6_from 1 = .ok (.i2l, 1) := by decide +kernel
theorem dX6_from_2 : decode cX6_from 2 = .ok (.lconst 0, 1) := by decide +kernel
theorem dX6_from_3 : decode cX6_from 3 = .ok (.lconst 1, 1) := by decide +kernel
theorem dX6_from_4 : decode cX6_from 4 = .ok (.invokestatic 55, 3) := by decide +kernel
theorem dX6_from_7 : decode cX6_from 7 = .ok (.ifCond .ne 8, 3) := by decide +kernel
theorem dX6_from_10 : decode cX6_from 10 = .ok (.aload_n 0, 1) := by decide +kernel
theorem dX6_from_11 : decode cX6_from 11 = .ok (.invokevirtual 63, 3) := by decide +kernel
theorem dX6_from_14 : decode cX6_from 14 = .ok (.ireturn, 1) := by decide +kernel
theorem dX6_from_15 : decode cX6_from 15 = .ok (.aload_n 0, 1) := by decide +kernel
theorem dX6_from_16 : decode cX6_from 16 = .ok (.getfield 22, 3) := by decide +kernel
theorem dX6_from_19 : decode cX6_from 19 = .ok (.iload_n 1, 1) := by decide +kernel
theorem dX6_from_20 : decode cX6_from 20 = .ok (.baload, 1) := by decide +kernel
theorem dX6_from_21 : decode cX6_from 21 = .ok (.ifCond .ne 8, 3) := by decide +kernel
theorem dX6_from_24 : decode cX6_from 24 = .ok (.aload_n 0, 1) := by decide +kernel
theorem dX6_from_25 : decode cX6_from 25 = .ok (.invokevirtual 77, 3) := by decide +kernel
theorem dX6_from_28 : decode cX6_from 28 = .ok (.ireturn, 1) := by decide +kernel
theorem dX6_from_29 : decode cX6_from 29 = .ok (.aload_n 0, 1) := by decide +kernel
theorem dX6_from_30 : decode cX6_from 30 = .ok (.getfield 19, 3) := by decide +kernel
theorem dX6_from_33 : decode cX6_from 33 = .ok (.sipush 255, 3) := by decide +kernel
theorem dX6_from_36 : decode cX6_from 36 = .ok (.iload_n 1, 1) := by decide +kernel
theorem dX6_from_37 : decode cX6_from 37 = .ok (.imul, 1) := by decide +kernel
theorem dX6_from_38 : decode cX6_from 38 = .ok (.aload_n 0, 1) := by decide +kernel
theorem dX6_from_39 : decode cX6_from 39 = .ok (.getfield 7, 3) := by decide +kernel
theorem dX6_from_42 : decode cX6_from 42 = .ok (.iconst 0, 1) := by decide +kernel
theorem dX6_from_43 : decode cX6_from 43 = .ok (.sipush 255, 3) := by decide +kernel
theorem dX6_from_46 : decode cX6_from 46 = .ok (.invokestatic 152, 3) := by decide +kernel
theorem dX6_from_49 : decode cX6_from 49 = .ok (.iconst 1, 1) := by decide +kernel
theorem dX6_from_50 : decode cX6_from 50 = .ok (.ireturn, 1) := by decide +kernel
theorem dX6_status_0 : decode cX6_status 0 = .ok (.iload_n 1, 1) := by decide +kernel
theorem dX6_status_1 : decode cX6_status 1 = .ok (.tableswitch 42 0 2 #[27, 32, 37], 27) := by decide +kernel
theorem dX6_status_28 : decode cX6_status 28 = .ok (.aload_n 0, 1) := by decide +kernel
theorem dX6_status_29 : decode cX6_status 29 = .ok (.getfield 43, 3) := by decide +kernel
theorem dX6_status_32 : decode cX6_status 32 = .ok (.ireturn, 1) := by decide +kernel
theorem dX6_status_33 : decode cX6_status 33 = .ok (.aload_n 0, 1) := by decide +kernel
theorem dX6_status_34 : decode cX6_status 34 = .ok (.getfield 47, 3) := by decide +kernel
theorem dX6_status_37 : decode cX6_status 37 = .ok (.ireturn, 1) := by decide +kernel
theorem dX6_status_38 : decode cX6_status 38 = .ok (.aload_n 0, 1) := by decide +kernel
theorem dX6_status_39 : decode cX6_status 39 = .ok (.getfield 50, 3) := by decide +kernel
theorem dX6_status_42 : decode cX6_status 42 = .ok (.ireturn, 1) := by decide +kernel
theorem dX6_status_43 : decode cX6_status 43 = .ok (.aload_n 0, 1) := by decide +kernel
theorem dX6_status_44 : decode cX6_status 44 = .ok (.dup, 1) := by decide +kernel
theorem dX6_status_45 : decode cX6_status 45 = .ok (.getfield 43, 3) := by decide +kernel
theorem dX6_status_48 : decode cX6_status 48 = .ok (.iconst 1, 1) := by decide +kernel
theorem dX6_status_49 : decode cX6_status 49 = .ok (.iadd, 1) := by decide +kernel
theorem dX6_status_50 : decode cX6_status 50 = .ok (.putfield 43, 3) := by decide +kernel
theorem dX6_status_53 : decode cX6_status 53 = .ok (.iconst (-1), 1) := by decide +kernel
theorem dX6_status_54 : decode cX6_status 54 = .ok (.ireturn, 1) := by decide +kernel
theorem dX6_counted_0 : decode cX6_counted 0 = .ok (.iload_n 1, 1) := by decide +kernel
theorem dX6_counted_1 : decode cX6_counted 1 = .ok (.tableswitch 99 0 6 #[43, 51, 59, 67, 75, 83, 91], 43) := by decide +kernel
theorem dX6_counted_44 : decode cX6_counted 44 = .ok (.aload_n 0, 1) := by decide +kernel
theorem dX6_counted_45 : decode cX6_counted 45 = .ok (.getfield 7, 3) := by decide +kernel
theorem dX6_counted_48 : decode cX6_counted 48 = .ok (.bipush 22, 2) := by decide +kernel
theorem dX6_counted_50 : decode cX6_counted 50 = .ok (.iaload, 1) := by decide +kernel
theorem dX6_counted_51 : decode cX6_counted 51 = .ok (.ireturn, 1) := by decide +kernel
theorem dX6_counted_52 : decode cX6_counted 52 = .ok (.aload_n 0, 1) := by decide +kernel
theorem dX6_counted_53 : decode cX6_counted 53 = .ok (.getfield 7, 3) := by decide +kernel
theorem dX6_counted_56 : decode cX6_counted 56 = .ok (.bipush 21, 2) := by decide +kernel
theorem dX6_counted_58 : decode cX6_counted 58 = .ok (.iaload, 1) := by decide +kernel
theorem dX6_counted_59 : decode cX6_counted 59 = .ok (.ireturn, 1) := by decide +kernel
theorem dX6_counted_60 : decode cX6_counted 60 = .ok (.aload_n 0, 1) := by decide +kernel
theorem dX6_counted_61 : decode cX6_counted 61 = .ok (.getfield 7, 3) := by decide +kernel
theorem dX6_counted_64 : decode cX6_counted 64 = .ok (.bipush 18, 2) := by decide +kernel
theorem dX6_counted_66 : decode cX6_counted 66 = .ok (.iaload, 1) := by decide +kernel
theorem dX6_counted_67 : decode cX6_counted 67 = .ok (.ireturn, 1) := by decide +kernel
theorem dX6_counted_68 : decode cX6_counted 68 = .ok (.aload_n 0, 1) := by decide +kernel
theorem dX6_counted_69 : decode cX6_counted 69 = .ok (.getfield 7, 3) := by decide +kernel
theorem dX6_counted_72 : decode cX6_counted 72 = .ok (.bipush 19, 2) := by decide +kernel
theorem dX6_counted_74 : decode cX6_counted 74 = .ok (.iaload, 1) := by decide +kernel
theorem dX6_counted_75 : decode cX6_counted 75 = .ok (.ireturn, 1) := by decide +kernel
theorem dX6_counted_76 : decode cX6_counted 76 = .ok (.aload_n 0, 1) := by decide +kernel
theorem dX6_counted_77 : decode cX6_counted 77 = .ok (.getfield 7, 3) := by decide +kernel
theorem dX6_counted_80 : decode cX6_counted 80 = .ok (.bipush 20, 2) := by decide +kernel
theorem dX6_counted_82 : decode cX6_counted 82 = .ok (.iaload, 1) := by decide +kernel
theorem dX6_counted_83 : decode cX6_counted 83 = .ok (.ireturn, 1) := by decide +kernel
theorem dX6_counted_84 : decode cX6_counted 84 = .ok (.aload_n 0, 1) := by decide +kernel
theorem dX6_counted_85 : decode cX6_counted 85 = .ok (.getfield 7, 3) := by decide +kernel
theorem dX6_counted_88 : decode cX6_counted 88 = .ok (.bipush 35, 2) := by decide +kernel
theorem dX6_counted_90 : decode cX6_counted 90 = .ok (.iaload, 1) := by decide +kernel
theorem dX6_counted_91 : decode cX6_counted 91 = .ok (.ireturn, 1) := by decide +kernel
theorem dX6_counted_92 : decode cX6_counted 92 = .ok (.aload_n 0, 1) := by decide +kernel
theorem dX6_counted_93 : decode cX6_counted 93 = .ok (.getfield 7, 3) := by decide +kernel
theorem dX6_counted_96 : decode cX6_counted 96 = .ok (.bipush 78, 2) := by decide +kernel
theorem dX6_counted_98 : decode cX6_counted 98 = .ok (.iaload, 1) := by decide +kernel
theorem dX6_counted_99 : decode cX6_counted 99 = .ok (.ireturn, 1) := by decide +kernel
theorem dX6_counted_100 : decode cX6_counted 100 = .ok (.aload_n 0, 1) := by decide +kernel
theorem dX6_counted_101 : decode cX6_counted 101 = .ok (.getfield 89, 3) := by decide +kernel
theorem dX6_counted_104 : decode cX6_counted 104 = .ok (.ireturn, 1) := by decide +kernel
set_option maxRecDepth 20000 in
theorem ggX6_count_X6_in : GoodIn wsX6_count wsX6_in := goodIn_r _ [5] (by decide +kernel) (by decide +kernel)
set_option maxRecDepth 20000 in
theorem gX6_count_X6_in : GoodIn wsX6_count (va_wsS RX6 55 yX6_in wsX6_in) := goodIn_app (goodIn_of _ (by decide +kernel)) ggX6_count_X6_in
set_option maxRecDepth 20000 in
theorem ggX6_count_X6_counted : GoodIn wsX6_count wsX6_counted := goodIn_r _ [9, 10, 11, 17, 18, 19, 20, 21, 22, 23, 24, 25, 26, 27, 28, 29, 30, 31, 32, 33, 34, 35] (by decide +kernel) (by decide +kernel)
set_option maxRecDepth 20000 in
theorem gX6_count_X6_counted : GoodIn wsX6_count (wsV RX6 245 RX6 yX6_counted wsX6_counted) := goodIn_app (goodIn_of _ (by decide +kernel)) ggX6_count_X6_counted
set_option maxRecDepth 20000 in
theorem ggX6_count_X6_bad : GoodIn wsX6_count wsX6_bad := goodIn_r _ [15, 16, 17, 18, 19, 20, 21, 22, 23, 24, 25, 26, 27, 28, 29, 30, 31, 32, 33, 34, 35] (by decide +kernel) (by decide +kernel)
set_option maxRecDepth 20000 in
theorem gX6_count_X6_bad : GoodIn wsX6_count (wsV RX6 63 RX6 yX6_bad wsX6_bad) := goodIn_app (goodIn_of _ (by decide +kernel)) ggX6_count_X6_bad
theorem dX6_count_0 : decode cX6_count 0 = .ok (.iload_n 1, 1) := by decide +kernel
theorem dX6_count_1 : decode cX6_count 1 = .ok (.i2l, 1) := by decide +kernel
theorem dX6_count_2 : decode cX6_count 2 = .ok (.lconst 0, 1) := by decide +kernel
theorem dX6_count_3 : decode cX6_count 3 = .ok (.ldc2_w 53, 3) := by decide +kernel
theorem dX6_count_6 : decode cX6_count 6 = .ok (.invokestatic 55, 3) := by decide +kernel
theorem dX6_count_9 : decode cX6_count 9 = .ok (.ifCond .eq 11, 3) := by decide +kernel
theorem dX6_count_12 : decode cX6_count 12 = .ok (.aload_n 0, 1) := by decide +kernel
theorem dX6_count_13 : decode cX6_count 13 = .ok (.iload_n 1, 1) := by decide +kernel
theorem dX6_count_14 : decode cX6_count 14 = .ok (.invokevirtual 245, 3) := by decide +kernel
theorem dX6_count_17 : decode cX6_count 17 = .ok (.goto 7, 3) := by decide +kernel
theorem dX6_count_20 : decode cX6_count 20 = .ok (.aload_n 0, 1) := by decide +kernel
theorem dX6_count_21 : decode cX6_count 21 = .ok (.invokevirtual 63, 3) := by decide +kernel
theorem dX6_count_24 : decode cX6_count 24 = .ok (.ireturn, 1) := by decide +kernel
set_option maxRecDepth 20000 in
theorem ggX6_digest_X6_counted : GoodIn wsX6_digest wsX6_counted := goodIn_r _ [10, 3, 11, 12, 13, 14, 15, 16, 17, 18, 19, 20, 21, 22, 23, 24, 25, 26, 27, 28, 29, 30] (by decide +kernel) (by decide +kernel)
set_option maxRecDepth 20000 in
theorem gX6_digest_X6_counted : GoodIn wsX6_digest (wsV RX6 245 RX6 yX6_counted wsX6_counted) := goodIn_app (goodIn_of _ (by decide +kernel)) ggX6_digest_X6_counted
theorem dX6_digest_0 : decode cX6_digest 0 = .ok (.ldc2_w 248, 3) := by decide +kernel
theorem dX6_digest_3 : decode cX6_digest 3 = .ok (.lstore_n 1, 1) := by decide +kernel
theorem dX6_digest_4 : decode cX6_digest 4 = .ok (.iconst 0, 1) := by decide +kernel
theorem dX6_digest_5 : decode cX6_digest 5 = .ok (.istore_n 3, 1) := by decide +kernel
theorem dX6_digest_6 : decode cX6_digest 6 = .ok (.iload_n 3, 1) := by decide +kernel
theorem dX6_digest_7 : decode cX6_digest 7 = .ok (.bipush 8, 2) := by decide +kernel
theorem dX6_digest_9 : decode cX6_digest 9 = .ok (.if_icmp .ge 22, 3) := by decide +kernel
theorem dX6_digest_12 : decode cX6_digest 12 = .ok (.ldc2_w 243, 3) := by decide +kernel
theorem dX6_digest_15 : decode cX6_digest 15 = .ok (.lload_n 1, 1) := by decide +kernel
theorem dX6_digest_16 : decode cX6_digest 16 = .ok (.lmul, 1) := by decide +kernel
theorem dX6_digest_17 : decode cX6_digest 17 = .ok (.aload_n 0, 1) := by decide +kernel
theorem dX6_digest_18 : decode cX6_digest 18 = .ok (.iload_n 3, 1) := by decide +kernel
theorem dX6_digest_19 : decode cX6_digest 19 = .ok (.invokevirtual 245, 3) := by decide +kernel
theorem dX6_digest_22 : decode cX6_digest 22 = .ok (.i2l, 1) := by decide +kernel
theorem dX6_digest_23 : decode cX6_digest 23 = .ok (.ladd, 1) := by decide +kernel
theorem dX6_digest_24 : decode cX6_digest 24 = .ok (.lstore_n 1, 1) := by decide +kernel
theorem dX6_digest_25 : decode cX6_digest 25 = .ok (.iinc 3 1, 3) := by decide +kernel
theorem dX6_digest_28 : decode cX6_digest 28 = .ok (.goto (-22), 3) := by decide +kernel
theorem dX6_digest_31 : decode cX6_digest 31 = .ok (.iconst 0, 1) := by decide +kernel
theorem dX6_digest_32 : decode cX6_digest 32 = .ok (.istore_n 3, 1) := by decide +kernel
theorem dX6_digest_33 : decode cX6_digest 33 = .ok (.iload_n 3, 1) := by decide +kernel
theorem dX6_digest_34 : decode cX6_digest 34 = .ok (.aload_n 0, 1) := by decide +kernel
theorem dX6_digest_35 : decode cX6_digest 35 = .ok (.getfield 7, 3) := by decide +kernel
theorem dX6_digest_38 : decode cX6_digest 38 = .ok (.bipush 22, 2) := by decide +kernel
theorem dX6_digest_40 : decode cX6_digest 40 = .ok (.iaload, 1) := by decide +kernel
theorem dX6_digest_41 : decode cX6_digest 41 = .ok (.if_icmp .ge 93, 3) := by decide +kernel
theorem dX6_digest_44 : decode cX6_digest 44 = .ok (.ldc2_w 243, 3) := by decide +kernel
theorem dX6_digest_47 : decode cX6_digest 47 = .ok (.lload_n 1, 1) := by decide +kernel
theorem dX6_digest_48 : decode cX6_digest 48 = .ok (.lmul, 1) := by decide +kernel
theorem dX6_digest_49 : decode cX6_digest 49 = .ok (.aload_n 0, 1) := by decide +kernel
theorem dX6_digest_50 : decode cX6_digest 50 = .ok (.getfield 7, 3) := by decide +kernel
theorem dX6_digest_53 : decode cX6_digest 53 = .ok (.bipush 23, 2) := by decide +kernel
theorem dX6_digest_55 : decode cX6_digest 55 = .ok (.iload_n 3, 1) := by decide +kernel
theorem dX6_digest_56 : decode cX6_digest 56 = .ok (.iadd, 1) := by decide +kernel
theorem dX6_digest_57 : decode cX6_digest 57 = .ok (.iaload, 1) := by decide +kernel
theorem dX6_digest_58 : decode cX6_digest 58 = .ok (.i2l, 1) := by decide +kernel
theorem dX6_digest_59 : decode cX6_digest 59 = .ok (.ladd, 1) := by decide +kernel
theorem dX6_digest_60 : decode cX6_digest 60 = .ok (.lstore_n 1, 1) := by decide +kernel
theorem dX6_digest_61 : decode cX6_digest 61 = .ok (.ldc2_w 243, 3) := by decide +kernel
theorem dX6_digest_64 : decode cX6_digest 64 = .ok (.lload_n 1, 1) := by decide +kernel
theorem dX6_digest_65 : decode cX6_digest 65 = .ok (.lmul, 1) := by decide +kernel
theorem dX6_digest_66 : decode cX6_digest 66 = .ok (.aload_n 0, 1) := by decide +kernel
theorem dX6_digest_67 : decode cX6_digest 67 = .ok (.getfield 7, 3) := by decide +kernel
theorem dX6_digest_70 : decode cX6_digest 70 = .ok (.iconst 0, 1) := by decide +kernel
theorem dX6_digest_71 : decode cX6_digest 71 = .ok (.iload_n 3, 1) := by decide +kernel
theorem dX6_digest_72 : decode cX6_digest 72 = .ok (.iadd, 1) := by decide +kernel
theorem dX6_digest_73 : decode cX6_digest 73 = .ok (.iaload, 1) := by decide +kernel
theorem dX6_digest_74 : decode cX6_digest 74 = .ok (.i2l, 1) := by decide +kernel
theorem dX6_digest_75 : decode cX6_digest 75 = .ok (.ladd, 1) := by decide +kernel
theorem dX6_digest_76 : decode cX6_digest 76 = .ok (.lstore_n 1, 1) := by decide +kernel
theorem dX6_digest_77 : decode cX6_digest 77 = .ok (.ldc2_w 243, 3) := by decide +kernel
theorem dX6_digest_80 : decode cX6_digest 80 = .ok (.lload_n 1, 1) := by decide +kernel
theorem dX6_digest_81 : decode cX6_digest 81 = .ok (.lmul, 1) := by decide +kernel
theorem dX6_digest_82 : decode cX6_digest 82 = .ok (.aload_n 0, 1) := by decide +kernel
theorem dX6_digest_83 : decode cX6_digest 83 = .ok (.getfield 7, 3) := by decide +kernel
theorem dX6_digest_86 : decode cX6_digest 86 = .ok (.bipush 29, 2) := by decide +kernel
theorem dX6_digest_88 : decode cX6_digest 88 = .ok (.iload_n 3, 1) := by decide +kernel
theorem dX6_digest_89 : decode cX6_digest 89 = .ok (.iadd, 1) := by decide +kernel
theorem dX6_digest_90 : decode cX6_digest 90 = .ok (.iaload, 1) := by decide +kernel
theorem dX6_digest_91 : decode cX6_digest 91 = .ok (.i2l, 1) := by decide +kernel
theorem dX6_digest_92 : decode cX6_digest 92 = .ok (.ladd, 1) := by decide +kernel
theorem dX6_digest_93 : decode cX6_digest 93 = .ok (.lstore_n 1, 1) := by decide +kernel
theorem dX6_digest_94 : decode cX6_digest 94 = .ok (.ldc2_w 243, 3) := by decide +kernel
theorem dX6_digest_97 : decode cX6_digest 97 = .ok (.lload_n 1, 1) := by decide +kernel
theorem dX6_digest_98 : decode cX6_digest 98 = .ok (.lmul, 1) := by decide +kernel
theorem dX6_digest_99 : decode cX6_digest 99 = .ok (.aload_n 0, 1) := by decide +kernel
theorem dX6_digest_100 : decode cX6_digest 100 = .ok (.getfield 7, 3) := by decide +kernel
theorem dX6_digest_103 : decode cX6_digest 103 = .ok (.bipush 6, 2) := by decide +kernel
theorem dX6_digest_105 : decode cX6_digest 105 = .ok (.iload_n 3, 1) := by decide +kernel
theorem dX6_digest_106 : decode cX6_digest 106 = .ok (.iadd, 1) := by decide +kernel
theorem dX6_digest_107 : decode cX6_digest 107 = .ok (.iaload, 1) := by decide +kernel
theorem dX6_digest_108 : decode cX6_digest 108 = .ok (.i2l, 1) := by decide +kernel
theorem dX6_digest_109 : decode cX6_digest 109 = .ok (.ladd, 1) := by decide +kernel
theorem dX6_digest_110 : decode cX6_digest 110 = .ok (.lstore_n 1, 1) := by decide +kernel
theorem dX6_digest_111 : decode cX6_digest 111 = .ok (.ldc2_w 243, 3) := by decide +kernel
theorem dX6_digest_114 : decode cX6_digest 114 = .ok (.lload_n 1, 1) := by decide +kernel
theorem dX6_digest_115 : decode cX6_digest 115 = .ok (.lmul, 1) := by decide +kernel
theorem dX6_digest_116 : decode cX6_digest 116 = .ok (.aload_n 0, 1) := by decide +kernel
theorem dX6_digest_117 : decode cX6_digest 117 = .ok (.getfield 7, 3) := by decide +kernel
theorem dX6_digest_120 : decode cX6_digest 120 = .ok (.bipush 12, 2) := by decide +kernel
theorem dX6_digest_122 : decode cX6_digest 122 = .ok (.iload_n 3, 1) := by decide +kernel
theorem dX6_digest_123 : decode cX6_digest 123 = .ok (.iadd, 1) := by decide +kernel
theorem dX6_digest_124 : decode cX6_digest 124 = .ok (.iaload, 1) := by decide +kernel
theorem dX6_digest_125 : decode cX6_digest 125 = .ok (.i2l, 1) := by decide +kernel
theorem dX6_digest_126 : decode cX6_digest 126 = .ok (.ladd, 1) := by decide +kernel
theorem dX6_digest_127 : decode cX6_digest 127 = .ok (.lstore_n 1, 1) := by decide +kernel
theorem dX6_digest_128 : decode cX6_digest 128 = .ok (.iinc 3 1, 3) := by decide +kernel
theorem dX6_digest_131 : decode cX6_digest 131 = .ok (.goto (-98), 3) := by decide +kernel
theorem dX6_digest_134 : decode cX6_digest 134 = .ok (.iconst 0, 1) := by decide +kernel
theorem dX6_digest_135 : decode cX6_digest 135 = .ok (.istore_n 3, 1) := by decide +kernel
theorem dX6_digest_136 : decode cX6_digest 136 = .ok (.iload_n 3, 1) := by decide +kernel
theorem dX6_digest_137 : decode cX6_digest 137 = .ok (.bipush 7, 2) := by decide +kernel
theorem dX6_digest_139 : decode cX6_digest 139 = .ok (.aload_n 0, 1) := by decide +kernel
theorem dX6_digest_140 : decode cX6_digest 140 = .ok (.getfield 7, 3) := by decide +kernel
theorem dX6_digest_143 : decode cX6_digest 143 = .ok (.bipush 35, 2) := by decide +kernel
theorem dX6_digest_145 : decode cX6_digest 145 = .ok (.iaload, 1) := by decide +kernel
theorem dX6_digest_146 : decode cX6_digest 146 = .ok (.imul, 1) := by decide +kernel
theorem dX6_digest_147 : decode cX6_digest 147 = .ok (.if_icmp .ge 26, 3) := by decide +kernel
theorem dX6_digest_150 : decode cX6_digest 150 = .ok (.ldc2_w 243, 3) := by decide +kernel
theorem dX6_digest_153 : decode cX6_digest 153 = .ok (.lload_n 1, 1) := by decide +kernel
theorem dX6_digest_154 : decode cX6_digest 154 = .ok (.lmul, 1) := by decide +kernel
theorem dX6_digest_155 : decode cX6_digest 155 = .ok (.aload_n 0, 1) := by decide +kernel
theorem dX6_digest_156 : decode cX6_digest 156 = .ok (.getfield 7, 3) := by decide +kernel
theorem dX6_digest_159 : decode cX6_digest 159 = .ok (.bipush 36, 2) := by decide +kernel
theorem dX6_digest_161 : decode cX6_digest 161 = .ok (.iload_n 3, 1) := by decide +kernel
theorem dX6_digest_162 : decode cX6_digest 162 = .ok (.iadd, 1) := by decide +kernel
theorem dX6_digest_163 : decode cX6_digest 163 = .ok (.iaload, 1) := by decide +kernel
theorem dX6_digest_164 : decode cX6_digest 164 = .ok (.i2l, 1) := by decide +kernel
theorem dX6_digest_165 : decode cX6_digest 165 = .ok (.ladd, 1) := by decide +kernel
theorem dX6_digest_166 : decode cX6_digest 166 = .ok (.lstore_n 1, 1) := by decide +kernel
theorem dX6_digest_167 : decode cX6_digest 167 = .ok (.iinc 3 1, 3) := by decide +kernel
theorem dX6_digest_170 : decode cX6_digest 170 = .ok (.goto (-34), 3) := by decide +kernel
theorem dX6_digest_173 : decode cX6_digest 173 = .ok (.ldc2_w 243, 3) := by decide +kernel
theorem dX6_digest_176 : decode cX6_digest 176 = .ok (.ldc2_w 243, 3) := by decide +kernel
theorem dX6_digest_179 : decode cX6_digest 179 = .ok (.lload_n 1, 1) := by decide +kernel
theorem dX6_digest_180 : decode cX6_digest 180 = .ok (.lmul, 1) := by decide +kernel
theorem dX6_digest_181 : decode cX6_digest 181 = .ok (.aload_n 0, 1) := by decide +kernel
theorem dX6_digest_182 : decode cX6_digest 182 = .ok (.getfield 230, 3) := by decide +kernel
theorem dX6_digest_185 : decode cX6_digest 185 = .ok (.ladd, 1) := by decide +kernel
theorem dX6_digest_186 : decode cX6_digest 186 = .ok (.lmul, 1) := by decide +kernel
theorem dX6_digest_187 : decode cX6_digest 187 = .ok (.aload_n 0, 1) := by decide +kernel
theorem dX6_digest_188 : decode cX6_digest 188 = .ok (.getfield 29, 3) := by decide +kernel
theorem dX6_digest_191 : decode cX6_digest 191 = .ok (.ladd, 1) := by decide +kernel
theorem dX6_digest_192 : decode cX6_digest 192 = .ok (.lreturn, 1) := by decide +kernel
theorem dJ6_bitCount_0f7a4_0 : decode cJ6_bitCount_0f7a4 0 = .ok (.iload_n 0, 1) := by decide +kernel
theorem dJ6_bitCount_0f7a4_1 : decode cJ6_bitCount_0f7a4 1 = .ok (.iload_n 0, 1) := by decide +kernel
theorem dJ6_bitCount_0f7a4_2 : decode cJ6_bitCount_0f7a4 2 = .ok (.iconst 1, 1) := by decide +kernel

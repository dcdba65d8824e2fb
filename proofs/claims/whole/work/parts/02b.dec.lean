theorem dX4_takeWord_83 : decode cX4_takeWord 83 = .ok (.iconst 5, 1) := by decide +kernel
theorem dX4_takeWord_84 : decode cX4_takeWord 84 = .ok (.goto 5, 3) := by decide +kernel
theorem dX4_takeWord_87 : decode cX4_takeWord 87 = .ok (.bipush 6, 2) := by decide +kernel
theorem dX4_takeWord_89 : decode cX4_takeWord 89 = .ok (.putfield 31, 3) := by decide +kernel
theorem dX4_takeWord_92 : decode cX4_takeWord 92 = .ok (.return_, 1) := by decide +kernel
theorem dX4_takeFigures_0 : decode cX4_takeFigures 0 = .ok (.aload_n 0, 1) := by decide +kernel
theorem dX4_takeFigures_1 : decode cX4_takeFigures 1 = .ok (.iconst 0, 1) := by decide +kernel
theorem dX4_takeFigures_2 : decode cX4_takeFigures 2 = .ok (.putfield 51, 3) := by decide +kernel
theorem dX4_takeFigures_5 : decode cX4_takeFigures 5 = .ok (.aload_n 0, 1) := by decide +kernel
theorem dX4_takeFigures_6 : decode cX4_takeFigures 6 = .ok (.getfield 25, 3) := by decide +kernel
theorem dX4_takeFigures_9 : decode cX4_takeFigures 9 = .ok (.aload_n 0, 1) := by decide +kernel
theorem dX4_takeFigures_10 : decode cX4_takeFigures 10 = .ok (.getfield 15, 3) := by decide +kernel
theorem dX4_takeFigures_13 : decode cX4_takeFigures 13 = .ok (.if_icmp .ge 68, 3) := by decide +kernel
theorem dX4_takeFigures_16 : decode cX4_takeFigures 16 = .ok (.aload_n 0, 1) := by decide +kernel
theorem dX4_takeFigures_17 : decode cX4_takeFigures 17 = .ok (.getfield 9, 3) := by decide +kernel
theorem dX4_takeFigures_20 : decode cX4_takeFigures 20 = .ok (.aload_n 0, 1) := by decide +kernel
theorem dX4_takeFigures_21 : decode cX4_takeFigures 21 = .ok (.getfield 25, 3) := by decide +kernel
theorem dX4_takeFigures_24 : decode cX4_takeFigures 24 = .ok (.baload, 1) := by decide +kernel
theorem dX4_takeFigures_25 : decode cX4_takeFigures 25 = .ok (.invokestatic 81, 3) := by decide +kernel
theorem dX4_takeFigures_28 : decode cX4_takeFigures 28 = .ok (.ifCond .eq 53, 3) := by decide +kernel
theorem dX4_takeFigures_31 : decode cX4_takeFigures 31 = .ok (.aload_n 0, 1) := by decide +kernel
theorem dX4_takeFigures_32 : decode cX4_takeFigures 32 = .ok (.getfield 25, 3) := by decide +kernel
theorem dX4_takeFigures_35 : decode cX4_takeFigures 35 = .ok (.aload_n 0, 1) := by decide +kernel
theorem dX4_takeFigures_36 : decode cX4_takeFigures 36 = .ok (.getfield 44, 3) := by decide +kernel
theorem dX4_takeFigures_39 : decode cX4_takeFigures 39 = .ok (.isub, 1) := by decide +kernel
theorem dX4_takeFigures_40 : decode cX4_takeFigures 40 = .ok (.iconst 2, 1) := by decide +kernel
theorem dX4_takeFigures_41 : decode cX4_takeFigures 41 = .ok (.if_icmp .ge 27, 3) := by decide +kernel
theorem dX4_takeFigures_44 : decode cX4_takeFigures 44 = .ok (.aload_n 0, 1) := by decide +kernel
theorem dX4_takeFigures_45 : decode cX4_takeFigures 45 = .ok (.bipush 10, 2) := by decide +kernel
theorem dX4_takeFigures_47 : decode cX4_takeFigures 47 = .ok (.aload_n 0, 1) := by decide +kernel
theorem dX4_takeFigures_48 : decode cX4_takeFigures 48 = .ok (.getfield 51, 3) := by decide +kernel
theorem dX4_takeFigures_51 : decode cX4_takeFigures 51 = .ok (.imul, 1) := by decide +kernel
theorem dX4_takeFigures_52 : decode cX4_takeFigures 52 = .ok (.aload_n 0, 1) := by decide +kernel
theorem dX4_takeFigures_53 : decode cX4_takeFigures 53 = .ok (.getfield 9, 3) := by decide +kernel
theorem dX4_takeFigures_56 : decode cX4_takeFigures 56 = .ok (.aload_n 0, 1) := by decide +kernel
theorem dX4_takeFigures_57 : decode cX4_takeFigures 57 = .ok (.getfield 25, 3) := by decide +kernel
theorem dX4_takeFigures_60 : decode cX4_takeFigures 60 = .ok (.baload, 1) := by decide +kernel
theorem dX4_takeFigures_61 : decode cX4_takeFigures 61 = .ok (.iadd, 1) := by decide +kernel
theorem dX4_takeFigures_62 : decode cX4_takeFigures 62 = .ok (.bipush 48, 2) := by decide +kernel
theorem dX4_takeFigures_64 : decode cX4_takeFigures 64 = .ok (.isub, 1) := by decide +kernel
theorem dX4_takeFigures_65 : decode cX4_takeFigures 65 = .ok (.putfield 51, 3) := by decide +kernel
theorem dX4_takeFigures_68 : decode cX4_takeFigures 68 = .ok (.aload_n 0, 1) := by decide +kernel
theorem dX4_takeFigures_69 : decode cX4_takeFigures 69 = .ok (.dup, 1) := by decide +kernel
theorem dX4_takeFigures_70 : decode cX4_takeFigures 70 = .ok (.getfield 25, 3) := by decide +kernel
theorem dX4_takeFigures_73 : decode cX4_takeFigures 73 = .ok (.iconst 1, 1) := by decide +kernel
theorem dX4_takeFigures_74 : decode cX4_takeFigures 74 = .ok (.iadd, 1) := by decide +kernel
theorem dX4_takeFigures_75 : decode cX4_takeFigures 75 = .ok (.putfield 25, 3) := by decide +kernel
theorem dX4_takeFigures_78 : decode cX4_takeFigures 78 = .ok (.goto (-73), 3) := by decide +kernel
theorem dX4_takeFigures_81 : decode cX4_takeFigures 81 = .ok (.aload_n 0, 1) := by decide +kernel
theorem dX4_takeFigures_82 : decode cX4_takeFigures 82 = .ok (.aload_n 0, 1) := by decide +kernel
theorem dX4_takeFigures_83 : decode cX4_takeFigures 83 = .ok (.getfield 25, 3) := by decide +kernel
theorem dX4_takeFigures_86 : decode cX4_takeFigures 86 = .ok (.aload_n 0, 1) := by decide +kernel
theorem dX4_takeFigures_87 : decode cX4_takeFigures 87 = .ok (.getfield 44, 3) := by decide +kernel
theorem dX4_takeFigures_90 : decode cX4_takeFigures 90 = .ok (.isub, 1) := by decide +kernel
theorem dX4_takeFigures_91 : decode cX4_takeFigures 91 = .ok (.iconst 2, 1) := by decide +kernel
theorem dX4_takeFigures_92 : decode cX4_takeFigures 92 = .ok (.if_icmp .gt 7, 3) := by decide +kernel
theorem dX4_takeFigures_95 : decode cX4_takeFigures 95 = .ok (.iconst 2, 1) := by decide +kernel
theorem dX4_takeFigures_96 : decode cX4_takeFigures 96 = .ok (.goto 5, 3) := by decide +kernel
theorem dX4_takeFigures_99 : decode cX4_takeFigures 99 = .ok (.bipush 6, 2) := by decide +kernel
theorem dX4_takeFigures_101 : decode cX4_takeFigures 101 = .ok (.putfield 31, 3) := by decide +kernel
theorem dX4_takeFigures_104 : decode cX4_takeFigures 104 = .ok (.return_, 1) := by decide +kernel
theorem dX4_isWord_0 : decode cX4_isWord 0 = .ok (.aload_n 0, 1) := by decide +kernel
theorem dX4_isWord_1 : decode cX4_isWord 1 = .ok (.getfield 25, 3) := by decide +kernel
theorem dX4_isWord_4 : decode cX4_isWord 4 = .ok (.aload_n 0, 1) := by decide +kernel
theorem dX4_isWord_5 : decode cX4_isWord 5 = .ok (.getfield 44, 3) := by decide +kernel
theorem dX4_isWord_8 : decode cX4_isWord 8 = .ok (.isub, 1) := by decide +kernel
theorem dX4_isWord_9 : decode cX4_isWord 9 = .ok (.aload_n 1, 1) := by decide +kernel
theorem dX4_isWord_10 : decode cX4_isWord 10 = .ok (.invokevirtual 97, 3) := by decide +kernel
theorem dX4_isWord_13 : decode cX4_isWord 13 = .ok (.if_icmp .eq 5, 3) := by decide +kernel
theorem dX4_isWord_16 : decode cX4_isWord 16 = .ok (.iconst 0, 1) := by decide +kernel
theorem dX4_isWord_17 : decode cX4_isWord 17 = .ok (.ireturn, 1) := by decide +kernel
theorem dX4_isWord_18 : decode cX4_isWord 18 = .ok (.iconst 0, 1) := by decide +kernel
theorem dX4_isWord_19 : decode cX4_isWord 19 = .ok (.istore_n 2, 1) := by decide +kernel
theorem dX4_isWord_20 : decode cX4_isWord 20 = .ok (.iload_n 2, 1) := by decide +kernel
theorem dX4_isWord_21 : decode cX4_isWord 21 = .ok (.aload_n 1, 1) := by decide +kernel
theorem dX4_isWord_22 : decode cX4_isWord 22 = .ok (.invokevirtual 97, 3) := by decide +kernel
theorem dX4_isWord_25 : decode cX4_isWord 25 = .ok (.if_icmp .ge 30, 3) := by decide +kernel
theorem dX4_isWord_28 : decode cX4_isWord 28 = .ok (.aload_n 0, 1) := by decide +kernel
theorem dX4_isWord_29 : decode cX4_isWord 29 = .ok (.getfield 9, 3) := by decide +kernel
theorem dX4_isWord_32 : decode cX4_isWord 32 = .ok (.aload_n 0, 1) := by decide +kernel
theorem dX4_isWord_33 : decode cX4_isWord 33 = .ok (.getfield 44, 3) := by decide +kernel
theorem dX4_isWord_36 : decode cX4_isWord 36 = .ok (.iload_n 2, 1) := by decide +kernel
theorem dX4_isWord_37 : decode cX4_isWord 37 = .ok (.iadd, 1) := by decide +kernel
theorem dX4_isWord_38 : decode cX4_isWord 38 = .ok (.baload, 1) := by decide +kernel
theorem dX4_isWord_39 : decode cX4_isWord 39 = .ok (.aload_n 1, 1) := by decide +kernel
theorem dX4_isWord_40 : decode cX4_isWord 40 = .ok (.iload_n 2, 1) := by decide +kernel
theorem dX4_isWord_41 : decode cX4_isWord 41 = .ok (.invokevirtual 102, 3) := by decide +kernel
theorem dX4_isWord_44 : decode cX4_isWord 44 = .ok (.if_icmp .eq 5, 3) := by decide +kernel
theorem dX4_isWord_47 : decode cX4_isWord 47 = .ok (.iconst 0, 1) := by decide +kernel
theorem dX4_isWord_48 : decode cX4_isWord 48 = .ok (.ireturn, 1) := by decide +kernel
theorem dX4_isWord_49 : decode cX4_isWord 49 = .ok (.iinc 2 1, 3) := by decide +kernel
theorem dX4_isWord_52 : decode cX4_isWord 52 = .ok (.goto (-32), 3) := by decide +kernel
theorem dX4_isWord_55 : decode cX4_isWord 55 = .ok (.iconst 1, 1) := by decide +kernel
theorem dX4_isWord_56 : decode cX4_isWord 56 = .ok (.ireturn, 1) := by decide +kernel
theorem dX4_isLetter_0 : decode cX4_isLetter 0 = .ok (.iload_n 0, 1) := by decide +kernel
theorem dX4_isLetter_1 : decode cX4_isLetter 1 = .ok (.bipush 97, 2) := by decide +kernel
theorem dX4_isLetter_3 : decode cX4_isLetter 3 = .ok (.if_icmp .lt 13, 3) := by decide +kernel
theorem dX4_isLetter_6 : decode cX4_isLetter 6 = .ok (.iload_n 0, 1) := by decide +kernel
theorem dX4_isLetter_7 : decode cX4_isLetter 7 = .ok (.bipush 122, 2) := by decide +kernel
theorem dX4_isLetter_9 : decode cX4_isLetter 9 = .ok (.if_icmp .gt 7, 3) := by decide +kernel
theorem dX4_isLetter_12 : decode cX4_isLetter 12 = .ok (.iconst 1, 1) := by decide +kernel
theorem dX4_isLetter_13 : decode cX4_isLetter 13 = .ok (.goto 4, 3) := by decide +kernel
theorem dX4_isLetter_16 : decode cX4_isLetter 16 = .ok (.iconst 0, 1) := by decide +kernel
theorem dX4_isLetter_17 : decode cX4_isLetter 17 = .ok (.ireturn, 1) := by decide +kernel
theorem dX4_isFigure_0 : decode cX4_isFigure 0 = .ok (.iload_n 0, 1) := by decide +kernel
theorem dX4_isFigure_1 : decode cX4_isFigure 1 = .ok (.bipush 48, 2) := by decide +kernel
theorem dX4_isFigure_3 : decode cX4_isFigure 3 = .ok (.if_icmp .lt 13, 3) := by decide +kernel
theorem dX4_isFigure_6 : decode cX4_isFigure 6 = .ok (.iload_n 0, 1) := by decide +kernel
theorem dX4_isFigure_7 : decode cX4_isFigure 7 = .ok (.bipush 57, 2) := by decide +kernel
theorem dX4_isFigure_9 : decode cX4_isFigure 9 = .ok (.if_icmp .gt 7, 3) := by decide +kernel
theorem dX4_isFigure_12 : decode cX4_isFigure 12 = .ok (.iconst 1, 1) := by decide +kernel
theorem dX4_isFigure_13 : decode cX4_isFigure 13 = .ok (.goto 4, 3) := by decide +kernel
theorem dX4_isFigure_16 : decode cX4_isFigure 16 = .ok (.iconst 0, 1) := by decide +kernel
theorem dX4_isFigure_17 : decode cX4_isFigure 17 = .ok (.ireturn, 1) := by decide +kernel
theorem dX5_init_0 : decode cX5_init 0 = .ok (.aload_n 0, 1) := by decide +kernel
theorem dX5_init_1 : decode cX5_init 1 = .ok (.invokespecial 1, 3) := by decide +kernel
theorem dX5_init_4 : decode cX5_init 4 = .ok (.aload_n 0, 1) := by decide +kernel
theorem dX5_init_5 : decode cX5_init 5 = .ok (.new 7, 3) := by decide +kernel
theorem dX5_init_8 : decode cX5_init 8 = .ok (.dup, 1) := by decide +kernel
theorem dX5_init_9 : decode cX5_init 9 = .ok (.invokespecial 9, 3) := by decide +kernel
theorem dX5_init_12 : decode cX5_init 12 = .ok (.putfield 10, 3) := by decide +kernel
theorem dX5_init_15 : decode cX5_init 15 = .ok (.aload_n 0, 1) := by decide +kernel
theorem dX5_init_16 : decode cX5_init 16 = .ok (.iconst 2, 1) := by decide +kernel
theorem dX5_init_17 : decode cX5_init 17 = .ok (.anewarray 7, 3) := by decide +kernel
theorem dX5_init_20 : decode cX5_init 20 = .ok (.putfield 16, 3) := by decide +kernel
theorem dX5_init_23 : decode cX5_init 23 = .ok (.iconst 0, 1) := by decide +kernel
theorem dX5_init_24 : decode cX5_init 24 = .ok (.istore_n 1, 1) := by decide +kernel
theorem dX5_init_25 : decode cX5_init 25 = .ok (.iload_n 1, 1) := by decide +kernel
theorem dX5_init_26 : decode cX5_init 26 = .ok (.iconst 2, 1) := by decide +kernel
theorem dX5_init_27 : decode cX5_init 27 = .ok (.if_icmp .ge 22, 3) := by decide +kernel
theorem dX5_init_30 : decode cX5_init 30 = .ok (.aload_n 0, 1) := by decide +kernel
theorem dX5_init_31 : decode cX5_init 31 = .ok (.getfield 16, 3) := by decide +kernel
theorem dX5_init_34 : decode cX5_init 34 = .ok (.iload_n 1, 1) := by decide +kernel
theorem dX5_init_35 : decode cX5_init 35 = .ok (.new 7, 3) := by decide +kernel
theorem dX5_init_38 : decode cX5_init 38 = .ok (.dup, 1) := by decide +kernel
theorem dX5_init_39 : decode cX5_init 39 = .ok (.invokespecial 9, 3) := by decide +kernel
theorem dX5_init_42 : decode cX5_init 42 = .ok (.aastore, 1) := by decide +kernel
theorem dX5_init_43 : decode cX5_init 43 = .ok (.iinc 1 1, 3) := by decide +kernel
theorem dX5_init_46 : decode cX5_init 46 = .ok (.goto (-21), 3) := by decide +kernel
theorem dX5_init_49 : decode cX5_init 49 = .ok (.aload_n 0, 1) := by decide +kernel
theorem dX5_init_50 : decode cX5_init 50 = .ok (.iconst 2, 1) := by decide +kernel
theorem dX5_init_51 : decode cX5_init 51 = .ok (.newarray .boolean, 2) := by decide +kernel
theorem dX5_init_53 : decode cX5_init 53 = .ok (.putfield 20, 3) := by decide +kernel
theorem dX5_init_56 : decode cX5_init 56 = .ok (.aload_n 0, 1) := by decide +kernel
theorem dX5_init_57 : decode cX5_init 57 = .ok (.new 24, 3) := by decide +kernel
theorem dX5_init_60 : decode cX5_init 60 = .ok (.dup, 1) := by decide +kernel
theorem dX5_init_61 : decode cX5_init 61 = .ok (.invokespecial 26, 3) := by decide +kernel
theorem dX5_init_64 : decode cX5_init 64 = .ok (.putfield 27, 3) := by decide +kernel
theorem dX5_init_67 : decode cX5_init 67 = .ok (.aload_n 0, 1) := by decide +kernel
theorem dX5_init_68 : decode cX5_init 68 = .ok (.new 31, 3) := by decide +kernel
theorem dX5_init_71 : decode cX5_init 71 = .ok (.dup, 1) := by decide +kernel
theorem dX5_init_72 : decode cX5_init 72 = .ok (.invokespecial 33, 3) := by decide +kernel
theorem dX5_init_75 : decode cX5_init 75 = .ok (.putfield 34, 3) := by decide +kernel
theorem dX5_init_78 : decode cX5_init 78 = .ok (.aload_n 0, 1) := by decide +kernel
theorem dX5_init_79 : decode cX5_init 79 = .ok (.bipush 6, 2) := by decide +kernel
theorem dX5_init_81 : decode cX5_init 81 = .ok (.newarray .int, 2) := by decide +kernel
theorem dX5_init_83 : decode cX5_init 83 = .ok (.putfield 38, 3) := by decide +kernel
theorem dX5_init_86 : decode cX5_init 86 = .ok (.aload_n 0, 1) := by decide +kernel
theorem dX5_init_87 : decode cX5_init 87 = .ok (.iconst 3, 1) := by decide +kernel
theorem dX5_init_88 : decode cX5_init 88 = .ok (.newarray .int, 2) := by decide +kernel
theorem dX5_init_90 : decode cX5_init 90 = .ok (.putfield 42, 3) := by decide +kernel
theorem dX5_init_93 : decode cX5_init 93 = .ok (.aload_n 0, 1) := by decide +kernel
theorem dX5_init_94 : decode cX5_init 94 = .ok (.lconst 0, 1) := by decide +kernel
theorem dX5_init_95 : decode cX5_init 95 = .ok (.putfield 45, 3) := by decide +kernel
theorem dX5_init_98 : decode cX5_init 98 = .ok (.aload_n 0, 1) := by decide +kernel
theorem dX5_init_99 : decode cX5_init 99 = .ok (.lconst 1, 1) := by decide +kernel
theorem dX5_init_100 : decode cX5_init 100 = .ok (.putfield 49, 3) := by decide +kernel
theorem dX5_init_103 : decode cX5_init 103 = .ok (.return_, 1) := by decide +kernel
theorem dX5_table_0 : decode cX5_table 0 = .ok (.iload_n 1, 1) := by decide +kernel
theorem dX5_table_1 : decode cX5_table 1 = .ok (.invokestatic 52, 3) := by decide +kernel
theorem dX5_table_4 : decode cX5_table 4 = .ok (.ifCond .ne 10, 3) := by decide +kernel
theorem dX5_table_7 : decode cX5_table 7 = .ok (.aload_n 0, 1) := by decide +kernel
theorem dX5_table_8 : decode cX5_table 8 = .ok (.bipush (-2), 2) := by decide +kernel
theorem dX5_table_10 : decode cX5_table 10 = .ok (.invokevirtual 56, 3) := by decide +kernel
theorem dX5_table_13 : decode cX5_table 13 = .ok (.ireturn, 1) := by decide +kernel
theorem dX5_table_14 : decode cX5_table 14 = .ok (.aload_n 0, 1) := by decide +kernel
theorem dX5_table_15 : decode cX5_table 15 = .ok (.getfield 10, 3) := by decide +kernel
theorem dX5_table_18 : decode cX5_table 18 = .ok (.getfield 60, 3) := by decide +kernel
theorem dX5_table_21 : decode cX5_table 21 = .ok (.getfield 63, 3) := by decide +kernel
theorem dX5_table_24 : decode cX5_table 24 = .ok (.istore_n 2, 1) := by decide +kernel
theorem dX5_table_25 : decode cX5_table 25 = .ok (.aload_n 0, 1) := by decide +kernel
theorem dX5_table_26 : decode cX5_table 26 = .ok (.getfield 34, 3) := by decide +kernel
theorem dX5_table_29 : decode cX5_table 29 = .ok (.iload_n 1, 1) := by decide +kernel
theorem dX5_table_30 : decode cX5_table 30 = .ok (.invokevirtual 67, 3) := by decide +kernel
theorem dX5_table_33 : decode cX5_table 33 = .ok (.aload_n 0, 1) := by decide +kernel
theorem dX5_table_34 : decode cX5_table 34 = .ok (.getfield 10, 3) := by decide +kernel
theorem dX5_table_37 : decode cX5_table 37 = .ok (.aload_n 0, 1) := by decide +kernel
theorem dX5_table_38 : decode cX5_table 38 = .ok (.getfield 34, 3) := by decide +kernel
theorem dX5_table_41 : decode cX5_table 41 = .ok (.invokevirtual 71, 3) := by decide +kernel
theorem dX5_table_44 : decode cX5_table 44 = .ok (.iload_n 2, 1) := by decide +kernel
theorem dX5_table_45 : decode cX5_table 45 = .ok (.ireturn, 1) := by decide +kernel
theorem dX5_child_0 : decode cX5_child 0 = .ok (.iload_n 1, 1) := by decide +kernel
theorem dX5_child_1 : decode cX5_child 1 = .ok (.iconst 0, 1) := by decide +kernel
theorem dX5_child_2 : decode cX5_child 2 = .ok (.iconst 5, 1) := by decide +kernel
theorem dX5_child_3 : decode cX5_child 3 = .ok (.invokestatic 75, 3) := by decide +kernel
theorem dX5_child_6 : decode cX5_child 6 = .ok (.ifCond .eq 35, 3) := by decide +kernel
theorem dX5_child_9 : decode cX5_child 9 = .ok (.iload_n 2, 1) := by decide +kernel
theorem dX5_child_10 : decode cX5_child 10 = .ok (.invokestatic 52, 3) := by decide +kernel
theorem dX5_child_13 : decode cX5_child 13 = .ok (.ifCond .eq 28, 3) := by decide +kernel
theorem dX5_child_16 : decode cX5_child 16 = .ok (.iload_n 3, 1) := by decide +kernel
theorem dX5_child_17 : decode cX5_child 17 = .ok (.iconst 0, 1) := by decide +kernel
theorem dX5_child_18 : decode cX5_child 18 = .ok (.bipush 20, 2) := by decide +kernel
theorem dX5_child_20 : decode cX5_child 20 = .ok (.invokestatic 75, 3) := by decide +kernel
theorem dX5_child_23 : decode cX5_child 23 = .ok (.ifCond .eq 18, 3) := by decide +kernel
theorem dX5_child_26 : decode cX5_child 26 = .ok (.iload 4, 2) := by decide +kernel
theorem dX5_child_28 : decode cX5_child 28 = .ok (.iconst 0, 1) := by decide +kernel
theorem dX5_child_29 : decode cX5_child 29 = .ok (.bipush 30, 2) := by decide +kernel
theorem dX5_child_31 : decode cX5_child 31 = .ok (.invokestatic 75, 3) := by decide +kernel
theorem dX5_child_34 : decode cX5_child 34 = .ok (.ifCond .eq 7, 3) := by decide +kernel
theorem dX5_child_37 : decode cX5_child 37 = .ok (.iconst 1, 1) := by decide +kernel
theorem dX5_child_38 : decode cX5_child 38 = .ok (.goto 4, 3) := by decide +kernel
theorem dX5_child_41 : decode cX5_child 41 = .ok (.iconst 0, 1) := by decide +kernel
theorem dX5_child_42 : decode cX5_child 42 = .ok (.istore 5, 2) := by decide +kernel
theorem dX5_child_44 : decode cX5_child 44 = .ok (.iload 5, 2) := by decide +kernel
theorem dX5_child_46 : decode cX5_child 46 = .ok (.ifCond .ne 10, 3) := by decide +kernel
theorem dX5_child_49 : decode cX5_child 49 = .ok (.aload_n 0, 1) := by decide +kernel
theorem dX5_child_50 : decode cX5_child 50 = .ok (.bipush (-2), 2) := by decide +kernel
theorem dX5_child_52 : decode cX5_child 52 = .ok (.invokevirtual 56, 3) := by decide +kernel
theorem dX5_child_55 : decode cX5_child 55 = .ok (.ireturn, 1) := by decide +kernel
theorem dX5_child_56 : decode cX5_child 56 = .ok (.aload_n 0, 1) := by decide +kernel
theorem dX5_child_57 : decode cX5_child 57 = .ok (.getfield 10, 3) := by decide +kernel
theorem dX5_child_60 : decode cX5_child 60 = .ok (.getfield 60, 3) := by decide +kernel
theorem dX5_child_63 : decode cX5_child 63 = .ok (.iload_n 2, 1) := by decide +kernel
theorem dX5_child_64 : decode cX5_child 64 = .ok (.invokevirtual 79, 3) := by decide +kernel
theorem dX5_child_67 : decode cX5_child 67 = .ok (.iconst (-1), 1) := by decide +kernel
theorem dX5_child_68 : decode cX5_child 68 = .ok (.if_icmp .eq 10, 3) := by decide +kernel
theorem dX5_child_71 : decode cX5_child 71 = .ok (.aload_n 0, 1) := by decide +kernel
theorem dX5_child_72 : decode cX5_child 72 = .ok (.bipush (-3), 2) := by decide +kernel
theorem dX5_child_74 : decode cX5_child 74 = .ok (.invokevirtual 56, 3) := by decide +kernel
theorem dX5_child_77 : decode cX5_child 77 = .ok (.ireturn, 1) := by decide +kernel
theorem dX5_child_78 : decode cX5_child 78 = .ok (.aload_n 0, 1) := by decide +kernel
theorem dX5_child_79 : decode cX5_child 79 = .ok (.getfield 10, 3) := by decide +kernel
theorem dX5_child_82 : decode cX5_child 82 = .ok (.getfield 60, 3) := by decide +kernel
theorem dX5_child_85 : decode cX5_child 85 = .ok (.getfield 63, 3) := by decide +kernel
theorem dX5_child_88 : decode cX5_child 88 = .ok (.bipush 6, 2) := by decide +kernel
theorem dX5_child_90 : decode cX5_child 90 = .ok (.if_icmp .lt 10, 3) := by decide +kernel
theorem dX5_child_93 : decode cX5_child 93 = .ok (.aload_n 0, 1) := by decide +kernel
theorem dX5_child_94 : decode cX5_child 94 = .ok (.bipush (-4), 2) := by decide +kernel
theorem dX5_child_96 : decode cX5_child 96 = .ok (.invokevirtual 56, 3) := by decide +kernel
theorem dX5_child_99 : decode cX5_child 99 = .ok (.ireturn, 1) := by decide +kernel
theorem dX5_child_100 : decode cX5_child 100 = .ok (.aload_n 0, 1) := by decide +kernel
theorem dX5_child_101 : decode cX5_child 101 = .ok (.getfield 10, 3) := by decide +kernel
theorem dX5_child_104 : decode cX5_child 104 = .ok (.getfield 82, 3) := by decide +kernel
theorem dX5_child_107 : decode cX5_child 107 = .ok (.invokevirtual 86, 3) := by decide +kernel
theorem dX5_child_110 : decode cX5_child 110 = .ok (.aload_n 0, 1) := by decide +kernel
theorem dX5_child_111 : decode cX5_child 111 = .ok (.getfield 10, 3) := by decide +kernel
theorem dX5_child_114 : decode cX5_child 114 = .ok (.getfield 60, 3) := by decide +kernel
theorem dX5_child_117 : decode cX5_child 117 = .ok (.iload_n 1, 1) := by decide +kernel
theorem dX5_child_118 : decode cX5_child 118 = .ok (.iload_n 2, 1) := by decide +kernel
theorem dX5_child_119 : decode cX5_child 119 = .ok (.iload_n 3, 1) := by decide +kernel
theorem dX5_child_120 : decode cX5_child 120 = .ok (.iload 4, 2) := by decide +kernel
theorem dX5_child_122 : decode cX5_child 122 = .ok (.invokevirtual 91, 3) := by decide +kernel
theorem dX5_child_125 : decode cX5_child 125 = .ok (.ireturn, 1) := by decide +kernel
theorem dX5_type_0 : decode cX5_type 0 = .ok (.iload_n 1, 1) := by decide +kernel
theorem dX5_type_1 : decode cX5_type 1 = .ok (.iconst 0, 1) := by decide +kernel
theorem dX5_type_2 : decode cX5_type 2 = .ok (.bipush 127, 2) := by decide +kernel
theorem dX5_type_4 : decode cX5_type 4 = .ok (.invokestatic 75, 3) := by decide +kernel
theorem dX5_type_7 : decode cX5_type 7 = .ok (.ifCond .ne 10, 3) := by decide +kernel
theorem dX5_type_10 : decode cX5_type 10 = .ok (.aload_n 0, 1) := by decide +kernel
theorem dX5_type_11 : decode cX5_type 11 = .ok (.bipush (-2), 2) := by decide +kernel
theorem dX5_type_13 : decode cX5_type 13 = .ok (.invokevirtual 56, 3) := by decide +kernel
theorem dX5_type_16 : decode cX5_type 16 = .ok (.ireturn, 1) := by decide +kernel
theorem dX5_type_17 : decode cX5_type 17 = .ok (.aload_n 0, 1) := by decide +kernel
theorem dX5_type_18 : decode cX5_type 18 = .ok (.getfield 27, 3) := by decide +kernel
theorem dX5_type_21 : decode cX5_type 21 = .ok (.getfield 95, 3) := by decide +kernel
theorem dX5_type_24 : decode cX5_type 24 = .ok (.sipush 150, 3) := by decide +kernel
theorem dX5_type_27 : decode cX5_type 27 = .ok (.if_icmp .lt 10, 3) := by decide +kernel
theorem dX5_type_30 : decode cX5_type 30 = .ok (.aload_n 0, 1) := by decide +kernel
theorem dX5_type_31 : decode cX5_type 31 = .ok (.bipush (-4), 2) := by decide +kernel
theorem dX5_type_33 : decode cX5_type 33 = .ok (.invokevirtual 56, 3) := by decide +kernel
theorem dX5_type_36 : decode cX5_type 36 = .ok (.ireturn, 1) := by decide +kernel
theorem dX5_type_37 : decode cX5_type 37 = .ok (.aload_n 0, 1) := by decide +kernel
theorem dX5_type_38 : decode cX5_type 38 = .ok (.getfield 27, 3) := by decide +kernel
theorem dX5_type_41 : decode cX5_type 41 = .ok (.iload_n 1, 1) := by decide +kernel
theorem dX5_type_42 : decode cX5_type 42 = .ok (.invokevirtual 98, 3) := by decide +kernel
theorem dX5_type_45 : decode cX5_type 45 = .ok (.ireturn, 1) := by decide +kernel
theorem dX5_clear_0 : decode cX5_clear 0 = .ok (.aload_n 0, 1) := by decide +kernel
theorem dX5_clear_1 : decode cX5_clear 1 = .ok (.getfield 27, 3) := by decide +kernel
theorem dX5_clear_4 : decode cX5_clear 4 = .ok (.getfield 95, 3) := by decide +kernel
theorem dX5_clear_7 : decode cX5_clear 7 = .ok (.istore_n 1, 1) := by decide +kernel
theorem dX5_clear_8 : decode cX5_clear 8 = .ok (.aload_n 0, 1) := by decide +kernel
theorem dX5_clear_9 : decode cX5_clear 9 = .ok (.getfield 27, 3) := by decide +kernel
theorem dX5_clear_12 : decode cX5_clear 12 = .ok (.iconst 0, 1) := by decide +kernel
theorem dX5_clear_13 : decode cX5_clear 13 = .ok (.putfield 95, 3) := by decide +kernel
theorem dX5_clear_16 : decode cX5_clear 16 = .ok (.iload_n 1, 1) := by decide +kernel
theorem dX5_clear_17 : decode cX5_clear 17 = .ok (.ireturn, 1) := by decide +kernel
theorem dX5_read_0 : decode cX5_read 0 = .ok (.aload_n 0, 1) := by decide +kernel
theorem dX5_read_1 : decode cX5_read 1 = .ok (.getfield 27, 3) := by decide +kernel
theorem dX5_read_4 : decode cX5_read 4 = .ok (.aload_n 0, 1) := by decide +kernel
theorem dX5_read_5 : decode cX5_read 5 = .ok (.getfield 34, 3) := by decide +kernel
theorem dX5_read_8 : decode cX5_read 8 = .ok (.invokevirtual 101, 3) := by decide +kernel
theorem dX5_read_11 : decode cX5_read 11 = .ok (.istore_n 1, 1) := by decide +kernel
theorem dX5_read_12 : decode cX5_read 12 = .ok (.iload_n 1, 1) := by decide +kernel
theorem dX5_read_13 : decode cX5_read 13 = .ok (.ifCond .le 14, 3) := by decide +kernel
theorem dX5_read_16 : decode cX5_read 16 = .ok (.aload_n 0, 1) := by decide +kernel
theorem dX5_read_17 : decode cX5_read 17 = .ok (.getfield 10, 3) := by decide +kernel
theorem dX5_read_20 : decode cX5_read 20 = .ok (.aload_n 0, 1) := by decide +kernel
theorem dX5_read_21 : decode cX5_read 21 = .ok (.getfield 34, 3) := by decide +kernel
theorem dX5_read_24 : decode cX5_read 24 = .ok (.invokevirtual 71, 3) := by decide +kernel
theorem dX5_read_27 : decode cX5_read 27 = .ok (.iload_n 1, 1) := by decide +kernel
theorem dX5_read_28 : decode cX5_read 28 = .ok (.ireturn, 1) := by decide +kernel
theorem dX5_minute_0 : decode cX5_minute 0 = .ok (.iload_n 1, 1) := by decide +kernel
theorem dX5_minute_1 : decode cX5_minute 1 = .ok (.iconst 1, 1) := by decide +kernel
theorem dX5_minute_2 : decode cX5_minute 2 = .ok (.bipush 60, 2) := by decide +kernel
theorem dX5_minute_4 : decode cX5_minute 4 = .ok (.invokestatic 75, 3) := by decide +kernel
theorem dX5_minute_7 : decode cX5_minute 7 = .ok (.ifCond .ne 10, 3) := by decide +kernel
theorem dX5_minute_10 : decode cX5_minute 10 = .ok (.aload_n 0, 1) := by decide +kernel
theorem dX5_minute_11 : decode cX5_minute 11 = .ok (.bipush (-2), 2) := by decide +kernel
theorem dX5_minute_13 : decode cX5_minute 13 = .ok (.invokevirtual 56, 3) := by decide +kernel
theorem dX5_minute_16 : decode cX5_minute 16 = .ok (.ireturn, 1) := by decide +kernel
theorem dX5_minute_17 : decode cX5_minute 17 = .ok (.aload_n 0, 1) := by decide +kernel
theorem dX5_minute_18 : decode cX5_minute 18 = .ok (.getfield 10, 3) := by decide +kernel
theorem dX5_minute_21 : decode cX5_minute 21 = .ok (.getfield 82, 3) := by decide +kernel
theorem dX5_minute_24 : decode cX5_minute 24 = .ok (.aload_n 0, 1) := by decide +kernel
theorem dX5_minute_25 : decode cX5_minute 25 = .ok (.getfield 10, 3) := by decide +kernel
theorem dX5_minute_28 : decode cX5_minute 28 = .ok (.getfield 60, 3) := by decide +kernel
theorem dX5_minute_31 : decode cX5_minute 31 = .ok (.invokevirtual 105, 3) := by decide +kernel
theorem dX5_minute_34 : decode cX5_minute 34 = .ok (.aload_n 0, 1) := by decide +kernel
theorem dX5_minute_35 : decode cX5_minute 35 = .ok (.getfield 10, 3) := by decide +kernel
theorem dX5_minute_38 : decode cX5_minute 38 = .ok (.getfield 60, 3) := by decide +kernel
theorem dX5_minute_41 : decode cX5_minute 41 = .ok (.iload_n 1, 1) := by decide +kernel
theorem dX5_minute_42 : decode cX5_minute 42 = .ok (.sipush 999, 3) := by decide +kernel
theorem dX5_minute_45 : decode cX5_minute 45 = .ok (.aload_n 0, 1) := by decide +kernel
theorem dX5_minute_46 : decode cX5_minute 46 = .ok (.getfield 10, 3) := by decide +kernel
theorem dX5_minute_49 : decode cX5_minute 49 = .ok (.getfield 60, 3) := by decide +kernel
theorem dX5_minute_52 : decode cX5_minute 52 = .ok (.getfield 108, 3) := by decide +kernel
theorem dX5_minute_55 : decode cX5_minute 55 = .ok (.isub, 1) := by decide +kernel
theorem dX5_minute_56 : decode cX5_minute 56 = .ok (.invokestatic 111, 3) := by decide +kernel
theorem dX5_minute_59 : decode cX5_minute 59 = .ok (.invokevirtual 117, 3) := by decide +kernel
theorem dX5_minute_62 : decode cX5_minute 62 = .ok (.ireturn, 1) := by decide +kernel
theorem dX5_carrot_0 : decode cX5_carrot 0 = .ok (.aload_n 0, 1) := by decide +kernel
theorem dX5_carrot_1 : decode cX5_carrot 1 = .ok (.iload_n 1, 1) := by decide +kernel
theorem dX5_carrot_2 : decode cX5_carrot 2 = .ok (.invokevirtual 120, 3) := by decide +kernel
theorem dX5_carrot_5 : decode cX5_carrot 5 = .ok (.ifCond .ne 10, 3) := by decide +kernel
theorem dX5_carrot_8 : decode cX5_carrot 8 = .ok (.aload_n 0, 1) := by decide +kernel
theorem dX5_carrot_9 : decode cX5_carrot 9 = .ok (.bipush (-2), 2) := by decide +kernel
theorem dX5_carrot_11 : decode cX5_carrot 11 = .ok (.invokevirtual 56, 3) := by decide +kernel
theorem dX5_carrot_14 : decode cX5_carrot 14 = .ok (.ireturn, 1) := by decide +kernel
theorem dX5_carrot_15 : decode cX5_carrot 15 = .ok (.aload_n 0, 1) := by decide +kernel
theorem dX5_carrot_16 : decode cX5_carrot 16 = .ok (.getfield 10, 3) := by decide +kernel
theorem dX5_carrot_19 : decode cX5_carrot 19 = .ok (.getfield 82, 3) := by decide +kernel
theorem dX5_carrot_22 : decode cX5_carrot 22 = .ok (.aload_n 0, 1) := by decide +kernel
theorem dX5_carrot_23 : decode cX5_carrot 23 = .ok (.getfield 10, 3) := by decide +kernel
theorem dX5_carrot_26 : decode cX5_carrot 26 = .ok (.getfield 60, 3) := by decide +kernel
theorem dX5_carrot_29 : decode cX5_carrot 29 = .ok (.invokevirtual 105, 3) := by decide +kernel
theorem dX5_carrot_32 : decode cX5_carrot 32 = .ok (.aload_n 0, 1) := by decide +kernel
theorem dX5_carrot_33 : decode cX5_carrot 33 = .ok (.getfield 10, 3) := by decide +kernel
theorem dX5_carrot_36 : decode cX5_carrot 36 = .ok (.getfield 60, 3) := by decide +kernel
theorem dX5_carrot_39 : decode cX5_carrot 39 = .ok (.iload_n 1, 1) := by decide +kernel
theorem dX5_carrot_40 : decode cX5_carrot 40 = .ok (.invokevirtual 123, 3) := by decide +kernel
theorem dX5_carrot_43 : decode cX5_carrot 43 = .ok (.ireturn, 1) := by decide +kernel
theorem dX5_moves_0 : decode cX5_moves 0 = .ok (.aload_n 0, 1) := by decide +kernel
theorem dX5_moves_1 : decode cX5_moves 1 = .ok (.iload_n 1, 1) := by decide +kernel
theorem dX5_moves_2 : decode cX5_moves 2 = .ok (.invokevirtual 120, 3) := by decide +kernel
theorem dX5_moves_5 : decode cX5_moves 5 = .ok (.ifCond .eq 10, 3) := by decide +kernel
theorem dX5_moves_8 : decode cX5_moves 8 = .ok (.iload_n 2, 1) := by decide +kernel
theorem dX5_moves_9 : decode cX5_moves 9 = .ok (.invokestatic 52, 3) := by decide +kernel
theorem dX5_moves_12 : decode cX5_moves 12 = .ok (.ifCond .ne 10, 3) := by decide +kernel
theorem dX5_moves_15 : decode cX5_moves 15 = .ok (.aload_n 0, 1) := by decide +kernel
theorem dX5_moves_16 : decode cX5_moves 16 = .ok (.bipush (-2), 2) := by decide +kernel
theorem dX5_moves_18 : decode cX5_moves 18 = .ok (.invokevirtual 56, 3) := by decide +kernel
theorem dX5_moves_21 : decode cX5_moves 21 = .ok (.ireturn, 1) := by decide +kernel
theorem dX5_moves_22 : decode cX5_moves 22 = .ok (.aload_n 0, 1) := by decide +kernel
theorem dX5_moves_23 : decode cX5_moves 23 = .ok (.getfield 10, 3) := by decide +kernel
theorem dX5_moves_26 : decode cX5_moves 26 = .ok (.getfield 60, 3) := by decide +kernel
theorem dX5_moves_29 : decode cX5_moves 29 = .ok (.iload_n 2, 1) := by decide +kernel
theorem dX5_moves_30 : decode cX5_moves 30 = .ok (.invokevirtual 79, 3) := by decide +kernel
theorem dX5_moves_33 : decode cX5_moves 33 = .ok (.istore_n 3, 1) := by decide +kernel
theorem dX5_moves_34 : decode cX5_moves 34 = .ok (.iload_n 3, 1) := by decide +kernel
theorem dX5_moves_35 : decode cX5_moves 35 = .ok (.iconst (-1), 1) := by decide +kernel
theorem dX5_moves_36 : decode cX5_moves 36 = .ok (.if_icmp .eq 15, 3) := by decide +kernel
theorem dX5_moves_39 : decode cX5_moves 39 = .ok (.iload_n 3, 1) := by decide +kernel
theorem dX5_moves_40 : decode cX5_moves 40 = .ok (.iload_n 1, 1) := by decide +kernel
theorem dX5_moves_41 : decode cX5_moves 41 = .ok (.if_icmp .eq 10, 3) := by decide +kernel
theorem dX5_moves_44 : decode cX5_moves 44 = .ok (.aload_n 0, 1) := by decide +kernel
theorem dX5_moves_45 : decode cX5_moves 45 = .ok (.bipush (-3), 2) := by decide +kernel
theorem dX5_moves_47 : decode cX5_moves 47 = .ok (.invokevirtual 56, 3) := by decide +kernel
theorem dX5_moves_50 : decode cX5_moves 50 = .ok (.ireturn, 1) := by decide +kernel
theorem dX5_moves_51 : decode cX5_moves 51 = .ok (.aload_n 0, 1) := by decide +kernel
theorem dX5_moves_52 : decode cX5_moves 52 = .ok (.getfield 10, 3) := by decide +kernel
theorem dX5_moves_55 : decode cX5_moves 55 = .ok (.getfield 82, 3) := by decide +kernel
theorem dX5_moves_58 : decode cX5_moves 58 = .ok (.aload_n 0, 1) := by decide +kernel
theorem dX5_moves_59 : decode cX5_moves 59 = .ok (.getfield 10, 3) := by decide +kernel
theorem dX5_moves_62 : decode cX5_moves 62 = .ok (.getfield 60, 3) := by decide +kernel
theorem dX5_moves_65 : decode cX5_moves 65 = .ok (.invokevirtual 105, 3) := by decide +kernel
theorem dX5_moves_68 : decode cX5_moves 68 = .ok (.aload_n 0, 1) := by decide +kernel
theorem dX5_moves_69 : decode cX5_moves 69 = .ok (.getfield 10, 3) := by decide +kernel
theorem dX5_moves_72 : decode cX5_moves 72 = .ok (.getfield 60, 3) := by decide +kernel
theorem dX5_moves_75 : decode cX5_moves 75 = .ok (.getfield 126, 3) := by decide +kernel
theorem dX5_moves_78 : decode cX5_moves 78 = .ok (.iload_n 1, 1) := by decide +kernel
theorem dX5_moves_79 : decode cX5_moves 79 = .ok (.iaload, 1) := by decide +kernel
theorem dX5_moves_80 : decode cX5_moves 80 = .ok (.istore 4, 2) := by decide +kernel
theorem dX5_moves_82 : decode cX5_moves 82 = .ok (.aload_n 0, 1) := by decide +kernel
theorem dX5_moves_83 : decode cX5_moves 83 = .ok (.getfield 10, 3) := by decide +kernel
theorem dX5_moves_86 : decode cX5_moves 86 = .ok (.getfield 60, 3) := by decide +kernel
theorem dX5_moves_89 : decode cX5_moves 89 = .ok (.getfield 126, 3) := by decide +kernel
theorem dX5_moves_92 : decode cX5_moves 92 = .ok (.iload_n 1, 1) := by decide +kernel
theorem dX5_moves_93 : decode cX5_moves 93 = .ok (.iload_n 2, 1) := by decide +kernel
theorem dX5_moves_94 : decode cX5_moves 94 = .ok (.iastore, 1) := by decide +kernel
theorem dX5_moves_95 : decode cX5_moves 95 = .ok (.iload 4, 2) := by decide +kernel
theorem dX5_moves_97 : decode cX5_moves 97 = .ok (.ireturn, 1) := by decide +kernel
theorem dX5_woman_0 : decode cX5_woman 0 = .ok (.iload_n 1, 1) := by decide +kernel
theorem dX5_woman_1 : decode cX5_woman 1 = .ok (.invokestatic 52, 3) := by decide +kernel
theorem dX5_woman_4 : decode cX5_woman 4 = .ok (.ifCond .ne 10, 3) := by decide +kernel
theorem dX5_woman_7 : decode cX5_woman 7 = .ok (.aload_n 0, 1) := by decide +kernel
theorem dX5_woman_8 : decode cX5_woman 8 = .ok (.bipush (-2), 2) := by decide +kernel
theorem dX5_woman_10 : decode cX5_woman 10 = .ok (.invokevirtual 56, 3) := by decide +kernel
theorem dX5_woman_13 : decode cX5_woman 13 = .ok (.ireturn, 1) := by decide +kernel
theorem dX5_woman_14 : decode cX5_woman 14 = .ok (.aload_n 0, 1) := by decide +kernel
theorem dX5_woman_15 : decode cX5_woman 15 = .ok (.getfield 10, 3) := by decide +kernel
theorem dX5_woman_18 : decode cX5_woman 18 = .ok (.getfield 82, 3) := by decide +kernel
theorem dX5_woman_21 : decode cX5_woman 21 = .ok (.aload_n 0, 1) := by decide +kernel
theorem dX5_woman_22 : decode cX5_woman 22 = .ok (.getfield 10, 3) := by decide +kernel
theorem dX5_woman_25 : decode cX5_woman 25 = .ok (.getfield 60, 3) := by decide +kernel
theorem dX5_woman_28 : decode cX5_woman 28 = .ok (.invokevirtual 105, 3) := by decide +kernel
theorem dX5_woman_31 : decode cX5_woman 31 = .ok (.aload_n 0, 1) := by decide +kernel
theorem dX5_woman_32 : decode cX5_woman 32 = .ok (.getfield 10, 3) := by decide +kernel
theorem dX5_woman_35 : decode cX5_woman 35 = .ok (.getfield 60, 3) := by decide +kernel
theorem dX5_woman_38 : decode cX5_woman 38 = .ok (.getfield 129, 3) := by decide +kernel
theorem dX5_woman_41 : decode cX5_woman 41 = .ok (.istore_n 2, 1) := by decide +kernel
theorem dX5_woman_42 : decode cX5_woman 42 = .ok (.aload_n 0, 1) := by decide +kernel
theorem dX5_woman_43 : decode cX5_woman 43 = .ok (.getfield 10, 3) := by decide +kernel
theorem dX5_woman_46 : decode cX5_woman 46 = .ok (.getfield 60, 3) := by decide +kernel
theorem dX5_woman_49 : decode cX5_woman 49 = .ok (.iload_n 1, 1) := by decide +kernel
theorem dX5_woman_50 : decode cX5_woman 50 = .ok (.putfield 129, 3) := by decide +kernel
theorem dX5_woman_53 : decode cX5_woman 53 = .ok (.iload_n 2, 1) := by decide +kernel
theorem dX5_woman_54 : decode cX5_woman 54 = .ok (.ireturn, 1) := by decide +kernel
theorem dX5_undo_0 : decode cX5_undo 0 = .ok (.aload_n 0, 1) := by decide +kernel
theorem dX5_undo_1 : decode cX5_undo 1 = .ok (.getfield 10, 3) := by decide +kernel
theorem dX5_undo_4 : decode cX5_undo 4 = .ok (.getfield 82, 3) := by decide +kernel
theorem dX5_undo_7 : decode cX5_undo 7 = .ok (.getfield 132, 3) := by decide +kernel
theorem dX5_undo_10 : decode cX5_undo 10 = .ok (.ifCond .ne 10, 3) := by decide +kernel
theorem dX5_undo_13 : decode cX5_undo 13 = .ok (.aload_n 0, 1) := by decide +kernel
theorem dX5_undo_14 : decode cX5_undo 14 = .ok (.bipush (-3), 2) := by decide +kernel
theorem dX5_undo_16 : decode cX5_undo 16 = .ok (.invokevirtual 56, 3) := by decide +kernel
theorem dX5_undo_19 : decode cX5_undo 19 = .ok (.ireturn, 1) := by decide +kernel
theorem dX5_undo_20 : decode cX5_undo 20 = .ok (.aload_n 0, 1) := by decide +kernel
theorem dX5_undo_21 : decode cX5_undo 21 = .ok (.getfield 10, 3) := by decide +kernel
theorem dX5_undo_24 : decode cX5_undo 24 = .ok (.getfield 82, 3) := by decide +kernel
theorem dX5_undo_27 : decode cX5_undo 27 = .ok (.aload_n 0, 1) := by decide +kernel
theorem dX5_undo_28 : decode cX5_undo 28 = .ok (.getfield 10, 3) := by decide +kernel
theorem dX5_undo_31 : decode cX5_undo 31 = .ok (.getfield 60, 3) := by decide +kernel
theorem dX5_undo_34 : decode cX5_undo 34 = .ok (.invokevirtual 135, 3) := by decide +kernel
theorem dX5_undo_37 : decode cX5_undo 37 = .ok (.aload_n 0, 1) := by decide +kernel
theorem dX5_undo_38 : decode cX5_undo 38 = .ok (.getfield 10, 3) := by decide +kernel
theorem dX5_undo_41 : decode cX5_undo 41 = .ok (.getfield 60, 3) := by decide +kernel
theorem dX5_undo_44 : decode cX5_undo 44 = .ok (.getfield 108, 3) := by decide +kernel
theorem dX5_undo_47 : decode cX5_undo 47 = .ok (.ireturn, 1) := by decide +kernel
theorem dX5_of_0 : decode cX5_of 0 = .ok (.aload_n 0, 1) := by decide +kernel
theorem dX5_of_1 : decode cX5_of 1 = .ok (.iload_n 1, 1) := by decide +kernel
theorem dX5_of_2 : decode cX5_of 2 = .ok (.invokevirtual 120, 3) := by decide +kernel
theorem dX5_of_5 : decode cX5_of 5 = .ok (.ifCond .eq 12, 3) := by decide +kernel
theorem dX5_of_8 : decode cX5_of 8 = .ok (.iload_n 2, 1) := by decide +kernel
theorem dX5_of_9 : decode cX5_of 9 = .ok (.iconst 0, 1) := by decide +kernel
theorem dX5_of_10 : decode cX5_of 10 = .ok (.iconst 5, 1) := by decide +kernel
theorem dX5_of_11 : decode cX5_of 11 = .ok (.invokestatic 75, 3) := by decide +kernel
theorem dX5_of_14 : decode cX5_of 14 = .ok (.ifCond .ne 10, 3) := by decide +kernel
theorem dX5_of_17 : decode cX5_of 17 = .ok (.aload_n 0, 1) := by decide +kernel
theorem dX5_of_18 : decode cX5_of 18 = .ok (.bipush (-2), 2) := by decide +kernel
theorem dX5_of_20 : decode cX5_of 20 = .ok (.invokevirtual 56, 3) := by decide +kernel
theorem dX5_of_23 : decode cX5_of 23 = .ok (.ireturn, 1) := by decide +kernel
theorem dX5_of_24 : decode cX5_of 24 = .ok (.iload_n 2, 1) := by decide +kernel
theorem dX5_of_25 : decode cX5_of 25 = .ok (.iconst 5, 1) := by decide +kernel
theorem dX5_of_26 : decode cX5_of 26 = .ok (.if_icmp .ne 17, 3) := by decide +kernel
theorem dX5_of_29 : decode cX5_of 29 = .ok (.aload_n 0, 1) := by decide +kernel
theorem dX5_of_30 : decode cX5_of 30 = .ok (.getfield 10, 3) := by decide +kernel
theorem dX5_of_33 : decode cX5_of 33 = .ok (.getfield 60, 3) := by decide +kernel
theorem dX5_of_36 : decode cX5_of 36 = .ok (.iload_n 1, 1) := by decide +kernel
theorem dX5_of_37 : decode cX5_of 37 = .ok (.invokevirtual 138, 3) := by decide +kernel
theorem dX5_of_40 : decode cX5_of 40 = .ok (.goto 15, 3) := by decide +kernel
theorem dX5_of_43 : decode cX5_of 43 = .ok (.aload_n 0, 1) := by decide +kernel
theorem dX5_of_44 : decode cX5_of 44 = .ok (.getfield 10, 3) := by decide +kernel
theorem dX5_of_47 : decode cX5_of 47 = .ok (.getfield 60, 3) := by decide +kernel
theorem dX5_of_50 : decode cX5_of 50 = .ok (.iload_n 1, 1) := by decide +kernel
theorem dX5_of_51 : decode cX5_of 51 = .ok (.iload_n 2, 1) := by decide +kernel
theorem dX5_of_52 : decode cX5_of 52 = .ok (.invokevirtual 141, 3) := by decide +kernel
theorem dX5_of_55 : decode cX5_of 55 = .ok (.ireturn, 1) := by decide +kernel
theorem dX5_now_0 : decode cX5_now 0 = .ok (.aload_n 0, 1) := by decide +kernel
theorem dX5_now_1 : decode cX5_now 1 = .ok (.iload_n 1, 1) := by decide +kernel
theorem dX5_now_2 : decode cX5_now 2 = .ok (.invokevirtual 120, 3) := by decide +kernel
theorem dX5_now_5 : decode cX5_now 5 = .ok (.ifCond .eq 12, 3) := by decide +kernel
theorem dX5_now_8 : decode cX5_now 8 = .ok (.iload_n 2, 1) := by decide +kernel
theorem dX5_now_9 : decode cX5_now 9 = .ok (.iconst 0, 1) := by decide +kernel
theorem dX5_now_10 : decode cX5_now 10 = .ok (.iconst 2, 1) := by decide +kernel
theorem dX5_now_11 : decode cX5_now 11 = .ok (.invokestatic 75, 3) := by decide +kernel
theorem dX5_now_14 : decode cX5_now 14 = .ok (.ifCond .ne 13, 3) := by decide +kernel
theorem dX5_now_17 : decode cX5_now 17 = .ok (.aload_n 0, 1) := by decide +kernel
theorem dX5_now_18 : decode cX5_now 18 = .ok (.bipush (-2), 2) := by decide +kernel
theorem dX5_now_20 : decode cX5_now 20 = .ok (.invokevirtual 56, 3) := by decide +kernel
theorem dX5_now_23 : decode cX5_now 23 = .ok (.pop, 1) := by decide +kernel
theorem dX5_now_24 : decode cX5_now 24 = .ok (.bipush (-10), 2) := by decide +kernel
theorem dX5_now_26 : decode cX5_now 26 = .ok (.ireturn, 1) := by decide +kernel
theorem dX5_now_27 : decode cX5_now 27 = .ok (.iload_n 2, 1) := by decide +kernel
theorem dX5_now_28 : decode cX5_now 28 = .ok (.ifCond .ne 15, 3) := by decide +kernel
theorem dX5_now_31 : decode cX5_now 31 = .ok (.aload_n 0, 1) := by decide +kernel
theorem dX5_now_32 : decode cX5_now 32 = .ok (.getfield 10, 3) := by decide +kernel
theorem dX5_now_35 : decode cX5_now 35 = .ok (.getfield 60, 3) := by decide +kernel
theorem dX5_now_38 : decode cX5_now 38 = .ok (.iload_n 1, 1) := by decide +kernel
theorem dX5_now_39 : decode cX5_now 39 = .ok (.invokevirtual 144, 3) := by decide +kernel
theorem dX5_now_42 : decode cX5_now 42 = .ok (.ireturn, 1) := by decide +kernel
theorem dX5_now_43 : decode cX5_now 43 = .ok (.iload_n 2, 1) := by decide +kernel
theorem dX5_now_44 : decode cX5_now 44 = .ok (.iconst 1, 1) := by decide +kernel
theorem dX5_now_45 : decode cX5_now 45 = .ok (.if_icmp .ne 17, 3) := by decide +kernel
theorem dX5_now_48 : decode cX5_now 48 = .ok (.aload_n 0, 1) := by decide +kernel
theorem dX5_now_49 : decode cX5_now 49 = .ok (.getfield 10, 3) := by decide +kernel
theorem dX5_now_52 : decode cX5_now 52 = .ok (.getfield 60, 3) := by decide +kernel
theorem dX5_now_55 : decode cX5_now 55 = .ok (.iload_n 1, 1) := by decide +kernel
theorem dX5_now_56 : decode cX5_now 56 = .ok (.invokevirtual 147, 3) := by decide +kernel
theorem dX5_now_59 : decode cX5_now 59 = .ok (.goto 17, 3) := by decide +kernel
theorem dX5_now_62 : decode cX5_now 62 = .ok (.aload_n 0, 1) := by decide +kernel
theorem dX5_now_63 : decode cX5_now 63 = .ok (.getfield 10, 3) := by decide +kernel
theorem dX5_now_66 : decode cX5_now 66 = .ok (.getfield 60, 3) := by decide +kernel
theorem dX5_now_69 : decode cX5_now 69 = .ok (.invokevirtual 150, 3) := by decide +kernel
theorem dX5_now_72 : decode cX5_now 72 = .ok (.iload_n 1, 1) := by decide +kernel
theorem dX5_now_73 : decode cX5_now 73 = .ok (.ishr, 1) := by decide +kernel
theorem dX5_now_74 : decode cX5_now 74 = .ok (.iconst 1, 1) := by decide +kernel
theorem dX5_now_75 : decode cX5_now 75 = .ok (.iand, 1) := by decide +kernel
theorem dX5_now_76 : decode cX5_now 76 = .ok (.ireturn, 1) := by decide +kernel
theorem dX5_then_0 : decode cX5_then 0 = .ok (.iload_n 1, 1) := by decide +kernel
theorem dX5_then_1 : decode cX5_then 1 = .ok (.iconst 0, 1) := by decide +kernel
theorem dX5_then_2 : decode cX5_then 2 = .ok (.bipush 60, 2) := by decide +kernel
theorem dX5_then_4 : decode cX5_then 4 = .ok (.invokestatic 75, 3) := by decide +kernel
theorem dX5_then_7 : decode cX5_then 7 = .ok (.ifCond .eq 16, 3) := by decide +kernel
theorem dX5_then_10 : decode cX5_then 10 = .ok (.iload_n 2, 1) := by decide +kernel
theorem dX5_then_11 : decode cX5_then 11 = .ok (.iconst (-1), 1) := by decide +kernel
theorem dX5_then_12 : decode cX5_then 12 = .ok (.if_icmp .eq 18, 3) := by decide +kernel
theorem dX5_then_15 : decode cX5_then 15 = .ok (.aload_n 0, 1) := by decide +kernel
theorem dX5_then_16 : decode cX5_then 16 = .ok (.iload_n 2, 1) := by decide +kernel
theorem dX5_then_17 : decode cX5_then 17 = .ok (.invokevirtual 120, 3) := by decide +kernel
theorem dX5_then_20 : decode cX5_then 20 = .ok (.ifCond .ne 10, 3) := by decide +kernel
theorem dX5_then_23 : decode cX5_then 23 = .ok (.aload_n 0, 1) := by decide +kernel
theorem dX5_then_24 : decode cX5_then 24 = .ok (.bipush (-2), 2) := by decide +kernel
theorem dX5_then_26 : decode cX5_then 26 = .ok (.invokevirtual 56, 3) := by decide +kernel
theorem dX5_then_29 : decode cX5_then 29 = .ok (.ireturn, 1) := by decide +kernel
theorem dX5_then_30 : decode cX5_then 30 = .ok (.aload_n 0, 1) := by decide +kernel
theorem dX5_then_31 : decode cX5_then 31 = .ok (.getfield 34, 3) := by decide +kernel
theorem dX5_then_34 : decode cX5_then 34 = .ok (.aload_n 0, 1) := by decide +kernel
theorem dX5_then_35 : decode cX5_then 35 = .ok (.getfield 10, 3) := by decide +kernel
theorem dX5_then_38 : decode cX5_then 38 = .ok (.getfield 60, 3) := by decide +kernel
theorem dX5_then_41 : decode cX5_then 41 = .ok (.invokevirtual 154, 3) := by decide +kernel
theorem dX5_then_44 : decode cX5_then 44 = .ok (.aload_n 0, 1) := by decide +kernel
theorem dX5_then_45 : decode cX5_then 45 = .ok (.getfield 34, 3) := by decide +kernel
theorem dX5_then_48 : decode cX5_then 48 = .ok (.iload_n 1, 1) := by decide +kernel
theorem dX5_then_49 : decode cX5_then 49 = .ok (.invokevirtual 117, 3) := by decide +kernel
theorem dX5_then_52 : decode cX5_then 52 = .ok (.pop, 1) := by decide +kernel
theorem dX5_then_53 : decode cX5_then 53 = .ok (.iload_n 2, 1) := by decide +kernel
theorem dX5_then_54 : decode cX5_then 54 = .ok (.iconst (-1), 1) := by decide +kernel
theorem dX5_then_55 : decode cX5_then 55 = .ok (.if_icmp .ne 13, 3) := by decide +kernel
theorem dX5_then_58 : decode cX5_then 58 = .ok (.aload_n 0, 1) := by decide +kernel
theorem dX5_then_59 : decode cX5_then 59 = .ok (.getfield 34, 3) := by decide +kernel
theorem dX5_then_62 : decode cX5_then 62 = .ok (.getfield 157, 3) := by decide +kernel
theorem dX5_then_65 : decode cX5_then 65 = .ok (.goto 12, 3) := by decide +kernel
theorem dX5_then_68 : decode cX5_then 68 = .ok (.aload_n 0, 1) := by decide +kernel
theorem dX5_then_69 : decode cX5_then 69 = .ok (.getfield 34, 3) := by decide +kernel
theorem dX5_then_72 : decode cX5_then 72 = .ok (.getfield 160, 3) := by decide +kernel
theorem dX5_then_75 : decode cX5_then 75 = .ok (.iload_n 2, 1) := by decide +kernel
theorem dX5_then_76 : decode cX5_then 76 = .ok (.iaload, 1) := by decide +kernel
theorem dX5_then_77 : decode cX5_then 77 = .ok (.ireturn, 1) := by decide +kernel
theorem dX5_quiet_0 : decode cX5_quiet 0 = .ok (.aload_n 0, 1) := by decide +kernel
theorem dX5_quiet_1 : decode cX5_quiet 1 = .ok (.getfield 34, 3) := by decide +kernel
theorem dX5_quiet_4 : decode cX5_quiet 4 = .ok (.aload_n 0, 1) := by decide +kernel
theorem dX5_quiet_5 : decode cX5_quiet 5 = .ok (.getfield 10, 3) := by decide +kernel
theorem dX5_quiet_8 : decode cX5_quiet 8 = .ok (.getfield 60, 3) := by decide +kernel
theorem dX5_quiet_11 : decode cX5_quiet 11 = .ok (.invokevirtual 154, 3) := by decide +kernel
theorem dX5_quiet_14 : decode cX5_quiet 14 = .ok (.iconst 1, 1) := by decide +kernel
theorem dX5_quiet_15 : decode cX5_quiet 15 = .ok (.istore_n 1, 1) := by decide +kernel
theorem dX5_quiet_16 : decode cX5_quiet 16 = .ok (.iload_n 1, 1) := by decide +kernel
theorem dX5_quiet_17 : decode cX5_quiet 17 = .ok (.bipush 60, 2) := by decide +kernel
theorem dX5_quiet_19 : decode cX5_quiet 19 = .ok (.if_icmp .gt 21, 3) := by decide +kernel
theorem dX5_quiet_22 : decode cX5_quiet 22 = .ok (.aload_n 0, 1) := by decide +kernel
theorem dX5_quiet_23 : decode cX5_quiet 23 = .ok (.getfield 34, 3) := by decide +kernel
theorem dX5_quiet_26 : decode cX5_quiet 26 = .ok (.invokevirtual 163, 3) := by decide +kernel
theorem dX5_quiet_29 : decode cX5_quiet 29 = .ok (.ifCond .le 5, 3) := by decide +kernel
theorem dX5_quiet_32 : decode cX5_quiet 32 = .ok (.iload_n 1, 1) := by decide +kernel
theorem dX5_quiet_33 : decode cX5_quiet 33 = .ok (.ireturn, 1) := by decide +kernel
theorem dX5_quiet_34 : decode cX5_quiet 34 = .ok (.iinc 1 1, 3) := by decide +kernel
theorem dX5_quiet_37 : decode cX5_quiet 37 = .ok (.goto (-21), 3) := by decide +kernel
theorem dX5_quiet_40 : decode cX5_quiet 40 = .ok (.iconst (-1), 1) := by decide +kernel
theorem dX5_quiet_41 : decode cX5_quiet 41 = .ok (.ireturn, 1) := by decide +kernel
theorem dX5_stand_0 : decode cX5_stand 0 = .ok (.iload_n 1, 1) := by decide +kernel
theorem dX5_stand_1 : decode cX5_stand 1 = .ok (.iconst 1, 1) := by decide +kernel
theorem dX5_stand_2 : decode cX5_stand 2 = .ok (.bipush 60, 2) := by decide +kernel
theorem dX5_stand_4 : decode cX5_stand 4 = .ok (.invokestatic 75, 3) := by decide +kernel
theorem dX5_stand_7 : decode cX5_stand 7 = .ok (.ifCond .eq 12, 3) := by decide +kernel
theorem dX5_stand_10 : decode cX5_stand 10 = .ok (.iload_n 2, 1) := by decide +kernel
theorem dX5_stand_11 : decode cX5_stand 11 = .ok (.iconst 0, 1) := by decide +kernel
theorem dX5_stand_12 : decode cX5_stand 12 = .ok (.iconst 1, 1) := by decide +kernel
theorem dX5_stand_13 : decode cX5_stand 13 = .ok (.invokestatic 75, 3) := by decide +kernel
theorem dX5_stand_16 : decode cX5_stand 16 = .ok (.ifCond .ne 10, 3) := by decide +kernel
theorem dX5_stand_19 : decode cX5_stand 19 = .ok (.aload_n 0, 1) := by decide +kernel
theorem dX5_stand_20 : decode cX5_stand 20 = .ok (.bipush (-2), 2) := by decide +kernel
theorem dX5_stand_22 : decode cX5_stand 22 = .ok (.invokevirtual 56, 3) := by decide +kernel
theorem dX5_stand_25 : decode cX5_stand 25 = .ok (.ireturn, 1) := by decide +kernel
theorem dX5_stand_26 : decode cX5_stand 26 = .ok (.iconst (-1), 1) := by decide +kernel
theorem dX5_stand_27 : decode cX5_stand 27 = .ok (.istore_n 3, 1) := by decide +kernel
theorem dX5_stand_28 : decode cX5_stand 28 = .ok (.bipush 6, 2) := by decide +kernel
theorem dX5_stand_30 : decode cX5_stand 30 = .ok (.iload_n 1, 1) := by decide +kernel
theorem dX5_stand_31 : decode cX5_stand 31 = .ok (.imul, 1) := by decide +kernel
theorem dX5_stand_32 : decode cX5_stand 32 = .ok (.iconst 1, 1) := by decide +kernel
theorem dX5_stand_33 : decode cX5_stand 33 = .ok (.iadd, 1) := by decide +kernel
theorem dX5_stand_34 : decode cX5_stand 34 = .ok (.istore 4, 2) := by decide +kernel
theorem dX5_stand_36 : decode cX5_stand 36 = .ok (.iconst 0, 1) := by decide +kernel
theorem dX5_stand_37 : decode cX5_stand 37 = .ok (.istore 5, 2) := by decide +kernel
theorem dX5_stand_39 : decode cX5_stand 39 = .ok (.iload 5, 2) := by decide +kernel
theorem dX5_stand_41 : decode cX5_stand 41 = .ok (.bipush 8, 2) := by decide +kernel
theorem dX5_stand_43 : decode cX5_stand 43 = .ok (.if_icmp .ge 56, 3) := by decide +kernel
theorem dX5_stand_46 : decode cX5_stand 46 = .ok (.aload_n 0, 1) := by decide +kernel
theorem dX5_stand_47 : decode cX5_stand 47 = .ok (.getfield 34, 3) := by decide +kernel
theorem dX5_stand_50 : decode cX5_stand 50 = .ok (.aload_n 0, 1) := by decide +kernel
theorem dX5_stand_51 : decode cX5_stand 51 = .ok (.getfield 10, 3) := by decide +kernel
theorem dX5_stand_54 : decode cX5_stand 54 = .ok (.getfield 60, 3) := by decide +kernel
theorem dX5_stand_57 : decode cX5_stand 57 = .ok (.invokevirtual 154, 3) := by decide +kernel
theorem dX5_stand_60 : decode cX5_stand 60 = .ok (.aload_n 0, 1) := by decide +kernel
theorem dX5_stand_61 : decode cX5_stand 61 = .ok (.getfield 34, 3) := by decide +kernel
theorem dX5_stand_64 : decode cX5_stand 64 = .ok (.iload 5, 2) := by decide +kernel
theorem dX5_stand_66 : decode cX5_stand 66 = .ok (.putfield 129, 3) := by decide +kernel
theorem dX5_stand_69 : decode cX5_stand 69 = .ok (.aload_n 0, 1) := by decide +kernel
theorem dX5_stand_70 : decode cX5_stand 70 = .ok (.getfield 34, 3) := by decide +kernel
theorem dX5_stand_73 : decode cX5_stand 73 = .ok (.iload_n 1, 1) := by decide +kernel
theorem dX5_stand_74 : decode cX5_stand 74 = .ok (.invokevirtual 117, 3) := by decide +kernel
theorem dX5_stand_77 : decode cX5_stand 77 = .ok (.istore 6, 2) := by decide +kernel
theorem dX5_stand_79 : decode cX5_stand 79 = .ok (.iload 6, 2) := by decide +kernel
theorem dX5_stand_81 : decode cX5_stand 81 = .ok (.iload 4, 2) := by decide +kernel
theorem dX5_stand_83 : decode cX5_stand 83 = .ok (.if_icmp .ge 10, 3) := by decide +kernel
theorem dX5_stand_86 : decode cX5_stand 86 = .ok (.iload 6, 2) := by decide +kernel
theorem dX5_stand_88 : decode cX5_stand 88 = .ok (.istore 4, 2) := by decide +kernel
theorem dX5_stand_90 : decode cX5_stand 90 = .ok (.iload 5, 2) := by decide +kernel
theorem dX5_stand_92 : decode cX5_stand 92 = .ok (.istore_n 3, 1) := by decide +kernel
theorem dX5_stand_93 : decode cX5_stand 93 = .ok (.iinc 5 1, 3) := by decide +kernel
theorem dX5_stand_96 : decode cX5_stand 96 = .ok (.goto (-57), 3) := by decide +kernel
theorem dX5_stand_99 : decode cX5_stand 99 = .ok (.iload_n 2, 1) := by decide +kernel
theorem dX5_stand_100 : decode cX5_stand 100 = .ok (.ifCond .ne 7, 3) := by decide +kernel
theorem dX5_stand_103 : decode cX5_stand 103 = .ok (.iload_n 3, 1) := by decide +kernel
theorem dX5_stand_104 : decode cX5_stand 104 = .ok (.goto 5, 3) := by decide +kernel
theorem dX5_stand_107 : decode cX5_stand 107 = .ok (.iload 4, 2) := by decide +kernel
theorem dX5_stand_109 : decode cX5_stand 109 = .ok (.ireturn, 1) := by decide +kernel
theorem dX5_helps_0 : decode cX5_helps 0 = .ok (.iconst (-1), 1) := by decide +kernel
theorem dX5_helps_1 : decode cX5_helps 1 = .ok (.istore_n 1, 1) := by decide +kernel
theorem dX5_helps_2 : decode cX5_helps 2 = .ok (.aload_n 0, 1) := by decide +kernel
theorem dX5_helps_3 : decode cX5_helps 3 = .ok (.getfield 34, 3) := by decide +kernel
theorem dX5_helps_6 : decode cX5_helps 6 = .ok (.aload_n 0, 1) := by decide +kernel
theorem dX5_helps_7 : decode cX5_helps 7 = .ok (.getfield 10, 3) := by decide +kernel
theorem dX5_helps_10 : decode cX5_helps 10 = .ok (.getfield 60, 3) := by decide +kernel
theorem dX5_helps_13 : decode cX5_helps 13 = .ok (.invokevirtual 154, 3) := by decide +kernel
theorem dX5_helps_16 : decode cX5_helps 16 = .ok (.aload_n 0, 1) := by decide +kernel
theorem dX5_helps_17 : decode cX5_helps 17 = .ok (.getfield 34, 3) := by decide +kernel
theorem dX5_helps_20 : decode cX5_helps 20 = .ok (.bipush 20, 2) := by decide +kernel
theorem dX5_helps_22 : decode cX5_helps 22 = .ok (.invokevirtual 117, 3) := by decide +kernel
theorem dX5_helps_25 : decode cX5_helps 25 = .ok (.istore_n 2, 1) := by decide +kernel
theorem dX5_helps_26 : decode cX5_helps 26 = .ok (.iconst 0, 1) := by decide +kernel
theorem dX5_helps_27 : decode cX5_helps 27 = .ok (.istore_n 3, 1) := by decide +kernel
theorem dX5_helps_28 : decode cX5_helps 28 = .ok (.iload_n 3, 1) := by decide +kernel
theorem dX5_helps_29 : decode cX5_helps 29 = .ok (.aload_n 0, 1) := by decide +kernel
theorem dX5_helps_30 : decode cX5_helps 30 = .ok (.getfield 10, 3) := by decide +kernel
theorem dX5_helps_33 : decode cX5_helps 33 = .ok (.getfield 60, 3) := by decide +kernel
theorem dX5_helps_36 : decode cX5_helps 36 = .ok (.getfield 63, 3) := by decide +kernel
theorem dX5_helps_39 : decode cX5_helps 39 = .ok (.if_icmp .ge 51, 3) := by decide +kernel
theorem dX5_helps_42 : decode cX5_helps 42 = .ok (.iconst 0, 1) := by decide +kernel
theorem dX5_helps_43 : decode cX5_helps 43 = .ok (.istore 4, 2) := by decide +kernel
theorem dX5_helps_45 : decode cX5_helps 45 = .ok (.iload 4, 2) := by decide +kernel
theorem dX5_helps_47 : decode cX5_helps 47 = .ok (.bipush 10, 2) := by decide +kernel
theorem dX5_helps_49 : decode cX5_helps 49 = .ok (.if_icmp .ge 35, 3) := by decide +kernel
theorem dX5_helps_52 : decode cX5_helps 52 = .ok (.aload_n 0, 1) := by decide +kernel
theorem dX5_helps_53 : decode cX5_helps 53 = .ok (.iload_n 3, 1) := by decide +kernel
theorem dX5_helps_54 : decode cX5_helps 54 = .ok (.iload 4, 2) := by decide +kernel
theorem dX5_helps_56 : decode cX5_helps 56 = .ok (.invokevirtual 166, 3) := by decide +kernel
theorem dX5_helps_59 : decode cX5_helps 59 = .ok (.istore 5, 2) := by decide +kernel
theorem dX5_helps_61 : decode cX5_helps 61 = .ok (.iload 5, 2) := by decide +kernel
theorem dX5_helps_63 : decode cX5_helps 63 = .ok (.iload_n 2, 1) := by decide +kernel
theorem dX5_helps_64 : decode cX5_helps 64 = .ok (.if_icmp .ge 14, 3) := by decide +kernel
theorem dX5_helps_67 : decode cX5_helps 67 = .ok (.iload 5, 2) := by decide +kernel
theorem dX5_helps_69 : decode cX5_helps 69 = .ok (.istore_n 2, 1) := by decide +kernel
theorem dX5_helps_70 : decode cX5_helps 70 = .ok (.bipush 10, 2) := by decide +kernel
theorem dX5_helps_72 : decode cX5_helps 72 = .ok (.iload_n 3, 1) := by decide +kernel
theorem dX5_helps_73 : decode cX5_helps 73 = .ok (.imul, 1) := by decide +kernel
theorem dX5_helps_74 : decode cX5_helps 74 = .ok (.iload 4, 2) := by decide +kernel
theorem dX5_helps_76 : decode cX5_helps 76 = .ok (.iadd, 1) := by decide +kernel
theorem dX5_helps_77 : decode cX5_helps 77 = .ok (.istore_n 1, 1) := by decide +kernel
theorem dX5_helps_78 : decode cX5_helps 78 = .ok (.iinc 4 1, 3) := by decide +kernel
theorem dX5_helps_81 : decode cX5_helps 81 = .ok (.goto (-36), 3) := by decide +kernel
theorem dX5_helps_84 : decode cX5_helps 84 = .ok (.iinc 3 1, 3) := by decide +kernel
theorem dX5_helps_87 : decode cX5_helps 87 = .ok (.goto (-59), 3) := by decide +kernel
theorem dX5_helps_90 : decode cX5_helps 90 = .ok (.iload_n 1, 1) := by decide +kernel
theorem dX5_helps_91 : decode cX5_helps 91 = .ok (.ireturn, 1) := by decide +kernel
theorem dX5_seated_0 : decode cX5_seated 0 = .ok (.iload_n 1, 1) := by decide +kernel
theorem dX5_seated_1 : decode cX5_seated 1 = .ok (.iconst (-1), 1) := by decide +kernel
theorem dX5_seated_2 : decode cX5_seated 2 = .ok (.if_icmp .eq 21, 3) := by decide +kernel
theorem dX5_seated_5 : decode cX5_seated 5 = .ok (.aload_n 0, 1) := by decide +kernel
theorem dX5_seated_6 : decode cX5_seated 6 = .ok (.iload_n 1, 1) := by decide +kernel
theorem dX5_seated_7 : decode cX5_seated 7 = .ok (.invokevirtual 120, 3) := by decide +kernel
theorem dX5_seated_10 : decode cX5_seated 10 = .ok (.ifCond .ne 13, 3) := by decide +kernel
theorem dX5_seated_13 : decode cX5_seated 13 = .ok (.aload_n 0, 1) := by decide +kernel
theorem dX5_seated_14 : decode cX5_seated 14 = .ok (.bipush (-2), 2) := by decide +kernel
theorem dX5_seated_16 : decode cX5_seated 16 = .ok (.invokevirtual 56, 3) := by decide +kernel
theorem dX5_seated_19 : decode cX5_seated 19 = .ok (.pop, 1) := by decide +kernel
theorem dX5_seated_20 : decode cX5_seated 20 = .ok (.bipush (-10), 2) := by decide +kernel
theorem dX5_seated_22 : decode cX5_seated 22 = .ok (.ireturn, 1) := by decide +kernel
theorem dX5_seated_23 : decode cX5_seated 23 = .ok (.aload_n 0, 1) := by decide +kernel
theorem dX5_seated_24 : decode cX5_seated 24 = .ok (.getfield 10, 3) := by decide +kernel
theorem dX5_seated_27 : decode cX5_seated 27 = .ok (.getfield 60, 3) := by decide +kernel
theorem dX5_seated_30 : decode cX5_seated 30 = .ok (.getfield 63, 3) := by decide +kernel
theorem dX5_seated_33 : decode cX5_seated 33 = .ok (.istore_n 2, 1) := by decide +kernel
theorem dX5_seated_34 : decode cX5_seated 34 = .ok (.aload_n 0, 1) := by decide +kernel
theorem dX5_seated_35 : decode cX5_seated 35 = .ok (.getfield 34, 3) := by decide +kernel
theorem dX5_seated_38 : decode cX5_seated 38 = .ok (.aload_n 0, 1) := by decide +kernel
theorem dX5_seated_39 : decode cX5_seated 39 = .ok (.getfield 10, 3) := by decide +kernel
theorem dX5_seated_42 : decode cX5_seated 42 = .ok (.getfield 60, 3) := by decide +kernel
theorem dX5_seated_45 : decode cX5_seated 45 = .ok (.invokevirtual 154, 3) := by decide +kernel
theorem dX5_seated_48 : decode cX5_seated 48 = .ok (.aload_n 0, 1) := by decide +kernel
theorem dX5_seated_49 : decode cX5_seated 49 = .ok (.getfield 34, 3) := by decide +kernel
theorem dX5_seated_52 : decode cX5_seated 52 = .ok (.iconst 0, 1) := by decide +kernel
theorem dX5_seated_53 : decode cX5_seated 53 = .ok (.iload_n 2, 1) := by decide +kernel
theorem dX5_seated_54 : decode cX5_seated 54 = .ok (.iload_n 2, 1) := by decide +kernel
theorem dX5_seated_55 : decode cX5_seated 55 = .ok (.iconst 1, 1) := by decide +kernel
theorem dX5_seated_56 : decode cX5_seated 56 = .ok (.iadd, 1) := by decide +kernel
theorem dX5_seated_57 : decode cX5_seated 57 = .ok (.aload_n 0, 1) := by decide +kernel
theorem dX5_seated_58 : decode cX5_seated 58 = .ok (.getfield 38, 3) := by decide +kernel
theorem dX5_seated_61 : decode cX5_seated 61 = .ok (.invokestatic 169, 3) := by decide +kernel
theorem dX5_seated_64 : decode cX5_seated 64 = .ok (.istore_n 3, 1) := by decide +kernel
theorem dX5_seated_65 : decode cX5_seated 65 = .ok (.iload_n 1, 1) := by decide +kernel
theorem dX5_seated_66 : decode cX5_seated 66 = .ok (.iconst (-1), 1) := by decide +kernel
theorem dX5_seated_67 : decode cX5_seated 67 = .ok (.if_icmp .ne 7, 3) := by decide +kernel
theorem dX5_seated_70 : decode cX5_seated 70 = .ok (.iload_n 3, 1) := by decide +kernel
theorem dX5_seated_71 : decode cX5_seated 71 = .ok (.goto 9, 3) := by decide +kernel
theorem dX5_seated_74 : decode cX5_seated 74 = .ok (.aload_n 0, 1) := by decide +kernel
theorem dX5_seated_75 : decode cX5_seated 75 = .ok (.getfield 38, 3) := by decide +kernel
theorem dX5_seated_78 : decode cX5_seated 78 = .ok (.iload_n 1, 1) := by decide +kernel
theorem dX5_seated_79 : decode cX5_seated 79 = .ok (.iaload, 1) := by decide +kernel
theorem dX5_seated_80 : decode cX5_seated 80 = .ok (.ireturn, 1) := by decide +kernel
theorem dX5_words_0 : decode cX5_words 0 = .ok (.aload_n 0, 1) := by decide +kernel
theorem dX5_words_1 : decode cX5_words 1 = .ok (.iload_n 1, 1) := by decide +kernel
theorem dX5_words_2 : decode cX5_words 2 = .ok (.invokevirtual 120, 3) := by decide +kernel
theorem dX5_words_5 : decode cX5_words 5 = .ok (.ifCond .ne 10, 3) := by decide +kernel
theorem dX5_words_8 : decode cX5_words 8 = .ok (.aload_n 0, 1) := by decide +kernel
theorem dX5_words_9 : decode cX5_words 9 = .ok (.bipush (-2), 2) := by decide +kernel
theorem dX5_words_11 : decode cX5_words 11 = .ok (.invokevirtual 56, 3) := by decide +kernel
theorem dX5_words_14 : decode cX5_words 14 = .ok (.ireturn, 1) := by decide +kernel
theorem dX5_words_15 : decode cX5_words 15 = .ok (.aload_n 0, 1) := by decide +kernel
theorem dX5_words_16 : decode cX5_words 16 = .ok (.getfield 34, 3) := by decide +kernel
theorem dX5_words_19 : decode cX5_words 19 = .ok (.aload_n 0, 1) := by decide +kernel
theorem dX5_words_20 : decode cX5_words 20 = .ok (.getfield 10, 3) := by decide +kernel
theorem dX5_words_23 : decode cX5_words 23 = .ok (.getfield 60, 3) := by decide +kernel
theorem dX5_words_26 : decode cX5_words 26 = .ok (.invokevirtual 154, 3) := by decide +kernel
theorem dX5_words_29 : decode cX5_words 29 = .ok (.iconst 0, 1) := by decide +kernel
theorem dX5_words_30 : decode cX5_words 30 = .ok (.istore_n 2, 1) := by decide +kernel
theorem dX5_words_31 : decode cX5_words 31 = .ok (.iload_n 2, 1) := by decide +kernel
theorem dX5_words_32 : decode cX5_words 32 = .ok (.bipush 40, 2) := by decide +kernel
theorem dX5_words_34 : decode cX5_words 34 = .ok (.if_icmp .gt 47, 3) := by decide +kernel
theorem dX5_words_37 : decode cX5_words 37 = .ok (.aload_n 0, 1) := by decide +kernel
theorem dX5_words_38 : decode cX5_words 38 = .ok (.getfield 34, 3) := by decide +kernel
theorem dX5_words_41 : decode cX5_words 41 = .ok (.getfield 173, 3) := by decide +kernel
theorem dX5_words_44 : decode cX5_words 44 = .ok (.iload_n 1, 1) := by decide +kernel
theorem dX5_words_45 : decode cX5_words 45 = .ok (.aload_n 0, 1) := by decide +kernel
theorem dX5_words_46 : decode cX5_words 46 = .ok (.getfield 10, 3) := by decide +kernel
theorem dX5_words_49 : decode cX5_words 49 = .ok (.getfield 60, 3) := by decide +kernel
theorem dX5_words_52 : decode cX5_words 52 = .ok (.getfield 173, 3) := by decide +kernel
theorem dX5_words_55 : decode cX5_words 55 = .ok (.iload_n 1, 1) := by decide +kernel
theorem dX5_words_56 : decode cX5_words 56 = .ok (.iaload, 1) := by decide +kernel
theorem dX5_words_57 : decode cX5_words 57 = .ok (.iload_n 2, 1) := by decide +kernel
theorem dX5_words_58 : decode cX5_words 58 = .ok (.iadd, 1) := by decide +kernel
theorem dX5_words_59 : decode cX5_words 59 = .ok (.iastore, 1) := by decide +kernel
theorem dX5_words_60 : decode cX5_words 60 = .ok (.aload_n 0, 1) := by decide +kernel
theorem dX5_words_61 : decode cX5_words 61 = .ok (.getfield 34, 3) := by decide +kernel
theorem dX5_words_64 : decode cX5_words 64 = .ok (.iload_n 1, 1) := by decide +kernel
theorem dX5_words_65 : decode cX5_words 65 = .ok (.invokevirtual 144, 3) := by decide +kernel
theorem dX5_words_68 : decode cX5_words 68 = .ok (.bipush 12, 2) := by decide +kernel
theorem dX5_words_70 : decode cX5_words 70 = .ok (.if_icmp .ge 5, 3) := by decide +kernel
theorem dX5_words_73 : decode cX5_words 73 = .ok (.iload_n 2, 1) := by decide +kernel
theorem dX5_words_74 : decode cX5_words 74 = .ok (.ireturn, 1) := by decide +kernel
theorem dX5_words_75 : decode cX5_words 75 = .ok (.iinc 2 1, 3) := by decide +kernel
theorem dX5_words_78 : decode cX5_words 78 = .ok (.goto (-47), 3) := by decide +kernel
theorem dX5_words_81 : decode cX5_words 81 = .ok (.iconst (-1), 1) := by decide +kernel
theorem dX5_words_82 : decode cX5_words 82 = .ok (.ireturn, 1) := by decide +kernel
theorem dX5_say_0 : decode cX5_say 0 = .ok (.iconst (-1), 1) := by decide +kernel
theorem dX5_say_1 : decode cX5_say 1 = .ok (.istore_n 1, 1) := by decide +kernel
theorem dX5_say_2 : decode cX5_say 2 = .ok (.bipush 121, 2) := by decide +kernel
theorem dX5_say_4 : decode cX5_say 4 = .ok (.istore_n 2, 1) := by decide +kernel
theorem dX5_say_5 : decode cX5_say 5 = .ok (.iconst 0, 1) := by decide +kernel
theorem dX5_say_6 : decode cX5_say 6 = .ok (.istore_n 3, 1) := by decide +kernel
theorem dX5_say_7 : decode cX5_say 7 = .ok (.iload_n 3, 1) := by decide +kernel
theorem dX5_say_8 : decode cX5_say 8 = .ok (.aload_n 0, 1) := by decide +kernel
theorem dX5_say_9 : decode cX5_say 9 = .ok (.getfield 10, 3) := by decide +kernel
theorem dX5_say_12 : decode cX5_say 12 = .ok (.getfield 60, 3) := by decide +kernel
theorem dX5_say_15 : decode cX5_say 15 = .ok (.getfield 63, 3) := by decide +kernel
theorem dX5_say_18 : decode cX5_say 18 = .ok (.if_icmp .ge 59, 3) := by decide +kernel
theorem dX5_say_21 : decode cX5_say 21 = .ok (.aload_n 0, 1) := by decide +kernel
theorem dX5_say_22 : decode cX5_say 22 = .ok (.getfield 34, 3) := by decide +kernel
theorem dX5_say_25 : decode cX5_say 25 = .ok (.aload_n 0, 1) := by decide +kernel
theorem dX5_say_26 : decode cX5_say 26 = .ok (.getfield 10, 3) := by decide +kernel
theorem dX5_say_29 : decode cX5_say 29 = .ok (.getfield 60, 3) := by decide +kernel
theorem dX5_say_32 : decode cX5_say 32 = .ok (.invokevirtual 154, 3) := by decide +kernel
theorem dX5_say_35 : decode cX5_say 35 = .ok (.aload_n 0, 1) := by decide +kernel
theorem dX5_say_36 : decode cX5_say 36 = .ok (.getfield 34, 3) := by decide +kernel
theorem dX5_say_39 : decode cX5_say 39 = .ok (.getfield 173, 3) := by decide +kernel
theorem dX5_say_42 : decode cX5_say 42 = .ok (.iload_n 3, 1) := by decide +kernel
theorem dX5_say_43 : decode cX5_say 43 = .ok (.dup2, 1) := by decide +kernel
theorem dX5_say_44 : decode cX5_say 44 = .ok (.iaload, 1) := by decide +kernel
theorem dX5_say_45 : decode cX5_say 45 = .ok (.bipush 10, 2) := by decide +kernel
theorem dX5_say_47 : decode cX5_say 47 = .ok (.iadd, 1) := by decide +kernel
theorem dX5_say_48 : decode cX5_say 48 = .ok (.iastore, 1) := by decide +kernel
theorem dX5_say_49 : decode cX5_say 49 = .ok (.aload_n 0, 1) := by decide +kernel
theorem dX5_say_50 : decode cX5_say 50 = .ok (.getfield 34, 3) := by decide +kernel
theorem dX5_say_53 : decode cX5_say 53 = .ok (.bipush 20, 2) := by decide +kernel
theorem dX5_say_55 : decode cX5_say 55 = .ok (.invokevirtual 117, 3) := by decide +kernel
theorem dX5_say_58 : decode cX5_say 58 = .ok (.istore 4, 2) := by decide +kernel
theorem dX5_say_60 : decode cX5_say 60 = .ok (.iload 4, 2) := by decide +kernel
theorem dX5_say_62 : decode cX5_say 62 = .ok (.iload_n 2, 1) := by decide +kernel
theorem dX5_say_63 : decode cX5_say 63 = .ok (.if_icmp .ge 8, 3) := by decide +kernel
theorem dX5_say_66 : decode cX5_say 66 = .ok (.iload 4, 2) := by decide +kernel
theorem dX5_say_68 : decode cX5_say 68 = .ok (.istore_n 2, 1) := by decide +kernel
theorem dX5_say_69 : decode cX5_say 69 = .ok (.iload_n 3, 1) := by decide +kernel
theorem dX5_say_70 : decode cX5_say 70 = .ok (.istore_n 1, 1) := by decide +kernel
theorem dX5_say_71 : decode cX5_say 71 = .ok (.iinc 3 1, 3) := by decide +kernel
theorem dX5_say_74 : decode cX5_say 74 = .ok (.goto (-67), 3) := by decide +kernel
theorem dX5_say_77 : decode cX5_say 77 = .ok (.iload_n 1, 1) := by decide +kernel
theorem dX5_say_78 : decode cX5_say 78 = .ok (.ireturn, 1) := by decide +kernel
theorem dX5_note_0 : decode cX5_note 0 = .ok (.aload_n 0, 1) := by decide +kernel
theorem dX5_note_1 : decode cX5_note 1 = .ok (.iload_n 1, 1) := by decide +kernel
theorem dX5_note_2 : decode cX5_note 2 = .ok (.invokevirtual 120, 3) := by decide +kernel
theorem dX5_note_5 : decode cX5_note 5 = .ok (.ifCond .eq 70, 3) := by decide +kernel
theorem dX5_note_8 : decode cX5_note 8 = .ok (.iload_n 2, 1) := by decide +kernel
theorem dX5_note_9 : decode cX5_note 9 = .ok (.iconst 0, 1) := by decide +kernel
theorem dX5_note_10 : decode cX5_note 10 = .ok (.bipush 30, 2) := by decide +kernel
theorem dX5_note_12 : decode cX5_note 12 = .ok (.invokestatic 75, 3) := by decide +kernel
theorem dX5_note_15 : decode cX5_note 15 = .ok (.ifCond .eq 60, 3) := by decide +kernel
theorem dX5_note_18 : decode cX5_note 18 = .ok (.iload_n 3, 1) := by decide +kernel
theorem dX5_note_19 : decode cX5_note 19 = .ok (.iconst 0, 1) := by decide +kernel
theorem dX5_note_20 : decode cX5_note 20 = .ok (.iconst 2, 1) := by decide +kernel
theorem dX5_note_21 : decode cX5_note 21 = .ok (.invokestatic 75, 3) := by decide +kernel
theorem dX5_note_24 : decode cX5_note 24 = .ok (.ifCond .eq 51, 3) := by decide +kernel
theorem dX5_note_27 : decode cX5_note 27 = .ok (.iload 4, 2) := by decide +kernel
theorem dX5_note_29 : decode cX5_note 29 = .ok (.iconst 0, 1) := by decide +kernel
theorem dX5_note_30 : decode cX5_note 30 = .ok (.bipush 20, 2) := by decide +kernel
theorem dX5_note_32 : decode cX5_note 32 = .ok (.invokestatic 75, 3) := by decide +kernel
theorem dX5_note_35 : decode cX5_note 35 = .ok (.ifCond .eq 40, 3) := by decide +kernel
theorem dX5_note_38 : decode cX5_note 38 = .ok (.iload 5, 2) := by decide +kernel
theorem dX5_note_40 : decode cX5_note 40 = .ok (.iconst 0, 1) := by decide +kernel
theorem dX5_note_41 : decode cX5_note 41 = .ok (.bipush 9, 2) := by decide +kernel
theorem dX5_note_43 : decode cX5_note 43 = .ok (.invokestatic 75, 3) := by decide +kernel
theorem dX5_note_46 : decode cX5_note 46 = .ok (.ifCond .eq 29, 3) := by decide +kernel
theorem dX5_note_49 : decode cX5_note 49 = .ok (.iload 6, 2) := by decide +kernel
theorem dX5_note_51 : decode cX5_note 51 = .ok (.iconst 0, 1) := by decide +kernel
theorem dX5_note_52 : decode cX5_note 52 = .ok (.bipush 6, 2) := by decide +kernel
theorem dX5_note_54 : decode cX5_note 54 = .ok (.invokestatic 75, 3) := by decide +kernel
theorem dX5_note_57 : decode cX5_note 57 = .ok (.ifCond .eq 18, 3) := by decide +kernel
theorem dX5_note_60 : decode cX5_note 60 = .ok (.iload 7, 2) := by decide +kernel
theorem dX5_note_62 : decode cX5_note 62 = .ok (.iconst 0, 1) := by decide +kernel
theorem dX5_note_63 : decode cX5_note 63 = .ok (.bipush 60, 2) := by decide +kernel
theorem dX5_note_65 : decode cX5_note 65 = .ok (.invokestatic 75, 3) := by decide +kernel
theorem dX5_note_68 : decode cX5_note 68 = .ok (.ifCond .eq 7, 3) := by decide +kernel
theorem dX5_note_71 : decode cX5_note 71 = .ok (.iconst 1, 1) := by decide +kernel
theorem dX5_note_72 : decode cX5_note 72 = .ok (.goto 4, 3) := by decide +kernel
theorem dX5_note_75 : decode cX5_note 75 = .ok (.iconst 0, 1) := by decide +kernel
theorem dX5_note_76 : decode cX5_note 76 = .ok (.istore 8, 2) := by decide +kernel
theorem dX5_note_78 : decode cX5_note 78 = .ok (.iload 8, 2) := by decide +kernel
theorem dX5_note_80 : decode cX5_note 80 = .ok (.ifCond .ne 10, 3) := by decide +kernel
theorem dX5_note_83 : decode cX5_note 83 = .ok (.aload_n 0, 1) := by decide +kernel
theorem dX5_note_84 : decode cX5_note 84 = .ok (.bipush (-2), 2) := by decide +kernel
theorem dX5_note_86 : decode cX5_note 86 = .ok (.invokevirtual 56, 3) := by decide +kernel
theorem dX5_note_89 : decode cX5_note 89 = .ok (.ireturn, 1) := by decide +kernel
theorem dX5_note_90 : decode cX5_note 90 = .ok (.aload_n 0, 1) := by decide +kernel
theorem dX5_note_91 : decode cX5_note 91 = .ok (.getfield 10, 3) := by decide +kernel
theorem dX5_note_94 : decode cX5_note 94 = .ok (.getfield 176, 3) := by decide +kernel
theorem dX5_note_97 : decode cX5_note 97 = .ok (.getfield 180, 3) := by decide +kernel
theorem dX5_note_100 : decode cX5_note 100 = .ok (.bipush 6, 2) := by decide +kernel
theorem dX5_note_102 : decode cX5_note 102 = .ok (.if_icmp .lt 10, 3) := by decide +kernel
theorem dX5_note_105 : decode cX5_note 105 = .ok (.aload_n 0, 1) := by decide +kernel
theorem dX5_note_106 : decode cX5_note 106 = .ok (.bipush (-4), 2) := by decide +kernel
theorem dX5_note_108 : decode cX5_note 108 = .ok (.invokevirtual 56, 3) := by decide +kernel
theorem dX5_note_111 : decode cX5_note 111 = .ok (.ireturn, 1) := by decide +kernel
theorem dX5_note_112 : decode cX5_note 112 = .ok (.aload_n 0, 1) := by decide +kernel
theorem dX5_note_113 : decode cX5_note 113 = .ok (.getfield 10, 3) := by decide +kernel
theorem dX5_note_116 : decode cX5_note 116 = .ok (.getfield 176, 3) := by decide +kernel
theorem dX5_note_119 : decode cX5_note 119 = .ok (.iload_n 1, 1) := by decide +kernel
theorem dX5_note_120 : decode cX5_note 120 = .ok (.iload_n 2, 1) := by decide +kernel
theorem dX5_note_121 : decode cX5_note 121 = .ok (.iload_n 3, 1) := by decide +kernel
theorem dX5_note_122 : decode cX5_note 122 = .ok (.iload 4, 2) := by decide +kernel
theorem dX5_note_124 : decode cX5_note 124 = .ok (.iload 5, 2) := by decide +kernel
theorem dX5_note_126 : decode cX5_note 126 = .ok (.iload 6, 2) := by decide +kernel
theorem dX5_note_128 : decode cX5_note 128 = .ok (.iload 7, 2) := by decide +kernel
theorem dX5_note_130 : decode cX5_note 130 = .ok (.invokevirtual 183, 3) := by decide +kernel
theorem dX5_note_133 : decode cX5_note 133 = .ok (.ireturn, 1) := by decide +kernel
theorem dX5_forget_0 : decode cX5_forget 0 = .ok (.aload_n 0, 1) := by decide +kernel
theorem dX5_forget_1 : decode cX5_forget 1 = .ok (.getfield 10, 3) := by decide +kernel
theorem dX5_forget_4 : decode cX5_forget 4 = .ok (.getfield 176, 3) := by decide +kernel
theorem dX5_forget_7 : decode cX5_forget 7 = .ok (.getfield 180, 3) := by decide +kernel
theorem dX5_forget_10 : decode cX5_forget 10 = .ok (.istore_n 1, 1) := by decide +kernel
theorem dX5_forget_11 : decode cX5_forget 11 = .ok (.aload_n 0, 1) := by decide +kernel
theorem dX5_forget_12 : decode cX5_forget 12 = .ok (.getfield 10, 3) := by decide +kernel
theorem dX5_forget_15 : decode cX5_forget 15 = .ok (.getfield 176, 3) := by decide +kernel
theorem dX5_forget_18 : decode cX5_forget 18 = .ok (.iconst 0, 1) := by decide +kernel
theorem dX5_forget_19 : decode cX5_forget 19 = .ok (.putfield 180, 3) := by decide +kernel
theorem dX5_forget_22 : decode cX5_forget 22 = .ok (.iload_n 1, 1) := by decide +kernel
theorem dX5_forget_23 : decode cX5_forget 23 = .ok (.ireturn, 1) := by decide +kernel
theorem dX5_is_0 : decode cX5_is 0 = .ok (.aload_n 0, 1) := by decide +kernel
theorem dX5_is_1 : decode cX5_is 1 = .ok (.iload_n 1, 1) := by decide +kernel
theorem dX5_is_2 : decode cX5_is 2 = .ok (.invokevirtual 120, 3) := by decide +kernel
theorem dX5_is_5 : decode cX5_is 5 = .ok (.ifCond .eq 17, 3) := by decide +kernel
theorem dX5_is_8 : decode cX5_is 8 = .ok (.aload_n 0, 1) := by decide +kernel
theorem dX5_is_9 : decode cX5_is 9 = .ok (.getfield 10, 3) := by decide +kernel
theorem dX5_is_12 : decode cX5_is 12 = .ok (.getfield 176, 3) := by decide +kernel
theorem dX5_is_15 : decode cX5_is 15 = .ok (.iload_n 1, 1) := by decide +kernel
theorem dX5_is_16 : decode cX5_is 16 = .ok (.invokevirtual 187, 3) := by decide +kernel
theorem dX5_is_19 : decode cX5_is 19 = .ok (.goto 9, 3) := by decide +kernel
theorem dX5_is_22 : decode cX5_is 22 = .ok (.aload_n 0, 1) := by decide +kernel
theorem dX5_is_23 : decode cX5_is 23 = .ok (.bipush (-2), 2) := by decide +kernel
theorem dX5_is_25 : decode cX5_is 25 = .ok (.invokevirtual 56, 3) := by decide +kernel
theorem dX5_is_28 : decode cX5_is 28 = .ok (.ireturn, 1) := by decide +kernel
theorem dX5_look_0 : decode cX5_look 0 = .ok (.aload_n 0, 1) := by decide +kernel
theorem dX5_look_1 : decode cX5_look 1 = .ok (.iload_n 1, 1) := by decide +kernel
theorem dX5_look_2 : decode cX5_look 2 = .ok (.invokevirtual 120, 3) := by decide +kernel
theorem dX5_look_5 : decode cX5_look 5 = .ok (.ifCond .ne 10, 3) := by decide +kernel
theorem dX5_look_8 : decode cX5_look 8 = .ok (.aload_n 0, 1) := by decide +kernel
theorem dX5_look_9 : decode cX5_look 9 = .ok (.bipush (-2), 2) := by decide +kernel
theorem dX5_look_11 : decode cX5_look 11 = .ok (.invokevirtual 56, 3) := by decide +kernel
theorem dX5_look_14 : decode cX5_look 14 = .ok (.ireturn, 1) := by decide +kernel
theorem dX5_look_15 : decode cX5_look 15 = .ok (.aload_n 0, 1) := by decide +kernel
theorem dX5_look_16 : decode cX5_look 16 = .ok (.getfield 10, 3) := by decide +kernel
theorem dX5_look_19 : decode cX5_look 19 = .ok (.getfield 176, 3) := by decide +kernel
theorem dX5_look_22 : decode cX5_look 22 = .ok (.iload_n 1, 1) := by decide +kernel
theorem dX5_look_23 : decode cX5_look 23 = .ok (.invokevirtual 187, 3) := by decide +kernel
theorem dX5_look_26 : decode cX5_look 26 = .ok (.istore_n 2, 1) := by decide +kernel
theorem dX5_look_27 : decode cX5_look 27 = .ok (.iload_n 2, 1) := by decide +kernel
theorem dX5_look_28 : decode cX5_look 28 = .ok (.ifCond .ne 5, 3) := by decide +kernel
theorem dX5_look_31 : decode cX5_look 31 = .ok (.iconst (-1), 1) := by decide +kernel
theorem dX5_look_32 : decode cX5_look 32 = .ok (.ireturn, 1) := by decide +kernel
theorem dX5_look_33 : decode cX5_look 33 = .ok (.iconst (-1), 1) := by decide +kernel
theorem dX5_look_34 : decode cX5_look 34 = .ok (.istore_n 3, 1) := by decide +kernel
theorem dX5_look_35 : decode cX5_look 35 = .ok (.bipush 7, 2) := by decide +kernel
theorem dX5_look_37 : decode cX5_look 37 = .ok (.istore 4, 2) := by decide +kernel
theorem dX5_look_39 : decode cX5_look 39 = .ok (.iconst 0, 1) := by decide +kernel
theorem dX5_look_40 : decode cX5_look 40 = .ok (.istore 5, 2) := by decide +kernel
theorem dX5_look_42 : decode cX5_look 42 = .ok (.iload 5, 2) := by decide +kernel
theorem dX5_look_44 : decode cX5_look 44 = .ok (.iconst 2, 1) := by decide +kernel
theorem dX5_look_45 : decode cX5_look 45 = .ok (.if_icmp .gt 101, 3) := by decide +kernel
theorem dX5_look_48 : decode cX5_look 48 = .ok (.iconst 0, 1) := by decide +kernel
theorem dX5_look_49 : decode cX5_look 49 = .ok (.istore 6, 2) := by decide +kernel
theorem dX5_look_51 : decode cX5_look 51 = .ok (.iload 6, 2) := by decide +kernel
theorem dX5_look_53 : decode cX5_look 53 = .ok (.iconst 2, 1) := by decide +kernel
theorem dX5_look_54 : decode cX5_look 54 = .ok (.if_icmp .gt 86, 3) := by decide +kernel
theorem dX5_look_57 : decode cX5_look 57 = .ok (.iconst 0, 1) := by decide +kernel
theorem dX5_look_58 : decode cX5_look 58 = .ok (.istore 7, 2) := by decide +kernel
theorem dX5_look_60 : decode cX5_look 60 = .ok (.iload 7, 2) := by decide +kernel
theorem dX5_look_62 : decode cX5_look 62 = .ok (.iconst 2, 1) := by decide +kernel
theorem dX5_look_63 : decode cX5_look 63 = .ok (.if_icmp .gt 71, 3) := by decide +kernel
theorem dX5_look_66 : decode cX5_look 66 = .ok (.iload_n 2, 1) := by decide +kernel
theorem dX5_look_67 : decode cX5_look 67 = .ok (.aload_n 0, 1) := by decide +kernel
theorem dX5_look_68 : decode cX5_look 68 = .ok (.getfield 10, 3) := by decide +kernel
theorem dX5_look_71 : decode cX5_look 71 = .ok (.getfield 60, 3) := by decide +kernel
theorem dX5_look_74 : decode cX5_look 74 = .ok (.getfield 190, 3) := by decide +kernel
theorem dX5_look_77 : decode cX5_look 77 = .ok (.iload_n 1, 1) := by decide +kernel
theorem dX5_look_78 : decode cX5_look 78 = .ok (.iaload, 1) := by decide +kernel
theorem dX5_look_79 : decode cX5_look 79 = .ok (.iload 6, 2) := by decide +kernel
theorem dX5_look_81 : decode cX5_look 81 = .ok (.aload_n 0, 1) := by decide +kernel
theorem dX5_look_82 : decode cX5_look 82 = .ok (.getfield 10, 3) := by decide +kernel
theorem dX5_look_85 : decode cX5_look 85 = .ok (.getfield 60, 3) := by decide +kernel
theorem dX5_look_88 : decode cX5_look 88 = .ok (.getfield 173, 3) := by decide +kernel
theorem dX5_look_91 : decode cX5_look 91 = .ok (.iload_n 1, 1) := by decide +kernel
theorem dX5_look_92 : decode cX5_look 92 = .ok (.iaload, 1) := by decide +kernel
theorem dX5_look_93 : decode cX5_look 93 = .ok (.iload 7, 2) := by decide +kernel
theorem dX5_look_95 : decode cX5_look 95 = .ok (.iload 5, 2) := by decide +kernel
theorem dX5_look_97 : decode cX5_look 97 = .ok (.invokestatic 193, 3) := by decide +kernel
theorem dX5_look_100 : decode cX5_look 100 = .ok (.istore 8, 2) := by decide +kernel
theorem dX5_look_102 : decode cX5_look 102 = .ok (.iload 8, 2) := by decide +kernel
theorem dX5_look_104 : decode cX5_look 104 = .ok (.iload 4, 2) := by decide +kernel
theorem dX5_look_106 : decode cX5_look 106 = .ok (.if_icmp .ge 22, 3) := by decide +kernel
theorem dX5_look_109 : decode cX5_look 109 = .ok (.iload 8, 2) := by decide +kernel
theorem dX5_look_111 : decode cX5_look 111 = .ok (.istore 4, 2) := by decide +kernel
theorem dX5_look_113 : decode cX5_look 113 = .ok (.bipush 100, 2) := by decide +kernel
theorem dX5_look_115 : decode cX5_look 115 = .ok (.iload 5, 2) := by decide +kernel
theorem dX5_look_117 : decode cX5_look 117 = .ok (.imul, 1) := by decide +kernel
theorem dX5_look_118 : decode cX5_look 118 = .ok (.bipush 10, 2) := by decide +kernel
theorem dX5_look_120 : decode cX5_look 120 = .ok (.iload 6, 2) := by decide +kernel
theorem dX5_look_122 : decode cX5_look 122 = .ok (.imul, 1) := by decide +kernel
theorem dX5_look_123 : decode cX5_look 123 = .ok (.iadd, 1) := by decide +kernel
theorem dX5_look_124 : decode cX5_look 124 = .ok (.iload 7, 2) := by decide +kernel
theorem dX5_look_126 : decode cX5_look 126 = .ok (.iadd, 1) := by decide +kernel
theorem dX5_look_127 : decode cX5_look 127 = .ok (.istore_n 3, 1) := by decide +kernel
theorem dX5_look_128 : decode cX5_look 128 = .ok (.iinc 7 1, 3) := by decide +kernel
theorem dX5_look_131 : decode cX5_look 131 = .ok (.goto (-71), 3) := by decide +kernel
theorem dX5_look_134 : decode cX5_look 134 = .ok (.iinc 6 1, 3) := by decide +kernel
theorem dX5_look_137 : decode cX5_look 137 = .ok (.goto (-86), 3) := by decide +kernel
theorem dX5_look_140 : decode cX5_look 140 = .ok (.iinc 5 1, 3) := by decide +kernel
theorem dX5_look_143 : decode cX5_look 143 = .ok (.goto (-101), 3) := by decide +kernel
theorem dX5_look_146 : decode cX5_look 146 = .ok (.iload_n 3, 1) := by decide +kernel
theorem dX5_look_147 : decode cX5_look 147 = .ok (.ireturn, 1) := by decide +kernel
theorem dX5_who_0 : decode cX5_who 0 = .ok (.aload_n 0, 1) := by decide +kernel
theorem dX5_who_1 : decode cX5_who 1 = .ok (.iload_n 1, 1) := by decide +kernel
theorem dX5_who_2 : decode cX5_who 2 = .ok (.invokevirtual 120, 3) := by decide +kernel
theorem dX5_who_5 : decode cX5_who 5 = .ok (.ifCond .ne 10, 3) := by decide +kernel
theorem dX5_who_8 : decode cX5_who 8 = .ok (.aload_n 0, 1) := by decide +kernel
theorem dX5_who_9 : decode cX5_who 9 = .ok (.bipush (-2), 2) := by decide +kernel
theorem dX5_who_11 : decode cX5_who 11 = .ok (.invokevirtual 56, 3) := by decide +kernel
theorem dX5_who_14 : decode cX5_who 14 = .ok (.ireturn, 1) := by decide +kernel
theorem dX5_who_15 : decode cX5_who 15 = .ok (.iconst 0, 1) := by decide +kernel
theorem dX5_who_16 : decode cX5_who 16 = .ok (.istore_n 2, 1) := by decide +kernel
theorem dX5_who_17 : decode cX5_who 17 = .ok (.iconst 0, 1) := by decide +kernel
theorem dX5_who_18 : decode cX5_who 18 = .ok (.istore_n 3, 1) := by decide +kernel
theorem dX5_who_19 : decode cX5_who 19 = .ok (.iload_n 3, 1) := by decide +kernel
theorem dX5_who_20 : decode cX5_who 20 = .ok (.aload_n 0, 1) := by decide +kernel
theorem dX5_who_21 : decode cX5_who 21 = .ok (.getfield 10, 3) := by decide +kernel
theorem dX5_who_24 : decode cX5_who 24 = .ok (.getfield 60, 3) := by decide +kernel
theorem dX5_who_27 : decode cX5_who 27 = .ok (.getfield 63, 3) := by decide +kernel
theorem dX5_who_30 : decode cX5_who 30 = .ok (.if_icmp .ge 30, 3) := by decide +kernel
theorem dX5_who_33 : decode cX5_who 33 = .ok (.aload_n 0, 1) := by decide +kernel
theorem dX5_who_34 : decode cX5_who 34 = .ok (.getfield 10, 3) := by decide +kernel
theorem dX5_who_37 : decode cX5_who 37 = .ok (.getfield 60, 3) := by decide +kernel
theorem dX5_who_40 : decode cX5_who 40 = .ok (.iload_n 3, 1) := by decide +kernel
theorem dX5_who_41 : decode cX5_who 41 = .ok (.invokevirtual 147, 3) := by decide +kernel
theorem dX5_who_44 : decode cX5_who 44 = .ok (.iload_n 1, 1) := by decide +kernel
theorem dX5_who_45 : decode cX5_who 45 = .ok (.if_icmp .ne 9, 3) := by decide +kernel
theorem dX5_who_48 : decode cX5_who 48 = .ok (.iload_n 2, 1) := by decide +kernel
theorem dX5_who_49 : decode cX5_who 49 = .ok (.iconst 1, 1) := by decide +kernel
theorem dX5_who_50 : decode cX5_who 50 = .ok (.iload_n 3, 1) := by decide +kernel
theorem dX5_who_51 : decode cX5_who 51 = .ok (.ishl, 1) := by decide +kernel
theorem dX5_who_52 : decode cX5_who 52 = .ok (.ior, 1) := by decide +kernel
theorem dX5_who_53 : decode cX5_who 53 = .ok (.istore_n 2, 1) := by decide +kernel
theorem dX5_who_54 : decode cX5_who 54 = .ok (.iinc 3 1, 3) := by decide +kernel
theorem dX5_who_57 : decode cX5_who 57 = .ok (.goto (-38), 3) := by decide +kernel
theorem dX5_who_60 : decode cX5_who 60 = .ok (.iload_n 2, 1) := by decide +kernel
theorem dX5_who_61 : decode cX5_who 61 = .ok (.ireturn, 1) := by decide +kernel
theorem dX5_rings_0 : decode cX5_rings 0 = .ok (.aload_n 0, 1) := by decide +kernel
theorem dX5_rings_1 : decode cX5_rings 1 = .ok (.iload_n 1, 1) := by decide +kernel
theorem dX5_rings_2 : decode cX5_rings 2 = .ok (.invokevirtual 120, 3) := by decide +kernel
theorem dX5_rings_5 : decode cX5_rings 5 = .ok (.ifCond .eq 16, 3) := by decide +kernel
theorem dX5_rings_8 : decode cX5_rings 8 = .ok (.aload_n 0, 1) := by decide +kernel
theorem dX5_rings_9 : decode cX5_rings 9 = .ok (.iload_n 2, 1) := by decide +kernel
theorem dX5_rings_10 : decode cX5_rings 10 = .ok (.invokevirtual 120, 3) := by decide +kernel
theorem dX5_rings_13 : decode cX5_rings 13 = .ok (.ifCond .eq 8, 3) := by decide +kernel
theorem dX5_rings_16 : decode cX5_rings 16 = .ok (.iload_n 1, 1) := by decide +kernel
theorem dX5_rings_17 : decode cX5_rings 17 = .ok (.iload_n 2, 1) := by decide +kernel
theorem dX5_rings_18 : decode cX5_rings 18 = .ok (.if_icmp .ne 10, 3) := by decide +kernel
theorem dX5_rings_21 : decode cX5_rings 21 = .ok (.aload_n 0, 1) := by decide +kernel
theorem dX5_rings_22 : decode cX5_rings 22 = .ok (.bipush (-2), 2) := by decide +kernel
theorem dX5_rings_24 : decode cX5_rings 24 = .ok (.invokevirtual 56, 3) := by decide +kernel
theorem dX5_rings_27 : decode cX5_rings 27 = .ok (.ireturn, 1) := by decide +kernel
theorem dX5_rings_28 : decode cX5_rings 28 = .ok (.iconst 0, 1) := by decide +kernel
theorem dX5_rings_29 : decode cX5_rings 29 = .ok (.istore_n 3, 1) := by decide +kernel
theorem dX5_rings_30 : decode cX5_rings 30 = .ok (.iconst 0, 1) := by decide +kernel
theorem dX5_rings_31 : decode cX5_rings 31 = .ok (.istore 4, 2) := by decide +kernel
theorem dX5_rings_33 : decode cX5_rings 33 = .ok (.iload 4, 2) := by decide +kernel
theorem dX5_rings_35 : decode cX5_rings 35 = .ok (.iconst 4, 1) := by decide +kernel
theorem dX5_rings_36 : decode cX5_rings 36 = .ok (.if_icmp .ge 86, 3) := by decide +kernel
theorem dX5_rings_39 : decode cX5_rings 39 = .ok (.aload_n 0, 1) := by decide +kernel
theorem dX5_rings_40 : decode cX5_rings 40 = .ok (.iload_n 1, 1) := by decide +kernel
theorem dX5_rings_41 : decode cX5_rings 41 = .ok (.iload 4, 2) := by decide +kernel
theorem dX5_rings_43 : decode cX5_rings 43 = .ok (.iload_n 1, 1) := by decide +kernel
theorem dX5_rings_44 : decode cX5_rings 44 = .ok (.iload_n 2, 1) := by decide +kernel
theorem dX5_rings_45 : decode cX5_rings 45 = .ok (.invokevirtual 197, 3) := by decide +kernel
theorem dX5_rings_48 : decode cX5_rings 48 = .ok (.aload_n 0, 1) := by decide +kernel
theorem dX5_rings_49 : decode cX5_rings 49 = .ok (.iload_n 1, 1) := by decide +kernel
theorem dX5_rings_50 : decode cX5_rings 50 = .ok (.iload 4, 2) := by decide +kernel
theorem dX5_rings_52 : decode cX5_rings 52 = .ok (.iconst 1, 1) := by decide +kernel
theorem dX5_rings_53 : decode cX5_rings 53 = .ok (.ixor, 1) := by decide +kernel
theorem dX5_rings_54 : decode cX5_rings 54 = .ok (.iload_n 1, 1) := by decide +kernel
theorem dX5_rings_55 : decode cX5_rings 55 = .ok (.iload_n 2, 1) := by decide +kernel
theorem dX5_rings_56 : decode cX5_rings 56 = .ok (.invokevirtual 197, 3) := by decide +kernel
theorem dX5_rings_59 : decode cX5_rings 59 = .ok (.if_icmp .lt 7, 3) := by decide +kernel
theorem dX5_rings_62 : decode cX5_rings 62 = .ok (.iconst 1, 1) := by decide +kernel
theorem dX5_rings_63 : decode cX5_rings 63 = .ok (.goto 4, 3) := by decide +kernel
theorem dX5_rings_66 : decode cX5_rings 66 = .ok (.iconst 0, 1) := by decide +kernel
theorem dX5_rings_67 : decode cX5_rings 67 = .ok (.istore 5, 2) := by decide +kernel
theorem dX5_rings_69 : decode cX5_rings 69 = .ok (.aload_n 0, 1) := by decide +kernel
theorem dX5_rings_70 : decode cX5_rings 70 = .ok (.iload_n 2, 1) := by decide +kernel
theorem dX5_rings_71 : decode cX5_rings 71 = .ok (.iload 4, 2) := by decide +kernel
theorem dX5_rings_73 : decode cX5_rings 73 = .ok (.iload_n 1, 1) := by decide +kernel
theorem dX5_rings_74 : decode cX5_rings 74 = .ok (.iload_n 2, 1) := by decide +kernel
theorem dX5_rings_75 : decode cX5_rings 75 = .ok (.invokevirtual 197, 3) := by decide +kernel
theorem dX5_rings_78 : decode cX5_rings 78 = .ok (.aload_n 0, 1) := by decide +kernel
theorem dX5_rings_79 : decode cX5_rings 79 = .ok (.iload_n 2, 1) := by decide +kernel
theorem dX5_rings_80 : decode cX5_rings 80 = .ok (.iload 4, 2) := by decide +kernel
theorem dX5_rings_82 : decode cX5_rings 82 = .ok (.iconst 2, 1) := by decide +kernel
theorem dX5_rings_83 : decode cX5_rings 83 = .ok (.ixor, 1) := by decide +kernel
theorem dX5_rings_84 : decode cX5_rings 84 = .ok (.iload_n 1, 1) := by decide +kernel
theorem dX5_rings_85 : decode cX5_rings 85 = .ok (.iload_n 2, 1) := by decide +kernel
theorem dX5_rings_86 : decode cX5_rings 86 = .ok (.invokevirtual 197, 3) := by decide +kernel
theorem dX5_rings_89 : decode cX5_rings 89 = .ok (.if_icmp .lt 7, 3) := by decide +kernel
theorem dX5_rings_92 : decode cX5_rings 92 = .ok (.iconst 1, 1) := by decide +kernel
theorem dX5_rings_93 : decode cX5_rings 93 = .ok (.goto 4, 3) := by decide +kernel
theorem dX5_rings_96 : decode cX5_rings 96 = .ok (.iconst 0, 1) := by decide +kernel
theorem dX5_rings_97 : decode cX5_rings 97 = .ok (.istore 6, 2) := by decide +kernel
theorem dX5_rings_99 : decode cX5_rings 99 = .ok (.iload 5, 2) := by decide +kernel
theorem dX5_rings_101 : decode cX5_rings 101 = .ok (.ifCond .eq 15, 3) := by decide +kernel
theorem dX5_rings_104 : decode cX5_rings 104 = .ok (.iload 6, 2) := by decide +kernel
theorem dX5_rings_106 : decode cX5_rings 106 = .ok (.ifCond .eq 10, 3) := by decide +kernel
theorem dX5_rings_109 : decode cX5_rings 109 = .ok (.iload_n 3, 1) := by decide +kernel
theorem dX5_rings_110 : decode cX5_rings 110 = .ok (.iconst 1, 1) := by decide +kernel
theorem dX5_rings_111 : decode cX5_rings 111 = .ok (.iload 4, 2) := by decide +kernel
theorem dX5_rings_113 : decode cX5_rings 113 = .ok (.ishl, 1) := by decide +kernel
theorem dX5_rings_114 : decode cX5_rings 114 = .ok (.ior, 1) := by decide +kernel
theorem dX5_rings_115 : decode cX5_rings 115 = .ok (.istore_n 3, 1) := by decide +kernel
theorem dX5_rings_116 : decode cX5_rings 116 = .ok (.iinc 4 1, 3) := by decide +kernel
theorem dX5_rings_119 : decode cX5_rings 119 = .ok (.goto (-86), 3) := by decide +kernel
theorem dX5_rings_122 : decode cX5_rings 122 = .ok (.iload_n 3, 1) := by decide +kernel
theorem dX5_rings_123 : decode cX5_rings 123 = .ok (.ireturn, 1) := by decide +kernel
theorem dX5_eyes_0 : decode cX5_eyes 0 = .ok (.iload_n 1, 1) := by decide +kernel
theorem dX5_eyes_1 : decode cX5_eyes 1 = .ok (.iconst 0, 1) := by decide +kernel
theorem dX5_eyes_2 : decode cX5_eyes 2 = .ok (.bipush 10, 2) := by decide +kernel
theorem dX5_eyes_4 : decode cX5_eyes 4 = .ok (.invokestatic 75, 3) := by decide +kernel
theorem dX5_eyes_7 : decode cX5_eyes 7 = .ok (.ifCond .ne 10, 3) := by decide +kernel

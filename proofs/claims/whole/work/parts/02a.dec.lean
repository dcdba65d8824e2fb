theorem dX0_init_0 : decode cX0_init 0 = .ok (.aload_n 0, 1) := by decide +kernel
theorem dX0_init_1 : decode cX0_init 1 = .ok (.invokespecial 3, 3) := by decide +kernel
theorem dX0_init_4 : decode cX0_init 4 = .ok (.aload_n 0, 1) := by decide +kernel
theorem dX0_init_5 : decode cX0_init 5 = .ok (.bipush 42, 2) := by decide +kernel
theorem dX0_init_7 : decode cX0_init 7 = .ok (.newarray .int, 2) := by decide +kernel
theorem dX0_init_9 : decode cX0_init 9 = .ok (.putfield 9, 3) := by decide +kernel
theorem dX0_init_12 : decode cX0_init 12 = .ok (.return_, 1) := by decide +kernel
theorem dX0_add_0 : decode cX0_add 0 = .ok (.aload_n 0, 1) := by decide +kernel
theorem dX0_add_1 : decode cX0_add 1 = .ok (.getfield 15, 3) := by decide +kernel
theorem dX0_add_4 : decode cX0_add 4 = .ok (.bipush 6, 2) := by decide +kernel
theorem dX0_add_6 : decode cX0_add 6 = .ok (.if_icmp .ge 95, 3) := by decide +kernel
theorem dX0_add_9 : decode cX0_add 9 = .ok (.aload_n 0, 1) := by decide +kernel
theorem dX0_add_10 : decode cX0_add 10 = .ok (.getfield 15, 3) := by decide +kernel
theorem dX0_add_13 : decode cX0_add 13 = .ok (.bipush 7, 2) := by decide +kernel
theorem dX0_add_15 : decode cX0_add 15 = .ok (.imul, 1) := by decide +kernel
theorem dX0_add_16 : decode cX0_add 16 = .ok (.istore 8, 2) := by decide +kernel
theorem dX0_add_18 : decode cX0_add 18 = .ok (.aload_n 0, 1) := by decide +kernel
theorem dX0_add_19 : decode cX0_add 19 = .ok (.getfield 9, 3) := by decide +kernel
theorem dX0_add_22 : decode cX0_add 22 = .ok (.iload 8, 2) := by decide +kernel
theorem dX0_add_24 : decode cX0_add 24 = .ok (.iload_n 1, 1) := by decide +kernel
theorem dX0_add_25 : decode cX0_add 25 = .ok (.iastore, 1) := by decide +kernel
theorem dX0_add_26 : decode cX0_add 26 = .ok (.aload_n 0, 1) := by decide +kernel
theorem dX0_add_27 : decode cX0_add 27 = .ok (.getfield 9, 3) := by decide +kernel
theorem dX0_add_30 : decode cX0_add 30 = .ok (.iload 8, 2) := by decide +kernel
theorem dX0_add_32 : decode cX0_add 32 = .ok (.iconst 1, 1) := by decide +kernel
theorem dX0_add_33 : decode cX0_add 33 = .ok (.iadd, 1) := by decide +kernel
theorem dX0_add_34 : decode cX0_add 34 = .ok (.iload_n 2, 1) := by decide +kernel
theorem dX0_add_35 : decode cX0_add 35 = .ok (.iastore, 1) := by decide +kernel
theorem dX0_add_36 : decode cX0_add 36 = .ok (.aload_n 0, 1) := by decide +kernel
theorem dX0_add_37 : decode cX0_add 37 = .ok (.getfield 9, 3) := by decide +kernel
theorem dX0_add_40 : decode cX0_add 40 = .ok (.iload 8, 2) := by decide +kernel
theorem dX0_add_42 : decode cX0_add 42 = .ok (.iconst 2, 1) := by decide +kernel
theorem dX0_add_43 : decode cX0_add 43 = .ok (.iadd, 1) := by decide +kernel
theorem dX0_add_44 : decode cX0_add 44 = .ok (.iload_n 3, 1) := by decide +kernel
theorem dX0_add_45 : decode cX0_add 45 = .ok (.iastore, 1) := by decide +kernel
theorem dX0_add_46 : decode cX0_add 46 = .ok (.aload_n 0, 1) := by decide +kernel
theorem dX0_add_47 : decode cX0_add 47 = .ok (.getfield 9, 3) := by decide +kernel
theorem dX0_add_50 : decode cX0_add 50 = .ok (.iload 8, 2) := by decide +kernel
theorem dX0_add_52 : decode cX0_add 52 = .ok (.iconst 3, 1) := by decide +kernel
theorem dX0_add_53 : decode cX0_add 53 = .ok (.iadd, 1) := by decide +kernel
theorem dX0_add_54 : decode cX0_add 54 = .ok (.iload 4, 2) := by decide +kernel
theorem dX0_add_56 : decode cX0_add 56 = .ok (.iastore, 1) := by decide +kernel
theorem dX0_add_57 : decode cX0_add 57 = .ok (.aload_n 0, 1) := by decide +kernel
theorem dX0_add_58 : decode cX0_add 58 = .ok (.getfield 9, 3) := by decide +kernel
theorem dX0_add_61 : decode cX0_add 61 = .ok (.iload 8, 2) := by decide +kernel
theorem dX0_add_63 : decode cX0_add 63 = .ok (.iconst 4, 1) := by decide +kernel
theorem dX0_add_64 : decode cX0_add 64 = .ok (.iadd, 1) := by decide +kernel
theorem dX0_add_65 : decode cX0_add 65 = .ok (.iload 5, 2) := by decide +kernel
theorem dX0_add_67 : decode cX0_add 67 = .ok (.iastore, 1) := by decide +kernel
theorem dX0_add_68 : decode cX0_add 68 = .ok (.aload_n 0, 1) := by decide +kernel
theorem dX0_add_69 : decode cX0_add 69 = .ok (.getfield 9, 3) := by decide +kernel
theorem dX0_add_72 : decode cX0_add 72 = .ok (.iload 8, 2) := by decide +kernel
theorem dX0_add_74 : decode cX0_add 74 = .ok (.iconst 5, 1) := by decide +kernel
theorem dX0_add_75 : decode cX0_add 75 = .ok (.iadd, 1) := by decide +kernel
theorem dX0_add_76 : decode cX0_add 76 = .ok (.iload 6, 2) := by decide +kernel
theorem dX0_add_78 : decode cX0_add 78 = .ok (.iastore, 1) := by decide +kernel
theorem dX0_add_79 : decode cX0_add 79 = .ok (.aload_n 0, 1) := by decide +kernel
theorem dX0_add_80 : decode cX0_add 80 = .ok (.getfield 9, 3) := by decide +kernel
theorem dX0_add_83 : decode cX0_add 83 = .ok (.iload 8, 2) := by decide +kernel
theorem dX0_add_85 : decode cX0_add 85 = .ok (.bipush 6, 2) := by decide +kernel
theorem dX0_add_87 : decode cX0_add 87 = .ok (.iadd, 1) := by decide +kernel
theorem dX0_add_88 : decode cX0_add 88 = .ok (.iload 7, 2) := by decide +kernel
theorem dX0_add_90 : decode cX0_add 90 = .ok (.iastore, 1) := by decide +kernel
theorem dX0_add_91 : decode cX0_add 91 = .ok (.aload_n 0, 1) := by decide +kernel
theorem dX0_add_92 : decode cX0_add 92 = .ok (.dup, 1) := by decide +kernel
theorem dX0_add_93 : decode cX0_add 93 = .ok (.getfield 15, 3) := by decide +kernel
theorem dX0_add_96 : decode cX0_add 96 = .ok (.iconst 1, 1) := by decide +kernel
theorem dX0_add_97 : decode cX0_add 97 = .ok (.iadd, 1) := by decide +kernel
theorem dX0_add_98 : decode cX0_add 98 = .ok (.putfield 15, 3) := by decide +kernel
theorem dX0_add_101 : decode cX0_add 101 = .ok (.aload_n 0, 1) := by decide +kernel
theorem dX0_add_102 : decode cX0_add 102 = .ok (.getfield 15, 3) := by decide +kernel
theorem dX0_add_105 : decode cX0_add 105 = .ok (.ireturn, 1) := by decide +kernel
theorem dX0_kindsOf_0 : decode cX0_kindsOf 0 = .ok (.bipush 63, 2) := by decide +kernel
theorem dX0_kindsOf_2 : decode cX0_kindsOf 2 = .ok (.istore_n 2, 1) := by decide +kernel
theorem dX0_kindsOf_3 : decode cX0_kindsOf 3 = .ok (.iconst 0, 1) := by decide +kernel
theorem dX0_kindsOf_4 : decode cX0_kindsOf 4 = .ok (.istore_n 3, 1) := by decide +kernel
theorem dX0_kindsOf_5 : decode cX0_kindsOf 5 = .ok (.iload_n 3, 1) := by decide +kernel
theorem dX0_kindsOf_6 : decode cX0_kindsOf 6 = .ok (.aload_n 0, 1) := by decide +kernel
theorem dX0_kindsOf_7 : decode cX0_kindsOf 7 = .ok (.getfield 15, 3) := by decide +kernel
theorem dX0_kindsOf_10 : decode cX0_kindsOf 10 = .ok (.if_icmp .ge 87, 3) := by decide +kernel
theorem dX0_kindsOf_13 : decode cX0_kindsOf 13 = .ok (.iload_n 3, 1) := by decide +kernel
theorem dX0_kindsOf_14 : decode cX0_kindsOf 14 = .ok (.bipush 7, 2) := by decide +kernel
theorem dX0_kindsOf_16 : decode cX0_kindsOf 16 = .ok (.imul, 1) := by decide +kernel
theorem dX0_kindsOf_17 : decode cX0_kindsOf 17 = .ok (.istore 4, 2) := by decide +kernel
theorem dX0_kindsOf_19 : decode cX0_kindsOf 19 = .ok (.aload_n 0, 1) := by decide +kernel
theorem dX0_kindsOf_20 : decode cX0_kindsOf 20 = .ok (.getfield 9, 3) := by decide +kernel
theorem dX0_kindsOf_23 : decode cX0_kindsOf 23 = .ok (.iload 4, 2) := by decide +kernel
theorem dX0_kindsOf_25 : decode cX0_kindsOf 25 = .ok (.iaload, 1) := by decide +kernel
theorem dX0_kindsOf_26 : decode cX0_kindsOf 26 = .ok (.iload_n 1, 1) := by decide +kernel
theorem dX0_kindsOf_27 : decode cX0_kindsOf 27 = .ok (.if_icmp .ne 64, 3) := by decide +kernel
theorem dX0_kindsOf_30 : decode cX0_kindsOf 30 = .ok (.iload_n 2, 1) := by decide +kernel
theorem dX0_kindsOf_31 : decode cX0_kindsOf 31 = .ok (.aload_n 0, 1) := by decide +kernel
theorem dX0_kindsOf_32 : decode cX0_kindsOf 32 = .ok (.getfield 9, 3) := by decide +kernel
theorem dX0_kindsOf_35 : decode cX0_kindsOf 35 = .ok (.iload 4, 2) := by decide +kernel
theorem dX0_kindsOf_37 : decode cX0_kindsOf 37 = .ok (.bipush 6, 2) := by decide +kernel
theorem dX0_kindsOf_39 : decode cX0_kindsOf 39 = .ok (.iadd, 1) := by decide +kernel
theorem dX0_kindsOf_40 : decode cX0_kindsOf 40 = .ok (.iaload, 1) := by decide +kernel
theorem dX0_kindsOf_41 : decode cX0_kindsOf 41 = .ok (.aload_n 0, 1) := by decide +kernel
theorem dX0_kindsOf_42 : decode cX0_kindsOf 42 = .ok (.getfield 9, 3) := by decide +kernel
theorem dX0_kindsOf_45 : decode cX0_kindsOf 45 = .ok (.iload 4, 2) := by decide +kernel
theorem dX0_kindsOf_47 : decode cX0_kindsOf 47 = .ok (.iconst 1, 1) := by decide +kernel
theorem dX0_kindsOf_48 : decode cX0_kindsOf 48 = .ok (.iadd, 1) := by decide +kernel
theorem dX0_kindsOf_49 : decode cX0_kindsOf 49 = .ok (.iaload, 1) := by decide +kernel
theorem dX0_kindsOf_50 : decode cX0_kindsOf 50 = .ok (.aload_n 0, 1) := by decide +kernel
theorem dX0_kindsOf_51 : decode cX0_kindsOf 51 = .ok (.getfield 9, 3) := by decide +kernel
theorem dX0_kindsOf_54 : decode cX0_kindsOf 54 = .ok (.iload 4, 2) := by decide +kernel
theorem dX0_kindsOf_56 : decode cX0_kindsOf 56 = .ok (.iconst 2, 1) := by decide +kernel
theorem dX0_kindsOf_57 : decode cX0_kindsOf 57 = .ok (.iadd, 1) := by decide +kernel
theorem dX0_kindsOf_58 : decode cX0_kindsOf 58 = .ok (.iaload, 1) := by decide +kernel
theorem dX0_kindsOf_59 : decode cX0_kindsOf 59 = .ok (.aload_n 0, 1) := by decide +kernel
theorem dX0_kindsOf_60 : decode cX0_kindsOf 60 = .ok (.getfield 9, 3) := by decide +kernel
theorem dX0_kindsOf_63 : decode cX0_kindsOf 63 = .ok (.iload 4, 2) := by decide +kernel
theorem dX0_kindsOf_65 : decode cX0_kindsOf 65 = .ok (.iconst 3, 1) := by decide +kernel
theorem dX0_kindsOf_66 : decode cX0_kindsOf 66 = .ok (.iadd, 1) := by decide +kernel
theorem dX0_kindsOf_67 : decode cX0_kindsOf 67 = .ok (.iaload, 1) := by decide +kernel
theorem dX0_kindsOf_68 : decode cX0_kindsOf 68 = .ok (.aload_n 0, 1) := by decide +kernel
theorem dX0_kindsOf_69 : decode cX0_kindsOf 69 = .ok (.getfield 9, 3) := by decide +kernel
theorem dX0_kindsOf_72 : decode cX0_kindsOf 72 = .ok (.iload 4, 2) := by decide +kernel
theorem dX0_kindsOf_74 : decode cX0_kindsOf 74 = .ok (.iconst 4, 1) := by decide +kernel
theorem dX0_kindsOf_75 : decode cX0_kindsOf 75 = .ok (.iadd, 1) := by decide +kernel
theorem dX0_kindsOf_76 : decode cX0_kindsOf 76 = .ok (.iaload, 1) := by decide +kernel
theorem dX0_kindsOf_77 : decode cX0_kindsOf 77 = .ok (.aload_n 0, 1) := by decide +kernel
theorem dX0_kindsOf_78 : decode cX0_kindsOf 78 = .ok (.getfield 9, 3) := by decide +kernel
theorem dX0_kindsOf_81 : decode cX0_kindsOf 81 = .ok (.iload 4, 2) := by decide +kernel
theorem dX0_kindsOf_83 : decode cX0_kindsOf 83 = .ok (.iconst 5, 1) := by decide +kernel
theorem dX0_kindsOf_84 : decode cX0_kindsOf 84 = .ok (.iadd, 1) := by decide +kernel
theorem dX0_kindsOf_85 : decode cX0_kindsOf 85 = .ok (.iaload, 1) := by decide +kernel
theorem dX0_kindsOf_86 : decode cX0_kindsOf 86 = .ok (.invokestatic 19, 3) := by decide +kernel
theorem dX0_kindsOf_89 : decode cX0_kindsOf 89 = .ok (.iand, 1) := by decide +kernel
theorem dX0_kindsOf_90 : decode cX0_kindsOf 90 = .ok (.istore_n 2, 1) := by decide +kernel
theorem dX0_kindsOf_91 : decode cX0_kindsOf 91 = .ok (.iinc 3 1, 3) := by decide +kernel
theorem dX0_kindsOf_94 : decode cX0_kindsOf 94 = .ok (.goto (-89), 3) := by decide +kernel
theorem dX0_kindsOf_97 : decode cX0_kindsOf 97 = .ok (.iload_n 2, 1) := by decide +kernel
theorem dX0_kindsOf_98 : decode cX0_kindsOf 98 = .ok (.ireturn, 1) := by decide +kernel
theorem dX0_copyFrom_0 : decode cX0_copyFrom 0 = .ok (.aload_n 0, 1) := by decide +kernel
theorem dX0_copyFrom_1 : decode cX0_copyFrom 1 = .ok (.aload_n 1, 1) := by decide +kernel
theorem dX0_copyFrom_2 : decode cX0_copyFrom 2 = .ok (.getfield 15, 3) := by decide +kernel
theorem dX0_copyFrom_5 : decode cX0_copyFrom 5 = .ok (.putfield 15, 3) := by decide +kernel
theorem dX0_copyFrom_8 : decode cX0_copyFrom 8 = .ok (.aload_n 1, 1) := by decide +kernel
theorem dX0_copyFrom_9 : decode cX0_copyFrom 9 = .ok (.getfield 9, 3) := by decide +kernel
theorem dX0_copyFrom_12 : decode cX0_copyFrom 12 = .ok (.iconst 0, 1) := by decide +kernel
theorem dX0_copyFrom_13 : decode cX0_copyFrom 13 = .ok (.aload_n 0, 1) := by decide +kernel
theorem dX0_copyFrom_14 : decode cX0_copyFrom 14 = .ok (.getfield 9, 3) := by decide +kernel
theorem dX0_copyFrom_17 : decode cX0_copyFrom 17 = .ok (.iconst 0, 1) := by decide +kernel
theorem dX0_copyFrom_18 : decode cX0_copyFrom 18 = .ok (.aload_n 0, 1) := by decide +kernel
theorem dX0_copyFrom_19 : decode cX0_copyFrom 19 = .ok (.getfield 9, 3) := by decide +kernel
theorem dX0_copyFrom_22 : decode cX0_copyFrom 22 = .ok (.arraylength, 1) := by decide +kernel
theorem dX0_copyFrom_23 : decode cX0_copyFrom 23 = .ok (.invokestatic 23, 3) := by decide +kernel
theorem dX0_copyFrom_26 : decode cX0_copyFrom 26 = .ok (.return_, 1) := by decide +kernel
theorem dX1_init_0 : decode cX1_init 0 = .ok (.aload_n 0, 1) := by decide +kernel
theorem dX1_init_1 : decode cX1_init 1 = .ok (.invokespecial 3, 3) := by decide +kernel
theorem dX1_init_4 : decode cX1_init 4 = .ok (.aload_n 0, 1) := by decide +kernel
theorem dX1_init_5 : decode cX1_init 5 = .ok (.bipush 8, 2) := by decide +kernel
theorem dX1_init_7 : decode cX1_init 7 = .ok (.anewarray 9, 3) := by decide +kernel
theorem dX1_init_10 : decode cX1_init 10 = .ok (.putfield 11, 3) := by decide +kernel
theorem dX1_init_13 : decode cX1_init 13 = .ok (.iconst 0, 1) := by decide +kernel
theorem dX1_init_14 : decode cX1_init 14 = .ok (.istore_n 1, 1) := by decide +kernel
theorem dX1_init_15 : decode cX1_init 15 = .ok (.iload_n 1, 1) := by decide +kernel
theorem dX1_init_16 : decode cX1_init 16 = .ok (.bipush 8, 2) := by decide +kernel
theorem dX1_init_18 : decode cX1_init 18 = .ok (.if_icmp .ge 22, 3) := by decide +kernel
theorem dX1_init_21 : decode cX1_init 21 = .ok (.aload_n 0, 1) := by decide +kernel
theorem dX1_init_22 : decode cX1_init 22 = .ok (.getfield 11, 3) := by decide +kernel
theorem dX1_init_25 : decode cX1_init 25 = .ok (.iload_n 1, 1) := by decide +kernel
theorem dX1_init_26 : decode cX1_init 26 = .ok (.new 9, 3) := by decide +kernel
theorem dX1_init_29 : decode cX1_init 29 = .ok (.dup, 1) := by decide +kernel
theorem dX1_init_30 : decode cX1_init 30 = .ok (.invokespecial 17, 3) := by decide +kernel
theorem dX1_init_33 : decode cX1_init 33 = .ok (.aastore, 1) := by decide +kernel
theorem dX1_init_34 : decode cX1_init 34 = .ok (.iinc 1 1, 3) := by decide +kernel
theorem dX1_init_37 : decode cX1_init 37 = .ok (.goto (-22), 3) := by decide +kernel
theorem dX1_init_40 : decode cX1_init 40 = .ok (.return_, 1) := by decide +kernel
theorem dX1_empty_0 : decode cX1_empty 0 = .ok (.aload_n 0, 1) := by decide +kernel
theorem dX1_empty_1 : decode cX1_empty 1 = .ok (.iconst 0, 1) := by decide +kernel
theorem dX1_empty_2 : decode cX1_empty 2 = .ok (.putfield 18, 3) := by decide +kernel
theorem dX1_empty_5 : decode cX1_empty 5 = .ok (.aload_n 0, 1) := by decide +kernel
theorem dX1_empty_6 : decode cX1_empty 6 = .ok (.iconst 0, 1) := by decide +kernel
theorem dX1_empty_7 : decode cX1_empty 7 = .ok (.putfield 22, 3) := by decide +kernel
theorem dX1_empty_10 : decode cX1_empty 10 = .ok (.return_, 1) := by decide +kernel
theorem dX1_keep_0 : decode cX1_keep 0 = .ok (.aload_n 0, 1) := by decide +kernel
theorem dX1_keep_1 : decode cX1_keep 1 = .ok (.getfield 22, 3) := by decide +kernel
theorem dX1_keep_4 : decode cX1_keep 4 = .ok (.bipush 8, 2) := by decide +kernel
theorem dX1_keep_6 : decode cX1_keep 6 = .ok (.if_icmp .ge 16, 3) := by decide +kernel
theorem dX1_keep_9 : decode cX1_keep 9 = .ok (.aload_n 0, 1) := by decide +kernel
theorem dX1_keep_10 : decode cX1_keep 10 = .ok (.dup, 1) := by decide +kernel
theorem dX1_keep_11 : decode cX1_keep 11 = .ok (.getfield 22, 3) := by decide +kernel
theorem dX1_keep_14 : decode cX1_keep 14 = .ok (.iconst 1, 1) := by decide +kernel
theorem dX1_keep_15 : decode cX1_keep 15 = .ok (.iadd, 1) := by decide +kernel
theorem dX1_keep_16 : decode cX1_keep 16 = .ok (.putfield 22, 3) := by decide +kernel
theorem dX1_keep_19 : decode cX1_keep 19 = .ok (.goto 16, 3) := by decide +kernel
theorem dX1_keep_22 : decode cX1_keep 22 = .ok (.aload_n 0, 1) := by decide +kernel
theorem dX1_keep_23 : decode cX1_keep 23 = .ok (.aload_n 0, 1) := by decide +kernel
theorem dX1_keep_24 : decode cX1_keep 24 = .ok (.getfield 18, 3) := by decide +kernel
theorem dX1_keep_27 : decode cX1_keep 27 = .ok (.iconst 1, 1) := by decide +kernel
theorem dX1_keep_28 : decode cX1_keep 28 = .ok (.iadd, 1) := by decide +kernel
theorem dX1_keep_29 : decode cX1_keep 29 = .ok (.bipush 8, 2) := by decide +kernel
theorem dX1_keep_31 : decode cX1_keep 31 = .ok (.irem, 1) := by decide +kernel
theorem dX1_keep_32 : decode cX1_keep 32 = .ok (.putfield 18, 3) := by decide +kernel
theorem dX1_keep_35 : decode cX1_keep 35 = .ok (.aload_n 0, 1) := by decide +kernel
theorem dX1_keep_36 : decode cX1_keep 36 = .ok (.getfield 11, 3) := by decide +kernel
theorem dX1_keep_39 : decode cX1_keep 39 = .ok (.aload_n 0, 1) := by decide +kernel
theorem dX1_keep_40 : decode cX1_keep 40 = .ok (.getfield 18, 3) := by decide +kernel
theorem dX1_keep_43 : decode cX1_keep 43 = .ok (.aload_n 0, 1) := by decide +kernel
theorem dX1_keep_44 : decode cX1_keep 44 = .ok (.getfield 22, 3) := by decide +kernel
theorem dX1_keep_47 : decode cX1_keep 47 = .ok (.iadd, 1) := by decide +kernel
theorem dX1_keep_48 : decode cX1_keep 48 = .ok (.iconst 1, 1) := by decide +kernel
theorem dX1_keep_49 : decode cX1_keep 49 = .ok (.isub, 1) := by decide +kernel
theorem dX1_keep_50 : decode cX1_keep 50 = .ok (.bipush 8, 2) := by decide +kernel
theorem dX1_keep_52 : decode cX1_keep 52 = .ok (.irem, 1) := by decide +kernel
theorem dX1_keep_53 : decode cX1_keep 53 = .ok (.aaload, 1) := by decide +kernel
theorem dX1_keep_54 : decode cX1_keep 54 = .ok (.aload_n 1, 1) := by decide +kernel
theorem dX1_keep_55 : decode cX1_keep 55 = .ok (.invokevirtual 25, 3) := by decide +kernel
theorem dX1_keep_58 : decode cX1_keep 58 = .ok (.return_, 1) := by decide +kernel
theorem dX1_giveBack_0 : decode cX1_giveBack 0 = .ok (.aload_n 0, 1) := by decide +kernel
theorem dX1_giveBack_1 : decode cX1_giveBack 1 = .ok (.getfield 22, 3) := by decide +kernel
theorem dX1_giveBack_4 : decode cX1_giveBack 4 = .ok (.ifCond .le 34, 3) := by decide +kernel
theorem dX1_giveBack_7 : decode cX1_giveBack 7 = .ok (.aload_n 0, 1) := by decide +kernel
theorem dX1_giveBack_8 : decode cX1_giveBack 8 = .ok (.dup, 1) := by decide +kernel
theorem dX1_giveBack_9 : decode cX1_giveBack 9 = .ok (.getfield 22, 3) := by decide +kernel
theorem dX1_giveBack_12 : decode cX1_giveBack 12 = .ok (.iconst 1, 1) := by decide +kernel
theorem dX1_giveBack_13 : decode cX1_giveBack 13 = .ok (.isub, 1) := by decide +kernel
theorem dX1_giveBack_14 : decode cX1_giveBack 14 = .ok (.putfield 22, 3) := by decide +kernel
theorem dX1_giveBack_17 : decode cX1_giveBack 17 = .ok (.aload_n 1, 1) := by decide +kernel
theorem dX1_giveBack_18 : decode cX1_giveBack 18 = .ok (.aload_n 0, 1) := by decide +kernel
theorem dX1_giveBack_19 : decode cX1_giveBack 19 = .ok (.getfield 11, 3) := by decide +kernel
theorem dX1_giveBack_22 : decode cX1_giveBack 22 = .ok (.aload_n 0, 1) := by decide +kernel
theorem dX1_giveBack_23 : decode cX1_giveBack 23 = .ok (.getfield 18, 3) := by decide +kernel
theorem dX1_giveBack_26 : decode cX1_giveBack 26 = .ok (.aload_n 0, 1) := by decide +kernel
theorem dX1_giveBack_27 : decode cX1_giveBack 27 = .ok (.getfield 22, 3) := by decide +kernel
theorem dX1_giveBack_30 : decode cX1_giveBack 30 = .ok (.iadd, 1) := by decide +kernel
theorem dX1_giveBack_31 : decode cX1_giveBack 31 = .ok (.bipush 8, 2) := by decide +kernel
theorem dX1_giveBack_33 : decode cX1_giveBack 33 = .ok (.irem, 1) := by decide +kernel
theorem dX1_giveBack_34 : decode cX1_giveBack 34 = .ok (.aaload, 1) := by decide +kernel
theorem dX1_giveBack_35 : decode cX1_giveBack 35 = .ok (.invokevirtual 25, 3) := by decide +kernel
theorem dX1_giveBack_38 : decode cX1_giveBack 38 = .ok (.return_, 1) := by decide +kernel
theorem dX1_copyFrom_0 : decode cX1_copyFrom 0 = .ok (.aload_n 0, 1) := by decide +kernel
theorem dX1_copyFrom_1 : decode cX1_copyFrom 1 = .ok (.aload_n 1, 1) := by decide +kernel
theorem dX1_copyFrom_2 : decode cX1_copyFrom 2 = .ok (.getfield 18, 3) := by decide +kernel
theorem dX1_copyFrom_5 : decode cX1_copyFrom 5 = .ok (.putfield 18, 3) := by decide +kernel
theorem dX1_copyFrom_8 : decode cX1_copyFrom 8 = .ok (.aload_n 0, 1) := by decide +kernel
theorem dX1_copyFrom_9 : decode cX1_copyFrom 9 = .ok (.aload_n 1, 1) := by decide +kernel
theorem dX1_copyFrom_10 : decode cX1_copyFrom 10 = .ok (.getfield 22, 3) := by decide +kernel
theorem dX1_copyFrom_13 : decode cX1_copyFrom 13 = .ok (.putfield 22, 3) := by decide +kernel
theorem dX1_copyFrom_16 : decode cX1_copyFrom 16 = .ok (.iconst 0, 1) := by decide +kernel
theorem dX1_copyFrom_17 : decode cX1_copyFrom 17 = .ok (.istore_n 2, 1) := by decide +kernel
theorem dX1_copyFrom_18 : decode cX1_copyFrom 18 = .ok (.iload_n 2, 1) := by decide +kernel
theorem dX1_copyFrom_19 : decode cX1_copyFrom 19 = .ok (.bipush 8, 2) := by decide +kernel
theorem dX1_copyFrom_21 : decode cX1_copyFrom 21 = .ok (.if_icmp .ge 24, 3) := by decide +kernel
theorem dX1_copyFrom_24 : decode cX1_copyFrom 24 = .ok (.aload_n 0, 1) := by decide +kernel
theorem dX1_copyFrom_25 : decode cX1_copyFrom 25 = .ok (.getfield 11, 3) := by decide +kernel
theorem dX1_copyFrom_28 : decode cX1_copyFrom 28 = .ok (.iload_n 2, 1) := by decide +kernel
theorem dX1_copyFrom_29 : decode cX1_copyFrom 29 = .ok (.aaload, 1) := by decide +kernel
theorem dX1_copyFrom_30 : decode cX1_copyFrom 30 = .ok (.aload_n 1, 1) := by decide +kernel
theorem dX1_copyFrom_31 : decode cX1_copyFrom 31 = .ok (.getfield 11, 3) := by decide +kernel
theorem dX1_copyFrom_34 : decode cX1_copyFrom 34 = .ok (.iload_n 2, 1) := by decide +kernel
theorem dX1_copyFrom_35 : decode cX1_copyFrom 35 = .ok (.aaload, 1) := by decide +kernel
theorem dX1_copyFrom_36 : decode cX1_copyFrom 36 = .ok (.invokevirtual 25, 3) := by decide +kernel
theorem dX1_copyFrom_39 : decode cX1_copyFrom 39 = .ok (.iinc 2 1, 3) := by decide +kernel
theorem dX1_copyFrom_42 : decode cX1_copyFrom 42 = .ok (.goto (-24), 3) := by decide +kernel
theorem dX1_copyFrom_45 : decode cX1_copyFrom 45 = .ok (.return_, 1) := by decide +kernel
theorem dX2_init_0 : decode cX2_init 0 = .ok (.aload_n 0, 1) := by decide +kernel
theorem dX2_init_1 : decode cX2_init 1 = .ok (.invokespecial 1, 3) := by decide +kernel
theorem dX2_init_4 : decode cX2_init 4 = .ok (.aload_n 0, 1) := by decide +kernel
theorem dX2_init_5 : decode cX2_init 5 = .ok (.new 7, 3) := by decide +kernel
theorem dX2_init_8 : decode cX2_init 8 = .ok (.dup, 1) := by decide +kernel
theorem dX2_init_9 : decode cX2_init 9 = .ok (.invokespecial 9, 3) := by decide +kernel
theorem dX2_init_12 : decode cX2_init 12 = .ok (.putfield 10, 3) := by decide +kernel
theorem dX2_init_15 : decode cX2_init 15 = .ok (.aload_n 0, 1) := by decide +kernel
theorem dX2_init_16 : decode cX2_init 16 = .ok (.new 16, 3) := by decide +kernel
theorem dX2_init_19 : decode cX2_init 19 = .ok (.dup, 1) := by decide +kernel
theorem dX2_init_20 : decode cX2_init 20 = .ok (.invokespecial 18, 3) := by decide +kernel
theorem dX2_init_23 : decode cX2_init 23 = .ok (.putfield 19, 3) := by decide +kernel
theorem dX2_init_26 : decode cX2_init 26 = .ok (.aload_n 0, 1) := by decide +kernel
theorem dX2_init_27 : decode cX2_init 27 = .ok (.new 23, 3) := by decide +kernel
theorem dX2_init_30 : decode cX2_init 30 = .ok (.dup, 1) := by decide +kernel
theorem dX2_init_31 : decode cX2_init 31 = .ok (.invokespecial 25, 3) := by decide +kernel
theorem dX2_init_34 : decode cX2_init 34 = .ok (.putfield 26, 3) := by decide +kernel
theorem dX2_init_37 : decode cX2_init 37 = .ok (.return_, 1) := by decide +kernel
theorem dX2_beginWith_0 : decode cX2_beginWith 0 = .ok (.aload_n 0, 1) := by decide +kernel
theorem dX2_beginWith_1 : decode cX2_beginWith 1 = .ok (.getfield 10, 3) := by decide +kernel
theorem dX2_beginWith_4 : decode cX2_beginWith 4 = .ok (.aload_n 1, 1) := by decide +kernel
theorem dX2_beginWith_5 : decode cX2_beginWith 5 = .ok (.invokevirtual 30, 3) := by decide +kernel
theorem dX2_beginWith_8 : decode cX2_beginWith 8 = .ok (.aload_n 0, 1) := by decide +kernel
theorem dX2_beginWith_9 : decode cX2_beginWith 9 = .ok (.getfield 19, 3) := by decide +kernel
theorem dX2_beginWith_12 : decode cX2_beginWith 12 = .ok (.invokevirtual 34, 3) := by decide +kernel
theorem dX2_beginWith_15 : decode cX2_beginWith 15 = .ok (.aload_n 0, 1) := by decide +kernel
theorem dX2_beginWith_16 : decode cX2_beginWith 16 = .ok (.getfield 26, 3) := by decide +kernel
theorem dX2_beginWith_19 : decode cX2_beginWith 19 = .ok (.iconst 0, 1) := by decide +kernel
theorem dX2_beginWith_20 : decode cX2_beginWith 20 = .ok (.putfield 37, 3) := by decide +kernel
theorem dX2_beginWith_23 : decode cX2_beginWith 23 = .ok (.return_, 1) := by decide +kernel
theorem dX2_copyFrom_0 : decode cX2_copyFrom 0 = .ok (.aload_n 0, 1) := by decide +kernel
theorem dX2_copyFrom_1 : decode cX2_copyFrom 1 = .ok (.getfield 10, 3) := by decide +kernel
theorem dX2_copyFrom_4 : decode cX2_copyFrom 4 = .ok (.aload_n 1, 1) := by decide +kernel
theorem dX2_copyFrom_5 : decode cX2_copyFrom 5 = .ok (.getfield 10, 3) := by decide +kernel
theorem dX2_copyFrom_8 : decode cX2_copyFrom 8 = .ok (.invokevirtual 30, 3) := by decide +kernel
theorem dX2_copyFrom_11 : decode cX2_copyFrom 11 = .ok (.aload_n 0, 1) := by decide +kernel
theorem dX2_copyFrom_12 : decode cX2_copyFrom 12 = .ok (.getfield 19, 3) := by decide +kernel
theorem dX2_copyFrom_15 : decode cX2_copyFrom 15 = .ok (.aload_n 1, 1) := by decide +kernel
theorem dX2_copyFrom_16 : decode cX2_copyFrom 16 = .ok (.getfield 19, 3) := by decide +kernel
theorem dX2_copyFrom_19 : decode cX2_copyFrom 19 = .ok (.invokevirtual 41, 3) := by decide +kernel
theorem dX2_copyFrom_22 : decode cX2_copyFrom 22 = .ok (.aload_n 0, 1) := by decide +kernel
theorem dX2_copyFrom_23 : decode cX2_copyFrom 23 = .ok (.getfield 26, 3) := by decide +kernel
theorem dX2_copyFrom_26 : decode cX2_copyFrom 26 = .ok (.aload_n 1, 1) := by decide +kernel
theorem dX2_copyFrom_27 : decode cX2_copyFrom 27 = .ok (.getfield 26, 3) := by decide +kernel
theorem dX2_copyFrom_30 : decode cX2_copyFrom 30 = .ok (.invokevirtual 44, 3) := by decide +kernel
theorem dX2_copyFrom_33 : decode cX2_copyFrom 33 = .ok (.return_, 1) := by decide +kernel
theorem dX3_init_0 : decode cX3_init 0 = .ok (.aload_n 0, 1) := by decide +kernel
theorem dX3_init_1 : decode cX3_init 1 = .ok (.invokespecial 3, 3) := by decide +kernel
theorem dX3_init_4 : decode cX3_init 4 = .ok (.aload_n 0, 1) := by decide +kernel
theorem dX3_init_5 : decode cX3_init 5 = .ok (.bipush 6, 2) := by decide +kernel
theorem dX3_init_7 : decode cX3_init 7 = .ok (.newarray .int, 2) := by decide +kernel
theorem dX3_init_9 : decode cX3_init 9 = .ok (.putfield 9, 3) := by decide +kernel
theorem dX3_init_12 : decode cX3_init 12 = .ok (.aload_n 0, 1) := by decide +kernel
theorem dX3_init_13 : decode cX3_init 13 = .ok (.bipush 6, 2) := by decide +kernel
theorem dX3_init_15 : decode cX3_init 15 = .ok (.newarray .int, 2) := by decide +kernel
theorem dX3_init_17 : decode cX3_init 17 = .ok (.putfield 15, 3) := by decide +kernel
theorem dX3_init_20 : decode cX3_init 20 = .ok (.aload_n 0, 1) := by decide +kernel
theorem dX3_init_21 : decode cX3_init 21 = .ok (.bipush 6, 2) := by decide +kernel
theorem dX3_init_23 : decode cX3_init 23 = .ok (.newarray .int, 2) := by decide +kernel
theorem dX3_init_25 : decode cX3_init 25 = .ok (.putfield 18, 3) := by decide +kernel
theorem dX3_init_28 : decode cX3_init 28 = .ok (.aload_n 0, 1) := by decide +kernel
theorem dX3_init_29 : decode cX3_init 29 = .ok (.bipush 6, 2) := by decide +kernel
theorem dX3_init_31 : decode cX3_init 31 = .ok (.newarray .int, 2) := by decide +kernel
theorem dX3_init_33 : decode cX3_init 33 = .ok (.putfield 21, 3) := by decide +kernel
theorem dX3_init_36 : decode cX3_init 36 = .ok (.aload_n 0, 1) := by decide +kernel
theorem dX3_init_37 : decode cX3_init 37 = .ok (.bipush 6, 2) := by decide +kernel
theorem dX3_init_39 : decode cX3_init 39 = .ok (.newarray .int, 2) := by decide +kernel
theorem dX3_init_41 : decode cX3_init 41 = .ok (.putfield 24, 3) := by decide +kernel
theorem dX3_init_44 : decode cX3_init 44 = .ok (.return_, 1) := by decide +kernel
theorem dX3_layAnew_0 : decode cX3_layAnew 0 = .ok (.aload_n 0, 1) := by decide +kernel
theorem dX3_layAnew_1 : decode cX3_layAnew 1 = .ok (.iload_n 1, 1) := by decide +kernel
theorem dX3_layAnew_2 : decode cX3_layAnew 2 = .ok (.putfield 27, 3) := by decide +kernel
theorem dX3_layAnew_5 : decode cX3_layAnew 5 = .ok (.aload_n 0, 1) := by decide +kernel
theorem dX3_layAnew_6 : decode cX3_layAnew 6 = .ok (.iconst 0, 1) := by decide +kernel
theorem dX3_layAnew_7 : decode cX3_layAnew 7 = .ok (.putfield 31, 3) := by decide +kernel
theorem dX3_layAnew_10 : decode cX3_layAnew 10 = .ok (.aload_n 0, 1) := by decide +kernel
theorem dX3_layAnew_11 : decode cX3_layAnew 11 = .ok (.iconst 0, 1) := by decide +kernel
theorem dX3_layAnew_12 : decode cX3_layAnew 12 = .ok (.putfield 34, 3) := by decide +kernel
theorem dX3_layAnew_15 : decode cX3_layAnew 15 = .ok (.aload_n 0, 1) := by decide +kernel
theorem dX3_layAnew_16 : decode cX3_layAnew 16 = .ok (.iconst 0, 1) := by decide +kernel
theorem dX3_layAnew_17 : decode cX3_layAnew 17 = .ok (.putfield 37, 3) := by decide +kernel
theorem dX3_layAnew_20 : decode cX3_layAnew 20 = .ok (.aload_n 0, 1) := by decide +kernel
theorem dX3_layAnew_21 : decode cX3_layAnew 21 = .ok (.iconst 0, 1) := by decide +kernel
theorem dX3_layAnew_22 : decode cX3_layAnew 22 = .ok (.putfield 40, 3) := by decide +kernel
theorem dX3_layAnew_25 : decode cX3_layAnew 25 = .ok (.return_, 1) := by decide +kernel
theorem dX3_copyFrom_0 : decode cX3_copyFrom 0 = .ok (.aload_n 0, 1) := by decide +kernel
theorem dX3_copyFrom_1 : decode cX3_copyFrom 1 = .ok (.aload_n 1, 1) := by decide +kernel
theorem dX3_copyFrom_2 : decode cX3_copyFrom 2 = .ok (.getfield 27, 3) := by decide +kernel
theorem dX3_copyFrom_5 : decode cX3_copyFrom 5 = .ok (.putfield 27, 3) := by decide +kernel
theorem dX3_copyFrom_8 : decode cX3_copyFrom 8 = .ok (.aload_n 0, 1) := by decide +kernel
theorem dX3_copyFrom_9 : decode cX3_copyFrom 9 = .ok (.aload_n 1, 1) := by decide +kernel
theorem dX3_copyFrom_10 : decode cX3_copyFrom 10 = .ok (.getfield 31, 3) := by decide +kernel
theorem dX3_copyFrom_13 : decode cX3_copyFrom 13 = .ok (.putfield 31, 3) := by decide +kernel
theorem dX3_copyFrom_16 : decode cX3_copyFrom 16 = .ok (.aload_n 0, 1) := by decide +kernel
theorem dX3_copyFrom_17 : decode cX3_copyFrom 17 = .ok (.aload_n 1, 1) := by decide +kernel
theorem dX3_copyFrom_18 : decode cX3_copyFrom 18 = .ok (.getfield 34, 3) := by decide +kernel
theorem dX3_copyFrom_21 : decode cX3_copyFrom 21 = .ok (.putfield 34, 3) := by decide +kernel
theorem dX3_copyFrom_24 : decode cX3_copyFrom 24 = .ok (.aload_n 0, 1) := by decide +kernel
theorem dX3_copyFrom_25 : decode cX3_copyFrom 25 = .ok (.aload_n 1, 1) := by decide +kernel
theorem dX3_copyFrom_26 : decode cX3_copyFrom 26 = .ok (.getfield 37, 3) := by decide +kernel
theorem dX3_copyFrom_29 : decode cX3_copyFrom 29 = .ok (.putfield 37, 3) := by decide +kernel
theorem dX3_copyFrom_32 : decode cX3_copyFrom 32 = .ok (.aload_n 0, 1) := by decide +kernel
theorem dX3_copyFrom_33 : decode cX3_copyFrom 33 = .ok (.aload_n 1, 1) := by decide +kernel
theorem dX3_copyFrom_34 : decode cX3_copyFrom 34 = .ok (.getfield 40, 3) := by decide +kernel
theorem dX3_copyFrom_37 : decode cX3_copyFrom 37 = .ok (.putfield 40, 3) := by decide +kernel
theorem dX3_copyFrom_40 : decode cX3_copyFrom 40 = .ok (.aload_n 1, 1) := by decide +kernel
theorem dX3_copyFrom_41 : decode cX3_copyFrom 41 = .ok (.getfield 9, 3) := by decide +kernel
theorem dX3_copyFrom_44 : decode cX3_copyFrom 44 = .ok (.iconst 0, 1) := by decide +kernel
theorem dX3_copyFrom_45 : decode cX3_copyFrom 45 = .ok (.aload_n 0, 1) := by decide +kernel
theorem dX3_copyFrom_46 : decode cX3_copyFrom 46 = .ok (.getfield 9, 3) := by decide +kernel
theorem dX3_copyFrom_49 : decode cX3_copyFrom 49 = .ok (.iconst 0, 1) := by decide +kernel
theorem dX3_copyFrom_50 : decode cX3_copyFrom 50 = .ok (.bipush 6, 2) := by decide +kernel
theorem dX3_copyFrom_52 : decode cX3_copyFrom 52 = .ok (.invokestatic 43, 3) := by decide +kernel
theorem dX3_copyFrom_55 : decode cX3_copyFrom 55 = .ok (.aload_n 1, 1) := by decide +kernel
theorem dX3_copyFrom_56 : decode cX3_copyFrom 56 = .ok (.getfield 15, 3) := by decide +kernel
theorem dX3_copyFrom_59 : decode cX3_copyFrom 59 = .ok (.iconst 0, 1) := by decide +kernel
theorem dX3_copyFrom_60 : decode cX3_copyFrom 60 = .ok (.aload_n 0, 1) := by decide +kernel
theorem dX3_copyFrom_61 : decode cX3_copyFrom 61 = .ok (.getfield 15, 3) := by decide +kernel
theorem dX3_copyFrom_64 : decode cX3_copyFrom 64 = .ok (.iconst 0, 1) := by decide +kernel
theorem dX3_copyFrom_65 : decode cX3_copyFrom 65 = .ok (.bipush 6, 2) := by decide +kernel
theorem dX3_copyFrom_67 : decode cX3_copyFrom 67 = .ok (.invokestatic 43, 3) := by decide +kernel
theorem dX3_copyFrom_70 : decode cX3_copyFrom 70 = .ok (.aload_n 1, 1) := by decide +kernel
theorem dX3_copyFrom_71 : decode cX3_copyFrom 71 = .ok (.getfield 18, 3) := by decide +kernel
theorem dX3_copyFrom_74 : decode cX3_copyFrom 74 = .ok (.iconst 0, 1) := by decide +kernel
theorem dX3_copyFrom_75 : decode cX3_copyFrom 75 = .ok (.aload_n 0, 1) := by decide +kernel
theorem dX3_copyFrom_76 : decode cX3_copyFrom 76 = .ok (.getfield 18, 3) := by decide +kernel
theorem dX3_copyFrom_79 : decode cX3_copyFrom 79 = .ok (.iconst 0, 1) := by decide +kernel
theorem dX3_copyFrom_80 : decode cX3_copyFrom 80 = .ok (.bipush 6, 2) := by decide +kernel
theorem dX3_copyFrom_82 : decode cX3_copyFrom 82 = .ok (.invokestatic 43, 3) := by decide +kernel
theorem dX3_copyFrom_85 : decode cX3_copyFrom 85 = .ok (.aload_n 1, 1) := by decide +kernel
theorem dX3_copyFrom_86 : decode cX3_copyFrom 86 = .ok (.getfield 21, 3) := by decide +kernel
theorem dX3_copyFrom_89 : decode cX3_copyFrom 89 = .ok (.iconst 0, 1) := by decide +kernel
theorem dX3_copyFrom_90 : decode cX3_copyFrom 90 = .ok (.aload_n 0, 1) := by decide +kernel
theorem dX3_copyFrom_91 : decode cX3_copyFrom 91 = .ok (.getfield 21, 3) := by decide +kernel
theorem dX3_copyFrom_94 : decode cX3_copyFrom 94 = .ok (.iconst 0, 1) := by decide +kernel
theorem dX3_copyFrom_95 : decode cX3_copyFrom 95 = .ok (.bipush 6, 2) := by decide +kernel
theorem dX3_copyFrom_97 : decode cX3_copyFrom 97 = .ok (.invokestatic 43, 3) := by decide +kernel
theorem dX3_copyFrom_100 : decode cX3_copyFrom 100 = .ok (.aload_n 1, 1) := by decide +kernel
theorem dX3_copyFrom_101 : decode cX3_copyFrom 101 = .ok (.getfield 24, 3) := by decide +kernel
theorem dX3_copyFrom_104 : decode cX3_copyFrom 104 = .ok (.iconst 0, 1) := by decide +kernel
theorem dX3_copyFrom_105 : decode cX3_copyFrom 105 = .ok (.aload_n 0, 1) := by decide +kernel
theorem dX3_copyFrom_106 : decode cX3_copyFrom 106 = .ok (.getfield 24, 3) := by decide +kernel
theorem dX3_copyFrom_109 : decode cX3_copyFrom 109 = .ok (.iconst 0, 1) := by decide +kernel
theorem dX3_copyFrom_110 : decode cX3_copyFrom 110 = .ok (.bipush 6, 2) := by decide +kernel
theorem dX3_copyFrom_112 : decode cX3_copyFrom 112 = .ok (.invokestatic 43, 3) := by decide +kernel
theorem dX3_copyFrom_115 : decode cX3_copyFrom 115 = .ok (.return_, 1) := by decide +kernel
theorem dX3_addChild_0 : decode cX3_addChild 0 = .ok (.aload_n 0, 1) := by decide +kernel
theorem dX3_addChild_1 : decode cX3_addChild 1 = .ok (.getfield 40, 3) := by decide +kernel
theorem dX3_addChild_4 : decode cX3_addChild 4 = .ok (.bipush 6, 2) := by decide +kernel
theorem dX3_addChild_6 : decode cX3_addChild 6 = .ok (.if_icmp .lt 6, 3) := by decide +kernel
theorem dX3_addChild_9 : decode cX3_addChild 9 = .ok (.bipush (-4), 2) := by decide +kernel
theorem dX3_addChild_11 : decode cX3_addChild 11 = .ok (.ireturn, 1) := by decide +kernel
theorem dX3_addChild_12 : decode cX3_addChild 12 = .ok (.aload_n 0, 1) := by decide +kernel
theorem dX3_addChild_13 : decode cX3_addChild 13 = .ok (.getfield 40, 3) := by decide +kernel
theorem dX3_addChild_16 : decode cX3_addChild 16 = .ok (.istore 5, 2) := by decide +kernel
theorem dX3_addChild_18 : decode cX3_addChild 18 = .ok (.aload_n 0, 1) := by decide +kernel
theorem dX3_addChild_19 : decode cX3_addChild 19 = .ok (.getfield 9, 3) := by decide +kernel
theorem dX3_addChild_22 : decode cX3_addChild 22 = .ok (.iload 5, 2) := by decide +kernel
theorem dX3_addChild_24 : decode cX3_addChild 24 = .ok (.iload_n 1, 1) := by decide +kernel
theorem dX3_addChild_25 : decode cX3_addChild 25 = .ok (.iastore, 1) := by decide +kernel
theorem dX3_addChild_26 : decode cX3_addChild 26 = .ok (.aload_n 0, 1) := by decide +kernel
theorem dX3_addChild_27 : decode cX3_addChild 27 = .ok (.getfield 15, 3) := by decide +kernel
theorem dX3_addChild_30 : decode cX3_addChild 30 = .ok (.iload 5, 2) := by decide +kernel
theorem dX3_addChild_32 : decode cX3_addChild 32 = .ok (.iload_n 2, 1) := by decide +kernel
theorem dX3_addChild_33 : decode cX3_addChild 33 = .ok (.iastore, 1) := by decide +kernel
theorem dX3_addChild_34 : decode cX3_addChild 34 = .ok (.aload_n 0, 1) := by decide +kernel
theorem dX3_addChild_35 : decode cX3_addChild 35 = .ok (.getfield 18, 3) := by decide +kernel
theorem dX3_addChild_38 : decode cX3_addChild 38 = .ok (.iload 5, 2) := by decide +kernel
theorem dX3_addChild_40 : decode cX3_addChild 40 = .ok (.iload_n 3, 1) := by decide +kernel
theorem dX3_addChild_41 : decode cX3_addChild 41 = .ok (.iastore, 1) := by decide +kernel
theorem dX3_addChild_42 : decode cX3_addChild 42 = .ok (.aload_n 0, 1) := by decide +kernel
theorem dX3_addChild_43 : decode cX3_addChild 43 = .ok (.getfield 21, 3) := by decide +kernel
theorem dX3_addChild_46 : decode cX3_addChild 46 = .ok (.iload 5, 2) := by decide +kernel
theorem dX3_addChild_48 : decode cX3_addChild 48 = .ok (.iload 4, 2) := by decide +kernel
theorem dX3_addChild_50 : decode cX3_addChild 50 = .ok (.iastore, 1) := by decide +kernel
theorem dX3_addChild_51 : decode cX3_addChild 51 = .ok (.aload_n 0, 1) := by decide +kernel
theorem dX3_addChild_52 : decode cX3_addChild 52 = .ok (.getfield 24, 3) := by decide +kernel
theorem dX3_addChild_55 : decode cX3_addChild 55 = .ok (.iload 5, 2) := by decide +kernel
theorem dX3_addChild_57 : decode cX3_addChild 57 = .ok (.iconst 0, 1) := by decide +kernel
theorem dX3_addChild_58 : decode cX3_addChild 58 = .ok (.iastore, 1) := by decide +kernel
theorem dX3_addChild_59 : decode cX3_addChild 59 = .ok (.aload_n 0, 1) := by decide +kernel
theorem dX3_addChild_60 : decode cX3_addChild 60 = .ok (.iload 5, 2) := by decide +kernel
theorem dX3_addChild_62 : decode cX3_addChild 62 = .ok (.iconst 1, 1) := by decide +kernel
theorem dX3_addChild_63 : decode cX3_addChild 63 = .ok (.iadd, 1) := by decide +kernel
theorem dX3_addChild_64 : decode cX3_addChild 64 = .ok (.putfield 40, 3) := by decide +kernel
theorem dX3_addChild_67 : decode cX3_addChild 67 = .ok (.iload 5, 2) := by decide +kernel
theorem dX3_addChild_69 : decode cX3_addChild 69 = .ok (.ireturn, 1) := by decide +kernel
theorem dX3_partOf_0 : decode cX3_partOf 0 = .ok (.iload_n 2, 1) := by decide +kernel
theorem dX3_partOf_1 : decode cX3_partOf 1 = .ok (.tableswitch 59 0 3 #[31, 38, 45, 52], 31) := by decide +kernel
theorem dX3_partOf_32 : decode cX3_partOf 32 = .ok (.aload_n 0, 1) := by decide +kernel
theorem dX3_partOf_33 : decode cX3_partOf 33 = .ok (.getfield 9, 3) := by decide +kernel
theorem dX3_partOf_36 : decode cX3_partOf 36 = .ok (.iload_n 1, 1) := by decide +kernel
theorem dX3_partOf_37 : decode cX3_partOf 37 = .ok (.iaload, 1) := by decide +kernel
theorem dX3_partOf_38 : decode cX3_partOf 38 = .ok (.ireturn, 1) := by decide +kernel
theorem dX3_partOf_39 : decode cX3_partOf 39 = .ok (.aload_n 0, 1) := by decide +kernel
theorem dX3_partOf_40 : decode cX3_partOf 40 = .ok (.getfield 15, 3) := by decide +kernel
theorem dX3_partOf_43 : decode cX3_partOf 43 = .ok (.iload_n 1, 1) := by decide +kernel
theorem dX3_partOf_44 : decode cX3_partOf 44 = .ok (.iaload, 1) := by decide +kernel
theorem dX3_partOf_45 : decode cX3_partOf 45 = .ok (.ireturn, 1) := by decide +kernel
theorem dX3_partOf_46 : decode cX3_partOf 46 = .ok (.aload_n 0, 1) := by decide +kernel
theorem dX3_partOf_47 : decode cX3_partOf 47 = .ok (.getfield 18, 3) := by decide +kernel
theorem dX3_partOf_50 : decode cX3_partOf 50 = .ok (.iload_n 1, 1) := by decide +kernel
theorem dX3_partOf_51 : decode cX3_partOf 51 = .ok (.iaload, 1) := by decide +kernel
theorem dX3_partOf_52 : decode cX3_partOf 52 = .ok (.ireturn, 1) := by decide +kernel
theorem dX3_partOf_53 : decode cX3_partOf 53 = .ok (.aload_n 0, 1) := by decide +kernel
theorem dX3_partOf_54 : decode cX3_partOf 54 = .ok (.getfield 21, 3) := by decide +kernel
theorem dX3_partOf_57 : decode cX3_partOf 57 = .ok (.iload_n 1, 1) := by decide +kernel
theorem dX3_partOf_58 : decode cX3_partOf 58 = .ok (.iaload, 1) := by decide +kernel
theorem dX3_partOf_59 : decode cX3_partOf 59 = .ok (.ireturn, 1) := by decide +kernel
theorem dX3_partOf_60 : decode cX3_partOf 60 = .ok (.aload_n 0, 1) := by decide +kernel
theorem dX3_partOf_61 : decode cX3_partOf 61 = .ok (.getfield 24, 3) := by decide +kernel
theorem dX3_partOf_64 : decode cX3_partOf 64 = .ok (.iload_n 1, 1) := by decide +kernel
theorem dX3_partOf_65 : decode cX3_partOf 65 = .ok (.iaload, 1) := by decide +kernel
theorem dX3_partOf_66 : decode cX3_partOf 66 = .ok (.ireturn, 1) := by decide +kernel
theorem dX3_childAt_0 : decode cX3_childAt 0 = .ok (.iconst 0, 1) := by decide +kernel
theorem dX3_childAt_1 : decode cX3_childAt 1 = .ok (.istore_n 2, 1) := by decide +kernel
theorem dX3_childAt_2 : decode cX3_childAt 2 = .ok (.iload_n 2, 1) := by decide +kernel
theorem dX3_childAt_3 : decode cX3_childAt 3 = .ok (.aload_n 0, 1) := by decide +kernel
theorem dX3_childAt_4 : decode cX3_childAt 4 = .ok (.getfield 40, 3) := by decide +kernel
theorem dX3_childAt_7 : decode cX3_childAt 7 = .ok (.if_icmp .ge 21, 3) := by decide +kernel
theorem dX3_childAt_10 : decode cX3_childAt 10 = .ok (.aload_n 0, 1) := by decide +kernel
theorem dX3_childAt_11 : decode cX3_childAt 11 = .ok (.getfield 15, 3) := by decide +kernel
theorem dX3_childAt_14 : decode cX3_childAt 14 = .ok (.iload_n 2, 1) := by decide +kernel
theorem dX3_childAt_15 : decode cX3_childAt 15 = .ok (.iaload, 1) := by decide +kernel
theorem dX3_childAt_16 : decode cX3_childAt 16 = .ok (.iload_n 1, 1) := by decide +kernel
theorem dX3_childAt_17 : decode cX3_childAt 17 = .ok (.if_icmp .ne 5, 3) := by decide +kernel
theorem dX3_childAt_20 : decode cX3_childAt 20 = .ok (.iload_n 2, 1) := by decide +kernel
theorem dX3_childAt_21 : decode cX3_childAt 21 = .ok (.ireturn, 1) := by decide +kernel
theorem dX3_childAt_22 : decode cX3_childAt 22 = .ok (.iinc 2 1, 3) := by decide +kernel
theorem dX3_childAt_25 : decode cX3_childAt 25 = .ok (.goto (-23), 3) := by decide +kernel
theorem dX3_childAt_28 : decode cX3_childAt 28 = .ok (.iconst (-1), 1) := by decide +kernel
theorem dX3_childAt_29 : decode cX3_childAt 29 = .ok (.ireturn, 1) := by decide +kernel
theorem dX3_takenSeats_0 : decode cX3_takenSeats 0 = .ok (.iconst 0, 1) := by decide +kernel
theorem dX3_takenSeats_1 : decode cX3_takenSeats 1 = .ok (.istore_n 1, 1) := by decide +kernel
theorem dX3_takenSeats_2 : decode cX3_takenSeats 2 = .ok (.iconst 0, 1) := by decide +kernel
theorem dX3_takenSeats_3 : decode cX3_takenSeats 3 = .ok (.istore_n 2, 1) := by decide +kernel
theorem dX3_takenSeats_4 : decode cX3_takenSeats 4 = .ok (.iload_n 2, 1) := by decide +kernel
theorem dX3_takenSeats_5 : decode cX3_takenSeats 5 = .ok (.aload_n 0, 1) := by decide +kernel
theorem dX3_takenSeats_6 : decode cX3_takenSeats 6 = .ok (.getfield 40, 3) := by decide +kernel
theorem dX3_takenSeats_9 : decode cX3_takenSeats 9 = .ok (.if_icmp .ge 20, 3) := by decide +kernel
theorem dX3_takenSeats_12 : decode cX3_takenSeats 12 = .ok (.iload_n 1, 1) := by decide +kernel
theorem dX3_takenSeats_13 : decode cX3_takenSeats 13 = .ok (.iconst 1, 1) := by decide +kernel
theorem dX3_takenSeats_14 : decode cX3_takenSeats 14 = .ok (.aload_n 0, 1) := by decide +kernel
theorem dX3_takenSeats_15 : decode cX3_takenSeats 15 = .ok (.getfield 15, 3) := by decide +kernel
theorem dX3_takenSeats_18 : decode cX3_takenSeats 18 = .ok (.iload_n 2, 1) := by decide +kernel
theorem dX3_takenSeats_19 : decode cX3_takenSeats 19 = .ok (.iaload, 1) := by decide +kernel
theorem dX3_takenSeats_20 : decode cX3_takenSeats 20 = .ok (.ishl, 1) := by decide +kernel
theorem dX3_takenSeats_21 : decode cX3_takenSeats 21 = .ok (.ior, 1) := by decide +kernel
theorem dX3_takenSeats_22 : decode cX3_takenSeats 22 = .ok (.istore_n 1, 1) := by decide +kernel
theorem dX3_takenSeats_23 : decode cX3_takenSeats 23 = .ok (.iinc 2 1, 3) := by decide +kernel
theorem dX3_takenSeats_26 : decode cX3_takenSeats 26 = .ok (.goto (-22), 3) := by decide +kernel
theorem dX3_takenSeats_29 : decode cX3_takenSeats 29 = .ok (.iload_n 1, 1) := by decide +kernel
theorem dX3_takenSeats_30 : decode cX3_takenSeats 30 = .ok (.ireturn, 1) := by decide +kernel
theorem dX3_nextSeat_0 : decode cX3_nextSeat 0 = .ok (.iload_n 0, 1) := by decide +kernel
theorem dX3_nextSeat_1 : decode cX3_nextSeat 1 = .ok (.iconst 1, 1) := by decide +kernel
theorem dX3_nextSeat_2 : decode cX3_nextSeat 2 = .ok (.iadd, 1) := by decide +kernel
theorem dX3_nextSeat_3 : decode cX3_nextSeat 3 = .ok (.bipush 8, 2) := by decide +kernel
theorem dX3_nextSeat_5 : decode cX3_nextSeat 5 = .ok (.irem, 1) := by decide +kernel
theorem dX3_nextSeat_6 : decode cX3_nextSeat 6 = .ok (.ireturn, 1) := by decide +kernel
theorem dX3_seatAhead_0 : decode cX3_seatAhead 0 = .ok (.iload_n 0, 1) := by decide +kernel
theorem dX3_seatAhead_1 : decode cX3_seatAhead 1 = .ok (.bipush 8, 2) := by decide +kernel
theorem dX3_seatAhead_3 : decode cX3_seatAhead 3 = .ok (.iadd, 1) := by decide +kernel
theorem dX3_seatAhead_4 : decode cX3_seatAhead 4 = .ok (.iconst 1, 1) := by decide +kernel
theorem dX3_seatAhead_5 : decode cX3_seatAhead 5 = .ok (.isub, 1) := by decide +kernel
theorem dX3_seatAhead_6 : decode cX3_seatAhead 6 = .ok (.bipush 8, 2) := by decide +kernel
theorem dX3_seatAhead_8 : decode cX3_seatAhead 8 = .ok (.irem, 1) := by decide +kernel
theorem dX3_seatAhead_9 : decode cX3_seatAhead 9 = .ok (.ireturn, 1) := by decide +kernel
theorem dX3_tightIn_0 : decode cX3_tightIn 0 = .ok (.iload_n 0, 1) := by decide +kernel
theorem dX3_tightIn_1 : decode cX3_tightIn 1 = .ok (.iload_n 1, 1) := by decide +kernel
theorem dX3_tightIn_2 : decode cX3_tightIn 2 = .ok (.invokestatic 49, 3) := by decide +kernel
theorem dX3_tightIn_5 : decode cX3_tightIn 5 = .ok (.ishr, 1) := by decide +kernel
theorem dX3_tightIn_6 : decode cX3_tightIn 6 = .ok (.iconst 1, 1) := by decide +kernel
theorem dX3_tightIn_7 : decode cX3_tightIn 7 = .ok (.iand, 1) := by decide +kernel
theorem dX3_tightIn_8 : decode cX3_tightIn 8 = .ok (.iload_n 0, 1) := by decide +kernel
theorem dX3_tightIn_9 : decode cX3_tightIn 9 = .ok (.iload_n 1, 1) := by decide +kernel
theorem dX3_tightIn_10 : decode cX3_tightIn 10 = .ok (.invokestatic 53, 3) := by decide +kernel
theorem dX3_tightIn_13 : decode cX3_tightIn 13 = .ok (.ishr, 1) := by decide +kernel
theorem dX3_tightIn_14 : decode cX3_tightIn 14 = .ok (.iconst 1, 1) := by decide +kernel
theorem dX3_tightIn_15 : decode cX3_tightIn 15 = .ok (.iand, 1) := by decide +kernel
theorem dX3_tightIn_16 : decode cX3_tightIn 16 = .ok (.iadd, 1) := by decide +kernel
theorem dX3_tightIn_17 : decode cX3_tightIn 17 = .ok (.ireturn, 1) := by decide +kernel
theorem dX3_tightOf_0 : decode cX3_tightOf 0 = .ok (.aload_n 0, 1) := by decide +kernel
theorem dX3_tightOf_1 : decode cX3_tightOf 1 = .ok (.invokevirtual 56, 3) := by decide +kernel
theorem dX3_tightOf_4 : decode cX3_tightOf 4 = .ok (.aload_n 0, 1) := by decide +kernel
theorem dX3_tightOf_5 : decode cX3_tightOf 5 = .ok (.getfield 15, 3) := by decide +kernel
theorem dX3_tightOf_8 : decode cX3_tightOf 8 = .ok (.iload_n 1, 1) := by decide +kernel
theorem dX3_tightOf_9 : decode cX3_tightOf 9 = .ok (.iaload, 1) := by decide +kernel
theorem dX3_tightOf_10 : decode cX3_tightOf 10 = .ok (.invokestatic 60, 3) := by decide +kernel
theorem dX3_tightOf_13 : decode cX3_tightOf 13 = .ok (.ireturn, 1) := by decide +kernel
theorem dX3_nearIf_0 : decode cX3_nearIf 0 = .ok (.aload_n 0, 1) := by decide +kernel
theorem dX3_nearIf_1 : decode cX3_nearIf 1 = .ok (.getfield 9, 3) := by decide +kernel
theorem dX3_nearIf_4 : decode cX3_nearIf 4 = .ok (.iload_n 1, 1) := by decide +kernel
theorem dX3_nearIf_5 : decode cX3_nearIf 5 = .ok (.iaload, 1) := by decide +kernel
theorem dX3_nearIf_6 : decode cX3_nearIf 6 = .ok (.aload_n 0, 1) := by decide +kernel
theorem dX3_nearIf_7 : decode cX3_nearIf 7 = .ok (.getfield 21, 3) := by decide +kernel
theorem dX3_nearIf_10 : decode cX3_nearIf 10 = .ok (.iload_n 1, 1) := by decide +kernel
theorem dX3_nearIf_11 : decode cX3_nearIf 11 = .ok (.iaload, 1) := by decide +kernel
theorem dX3_nearIf_12 : decode cX3_nearIf 12 = .ok (.iload_n 2, 1) := by decide +kernel
theorem dX3_nearIf_13 : decode cX3_nearIf 13 = .ok (.aload_n 0, 1) := by decide +kernel
theorem dX3_nearIf_14 : decode cX3_nearIf 14 = .ok (.getfield 18, 3) := by decide +kernel
theorem dX3_nearIf_17 : decode cX3_nearIf 17 = .ok (.iload_n 1, 1) := by decide +kernel
theorem dX3_nearIf_18 : decode cX3_nearIf 18 = .ok (.iaload, 1) := by decide +kernel
theorem dX3_nearIf_19 : decode cX3_nearIf 19 = .ok (.aload_n 0, 1) := by decide +kernel
theorem dX3_nearIf_20 : decode cX3_nearIf 20 = .ok (.getfield 24, 3) := by decide +kernel
theorem dX3_nearIf_23 : decode cX3_nearIf 23 = .ok (.iload_n 1, 1) := by decide +kernel
theorem dX3_nearIf_24 : decode cX3_nearIf 24 = .ok (.iaload, 1) := by decide +kernel
theorem dX3_nearIf_25 : decode cX3_nearIf 25 = .ok (.aload_n 0, 1) := by decide +kernel
theorem dX3_nearIf_26 : decode cX3_nearIf 26 = .ok (.getfield 37, 3) := by decide +kernel
theorem dX3_nearIf_29 : decode cX3_nearIf 29 = .ok (.invokestatic 64, 3) := by decide +kernel
theorem dX3_nearIf_32 : decode cX3_nearIf 32 = .ok (.ireturn, 1) := by decide +kernel
theorem dX3_nearOf_0 : decode cX3_nearOf 0 = .ok (.aload_n 0, 1) := by decide +kernel
theorem dX3_nearOf_1 : decode cX3_nearOf 1 = .ok (.iload_n 1, 1) := by decide +kernel
theorem dX3_nearOf_2 : decode cX3_nearOf 2 = .ok (.aload_n 0, 1) := by decide +kernel
theorem dX3_nearOf_3 : decode cX3_nearOf 3 = .ok (.iload_n 1, 1) := by decide +kernel
theorem dX3_nearOf_4 : decode cX3_nearOf 4 = .ok (.invokevirtual 68, 3) := by decide +kernel
theorem dX3_nearOf_7 : decode cX3_nearOf 7 = .ok (.invokevirtual 71, 3) := by decide +kernel
theorem dX3_nearOf_10 : decode cX3_nearOf 10 = .ok (.ireturn, 1) := by decide +kernel
theorem dX3_whomOf_0 : decode cX3_whomOf 0 = .ok (.aload_n 0, 1) := by decide +kernel
theorem dX3_whomOf_1 : decode cX3_whomOf 1 = .ok (.aload_n 0, 1) := by decide +kernel
theorem dX3_whomOf_2 : decode cX3_whomOf 2 = .ok (.getfield 15, 3) := by decide +kernel
theorem dX3_whomOf_5 : decode cX3_whomOf 5 = .ok (.iload_n 1, 1) := by decide +kernel
theorem dX3_whomOf_6 : decode cX3_whomOf 6 = .ok (.iaload, 1) := by decide +kernel
theorem dX3_whomOf_7 : decode cX3_whomOf 7 = .ok (.invokestatic 49, 3) := by decide +kernel
theorem dX3_whomOf_10 : decode cX3_whomOf 10 = .ok (.invokevirtual 74, 3) := by decide +kernel
theorem dX3_whomOf_13 : decode cX3_whomOf 13 = .ok (.istore_n 2, 1) := by decide +kernel
theorem dX3_whomOf_14 : decode cX3_whomOf 14 = .ok (.iload_n 2, 1) := by decide +kernel
theorem dX3_whomOf_15 : decode cX3_whomOf 15 = .ok (.iconst (-1), 1) := by decide +kernel
theorem dX3_whomOf_16 : decode cX3_whomOf 16 = .ok (.if_icmp .eq 7, 3) := by decide +kernel
theorem dX3_whomOf_19 : decode cX3_whomOf 19 = .ok (.iload_n 2, 1) := by decide +kernel
theorem dX3_whomOf_20 : decode cX3_whomOf 20 = .ok (.goto 16, 3) := by decide +kernel
theorem dX3_whomOf_23 : decode cX3_whomOf 23 = .ok (.aload_n 0, 1) := by decide +kernel
theorem dX3_whomOf_24 : decode cX3_whomOf 24 = .ok (.aload_n 0, 1) := by decide +kernel
theorem dX3_whomOf_25 : decode cX3_whomOf 25 = .ok (.getfield 15, 3) := by decide +kernel
theorem dX3_whomOf_28 : decode cX3_whomOf 28 = .ok (.iload_n 1, 1) := by decide +kernel
theorem dX3_whomOf_29 : decode cX3_whomOf 29 = .ok (.iaload, 1) := by decide +kernel
theorem dX3_whomOf_30 : decode cX3_whomOf 30 = .ok (.invokestatic 53, 3) := by decide +kernel
theorem dX3_whomOf_33 : decode cX3_whomOf 33 = .ok (.invokevirtual 74, 3) := by decide +kernel
theorem dX3_whomOf_36 : decode cX3_whomOf 36 = .ok (.ireturn, 1) := by decide +kernel
theorem dX3_isGuarded_0 : decode cX3_isGuarded 0 = .ok (.iload_n 1, 1) := by decide +kernel
theorem dX3_isGuarded_1 : decode cX3_isGuarded 1 = .ok (.aload_n 0, 1) := by decide +kernel
theorem dX3_isGuarded_2 : decode cX3_isGuarded 2 = .ok (.getfield 27, 3) := by decide +kernel
theorem dX3_isGuarded_5 : decode cX3_isGuarded 5 = .ok (.if_icmp .eq 25, 3) := by decide +kernel
theorem dX3_isGuarded_8 : decode cX3_isGuarded 8 = .ok (.iload_n 1, 1) := by decide +kernel
theorem dX3_isGuarded_9 : decode cX3_isGuarded 9 = .ok (.aload_n 0, 1) := by decide +kernel
theorem dX3_isGuarded_10 : decode cX3_isGuarded 10 = .ok (.getfield 27, 3) := by decide +kernel
theorem dX3_isGuarded_13 : decode cX3_isGuarded 13 = .ok (.invokestatic 49, 3) := by decide +kernel
theorem dX3_isGuarded_16 : decode cX3_isGuarded 16 = .ok (.if_icmp .eq 14, 3) := by decide +kernel
theorem dX3_isGuarded_19 : decode cX3_isGuarded 19 = .ok (.iload_n 1, 1) := by decide +kernel
theorem dX3_isGuarded_20 : decode cX3_isGuarded 20 = .ok (.aload_n 0, 1) := by decide +kernel
theorem dX3_isGuarded_21 : decode cX3_isGuarded 21 = .ok (.getfield 27, 3) := by decide +kernel
theorem dX3_isGuarded_24 : decode cX3_isGuarded 24 = .ok (.invokestatic 53, 3) := by decide +kernel
theorem dX3_isGuarded_27 : decode cX3_isGuarded 27 = .ok (.if_icmp .ne 7, 3) := by decide +kernel
theorem dX3_isGuarded_30 : decode cX3_isGuarded 30 = .ok (.iconst 1, 1) := by decide +kernel
theorem dX3_isGuarded_31 : decode cX3_isGuarded 31 = .ok (.goto 4, 3) := by decide +kernel
theorem dX3_isGuarded_34 : decode cX3_isGuarded 34 = .ok (.iconst 0, 1) := by decide +kernel
theorem dX3_isGuarded_35 : decode cX3_isGuarded 35 = .ok (.ireturn, 1) := by decide +kernel
theorem dX3_biters_0 : decode cX3_biters 0 = .ok (.aload_n 0, 1) := by decide +kernel
theorem dX3_biters_1 : decode cX3_biters 1 = .ok (.invokevirtual 56, 3) := by decide +kernel
theorem dX3_biters_4 : decode cX3_biters 4 = .ok (.istore_n 1, 1) := by decide +kernel
theorem dX3_biters_5 : decode cX3_biters 5 = .ok (.iconst 0, 1) := by decide +kernel
theorem dX3_biters_6 : decode cX3_biters 6 = .ok (.istore_n 2, 1) := by decide +kernel
theorem dX3_biters_7 : decode cX3_biters 7 = .ok (.iconst 0, 1) := by decide +kernel
theorem dX3_biters_8 : decode cX3_biters 8 = .ok (.istore_n 3, 1) := by decide +kernel
theorem dX3_biters_9 : decode cX3_biters 9 = .ok (.iload_n 3, 1) := by decide +kernel
theorem dX3_biters_10 : decode cX3_biters 10 = .ok (.aload_n 0, 1) := by decide +kernel
theorem dX3_biters_11 : decode cX3_biters 11 = .ok (.getfield 40, 3) := by decide +kernel
theorem dX3_biters_14 : decode cX3_biters 14 = .ok (.if_icmp .ge 57, 3) := by decide +kernel
theorem dX3_biters_17 : decode cX3_biters 17 = .ok (.iload_n 1, 1) := by decide +kernel
theorem dX3_biters_18 : decode cX3_biters 18 = .ok (.aload_n 0, 1) := by decide +kernel
theorem dX3_biters_19 : decode cX3_biters 19 = .ok (.getfield 15, 3) := by decide +kernel
theorem dX3_biters_22 : decode cX3_biters 22 = .ok (.iload_n 3, 1) := by decide +kernel
theorem dX3_biters_23 : decode cX3_biters 23 = .ok (.iaload, 1) := by decide +kernel
theorem dX3_biters_24 : decode cX3_biters 24 = .ok (.invokestatic 60, 3) := by decide +kernel
theorem dX3_biters_27 : decode cX3_biters 27 = .ok (.istore 4, 2) := by decide +kernel
theorem dX3_biters_29 : decode cX3_biters 29 = .ok (.iload 4, 2) := by decide +kernel
theorem dX3_biters_31 : decode cX3_biters 31 = .ok (.ifCond .le 34, 3) := by decide +kernel
theorem dX3_biters_34 : decode cX3_biters 34 = .ok (.aload_n 0, 1) := by decide +kernel
theorem dX3_biters_35 : decode cX3_biters 35 = .ok (.aload_n 0, 1) := by decide +kernel
theorem dX3_biters_36 : decode cX3_biters 36 = .ok (.getfield 15, 3) := by decide +kernel
theorem dX3_biters_39 : decode cX3_biters 39 = .ok (.iload_n 3, 1) := by decide +kernel
theorem dX3_biters_40 : decode cX3_biters 40 = .ok (.iaload, 1) := by decide +kernel
theorem dX3_biters_41 : decode cX3_biters 41 = .ok (.invokevirtual 77, 3) := by decide +kernel
theorem dX3_biters_44 : decode cX3_biters 44 = .ok (.ifCond .ne 21, 3) := by decide +kernel
theorem dX3_biters_47 : decode cX3_biters 47 = .ok (.aload_n 0, 1) := by decide +kernel
theorem dX3_biters_48 : decode cX3_biters 48 = .ok (.iload_n 3, 1) := by decide +kernel
theorem dX3_biters_49 : decode cX3_biters 49 = .ok (.iload 4, 2) := by decide +kernel
theorem dX3_biters_51 : decode cX3_biters 51 = .ok (.invokevirtual 71, 3) := by decide +kernel
theorem dX3_biters_54 : decode cX3_biters 54 = .ok (.bipush 12, 2) := by decide +kernel
theorem dX3_biters_56 : decode cX3_biters 56 = .ok (.if_icmp .lt 9, 3) := by decide +kernel
theorem dX3_biters_59 : decode cX3_biters 59 = .ok (.iload_n 2, 1) := by decide +kernel
theorem dX3_biters_60 : decode cX3_biters 60 = .ok (.iconst 1, 1) := by decide +kernel
theorem dX3_biters_61 : decode cX3_biters 61 = .ok (.iload_n 3, 1) := by decide +kernel
theorem dX3_biters_62 : decode cX3_biters 62 = .ok (.ishl, 1) := by decide +kernel
theorem dX3_biters_63 : decode cX3_biters 63 = .ok (.ior, 1) := by decide +kernel
theorem dX3_biters_64 : decode cX3_biters 64 = .ok (.istore_n 2, 1) := by decide +kernel
theorem dX3_biters_65 : decode cX3_biters 65 = .ok (.iinc 3 1, 3) := by decide +kernel
theorem dX3_biters_68 : decode cX3_biters 68 = .ok (.goto (-59), 3) := by decide +kernel
theorem dX3_biters_71 : decode cX3_biters 71 = .ok (.iload_n 2, 1) := by decide +kernel
theorem dX3_biters_72 : decode cX3_biters 72 = .ok (.ireturn, 1) := by decide +kernel
theorem dX3_timesBitten_0 : decode cX3_timesBitten 0 = .ok (.iconst 0, 1) := by decide +kernel
theorem dX3_timesBitten_1 : decode cX3_timesBitten 1 = .ok (.istore_n 3, 1) := by decide +kernel
theorem dX3_timesBitten_2 : decode cX3_timesBitten 2 = .ok (.iconst 0, 1) := by decide +kernel
theorem dX3_timesBitten_3 : decode cX3_timesBitten 3 = .ok (.istore 4, 2) := by decide +kernel
theorem dX3_timesBitten_5 : decode cX3_timesBitten 5 = .ok (.iload 4, 2) := by decide +kernel
theorem dX3_timesBitten_7 : decode cX3_timesBitten 7 = .ok (.aload_n 0, 1) := by decide +kernel
theorem dX3_timesBitten_8 : decode cX3_timesBitten 8 = .ok (.getfield 40, 3) := by decide +kernel
theorem dX3_timesBitten_11 : decode cX3_timesBitten 11 = .ok (.if_icmp .ge 32, 3) := by decide +kernel
theorem dX3_timesBitten_14 : decode cX3_timesBitten 14 = .ok (.iload_n 2, 1) := by decide +kernel
theorem dX3_timesBitten_15 : decode cX3_timesBitten 15 = .ok (.iload 4, 2) := by decide +kernel
theorem dX3_timesBitten_17 : decode cX3_timesBitten 17 = .ok (.ishr, 1) := by decide +kernel
theorem dX3_timesBitten_18 : decode cX3_timesBitten 18 = .ok (.iconst 1, 1) := by decide +kernel
theorem dX3_timesBitten_19 : decode cX3_timesBitten 19 = .ok (.iand, 1) := by decide +kernel
theorem dX3_timesBitten_20 : decode cX3_timesBitten 20 = .ok (.iconst 1, 1) := by decide +kernel
theorem dX3_timesBitten_21 : decode cX3_timesBitten 21 = .ok (.if_icmp .ne 16, 3) := by decide +kernel
theorem dX3_timesBitten_24 : decode cX3_timesBitten 24 = .ok (.aload_n 0, 1) := by decide +kernel
theorem dX3_timesBitten_25 : decode cX3_timesBitten 25 = .ok (.iload 4, 2) := by decide +kernel
theorem dX3_timesBitten_27 : decode cX3_timesBitten 27 = .ok (.invokevirtual 81, 3) := by decide +kernel
theorem dX3_timesBitten_30 : decode cX3_timesBitten 30 = .ok (.iload_n 1, 1) := by decide +kernel
theorem dX3_timesBitten_31 : decode cX3_timesBitten 31 = .ok (.if_icmp .ne 6, 3) := by decide +kernel
theorem dX3_timesBitten_34 : decode cX3_timesBitten 34 = .ok (.iinc 3 1, 3) := by decide +kernel
theorem dX3_timesBitten_37 : decode cX3_timesBitten 37 = .ok (.iinc 4 1, 3) := by decide +kernel
theorem dX3_timesBitten_40 : decode cX3_timesBitten 40 = .ok (.goto (-35), 3) := by decide +kernel
theorem dX3_timesBitten_43 : decode cX3_timesBitten 43 = .ok (.iload_n 3, 1) := by decide +kernel
theorem dX3_timesBitten_44 : decode cX3_timesBitten 44 = .ok (.ireturn, 1) := by decide +kernel
theorem dX3_giveCarrot_0 : decode cX3_giveCarrot 0 = .ok (.aload_n 0, 1) := by decide +kernel
theorem dX3_giveCarrot_1 : decode cX3_giveCarrot 1 = .ok (.getfield 21, 3) := by decide +kernel
theorem dX3_giveCarrot_4 : decode cX3_giveCarrot 4 = .ok (.iload_n 1, 1) := by decide +kernel
theorem dX3_giveCarrot_5 : decode cX3_giveCarrot 5 = .ok (.iconst 0, 1) := by decide +kernel
theorem dX3_giveCarrot_6 : decode cX3_giveCarrot 6 = .ok (.aload_n 0, 1) := by decide +kernel
theorem dX3_giveCarrot_7 : decode cX3_giveCarrot 7 = .ok (.getfield 21, 3) := by decide +kernel
theorem dX3_giveCarrot_10 : decode cX3_giveCarrot 10 = .ok (.iload_n 1, 1) := by decide +kernel
theorem dX3_giveCarrot_11 : decode cX3_giveCarrot 11 = .ok (.iaload, 1) := by decide +kernel
theorem dX3_giveCarrot_12 : decode cX3_giveCarrot 12 = .ok (.bipush 10, 2) := by decide +kernel
theorem dX3_giveCarrot_14 : decode cX3_giveCarrot 14 = .ok (.isub, 1) := by decide +kernel
theorem dX3_giveCarrot_15 : decode cX3_giveCarrot 15 = .ok (.invokestatic 84, 3) := by decide +kernel
theorem dX3_giveCarrot_18 : decode cX3_giveCarrot 18 = .ok (.iastore, 1) := by decide +kernel
theorem dX3_giveCarrot_19 : decode cX3_giveCarrot 19 = .ok (.aload_n 0, 1) := by decide +kernel
theorem dX3_giveCarrot_20 : decode cX3_giveCarrot 20 = .ok (.getfield 21, 3) := by decide +kernel
theorem dX3_giveCarrot_23 : decode cX3_giveCarrot 23 = .ok (.iload_n 1, 1) := by decide +kernel
theorem dX3_giveCarrot_24 : decode cX3_giveCarrot 24 = .ok (.iaload, 1) := by decide +kernel
theorem dX3_giveCarrot_25 : decode cX3_giveCarrot 25 = .ok (.ireturn, 1) := by decide +kernel
theorem dX3_passMinutes_0 : decode cX3_passMinutes 0 = .ok (.iconst 0, 1) := by decide +kernel
theorem dX3_passMinutes_1 : decode cX3_passMinutes 1 = .ok (.istore_n 2, 1) := by decide +kernel
theorem dX3_passMinutes_2 : decode cX3_passMinutes 2 = .ok (.iconst 0, 1) := by decide +kernel
theorem dX3_passMinutes_3 : decode cX3_passMinutes 3 = .ok (.istore_n 3, 1) := by decide +kernel
theorem dX3_passMinutes_4 : decode cX3_passMinutes 4 = .ok (.iload_n 3, 1) := by decide +kernel
theorem dX3_passMinutes_5 : decode cX3_passMinutes 5 = .ok (.iload_n 1, 1) := by decide +kernel
theorem dX3_passMinutes_6 : decode cX3_passMinutes 6 = .ok (.if_icmp .ge 16, 3) := by decide +kernel
theorem dX3_passMinutes_9 : decode cX3_passMinutes 9 = .ok (.iload_n 2, 1) := by decide +kernel
theorem dX3_passMinutes_10 : decode cX3_passMinutes 10 = .ok (.aload_n 0, 1) := by decide +kernel
theorem dX3_passMinutes_11 : decode cX3_passMinutes 11 = .ok (.invokevirtual 89, 3) := by decide +kernel
theorem dX3_passMinutes_14 : decode cX3_passMinutes 14 = .ok (.iadd, 1) := by decide +kernel
theorem dX3_passMinutes_15 : decode cX3_passMinutes 15 = .ok (.istore_n 2, 1) := by decide +kernel
theorem dX3_passMinutes_16 : decode cX3_passMinutes 16 = .ok (.iinc 3 1, 3) := by decide +kernel
theorem dX3_passMinutes_19 : decode cX3_passMinutes 19 = .ok (.goto (-15), 3) := by decide +kernel
theorem dX3_passMinutes_22 : decode cX3_passMinutes 22 = .ok (.iload_n 2, 1) := by decide +kernel
theorem dX3_passMinutes_23 : decode cX3_passMinutes 23 = .ok (.ireturn, 1) := by decide +kernel
theorem dX3_passMinute_0 : decode cX3_passMinute 0 = .ok (.aload_n 0, 1) := by decide +kernel
theorem dX3_passMinute_1 : decode cX3_passMinute 1 = .ok (.invokevirtual 92, 3) := by decide +kernel
theorem dX3_passMinute_4 : decode cX3_passMinute 4 = .ok (.istore_n 1, 1) := by decide +kernel
theorem dX3_passMinute_5 : decode cX3_passMinute 5 = .ok (.iconst 0, 1) := by decide +kernel
theorem dX3_passMinute_6 : decode cX3_passMinute 6 = .ok (.istore_n 2, 1) := by decide +kernel
theorem dX3_passMinute_7 : decode cX3_passMinute 7 = .ok (.iload_n 2, 1) := by decide +kernel
theorem dX3_passMinute_8 : decode cX3_passMinute 8 = .ok (.aload_n 0, 1) := by decide +kernel
theorem dX3_passMinute_9 : decode cX3_passMinute 9 = .ok (.getfield 40, 3) := by decide +kernel
theorem dX3_passMinute_12 : decode cX3_passMinute 12 = .ok (.if_icmp .ge 71, 3) := by decide +kernel
theorem dX3_passMinute_15 : decode cX3_passMinute 15 = .ok (.aload_n 0, 1) := by decide +kernel
theorem dX3_passMinute_16 : decode cX3_passMinute 16 = .ok (.getfield 24, 3) := by decide +kernel
theorem dX3_passMinute_19 : decode cX3_passMinute 19 = .ok (.iload_n 2, 1) := by decide +kernel
theorem dX3_passMinute_20 : decode cX3_passMinute 20 = .ok (.dup2, 1) := by decide +kernel
theorem dX3_passMinute_21 : decode cX3_passMinute 21 = .ok (.iaload, 1) := by decide +kernel
theorem dX3_passMinute_22 : decode cX3_passMinute 22 = .ok (.aload_n 0, 1) := by decide +kernel
theorem dX3_passMinute_23 : decode cX3_passMinute 23 = .ok (.iload_n 2, 1) := by decide +kernel
theorem dX3_passMinute_24 : decode cX3_passMinute 24 = .ok (.iload_n 1, 1) := by decide +kernel
theorem dX3_passMinute_25 : decode cX3_passMinute 25 = .ok (.invokevirtual 95, 3) := by decide +kernel
theorem dX3_passMinute_28 : decode cX3_passMinute 28 = .ok (.iadd, 1) := by decide +kernel
theorem dX3_passMinute_29 : decode cX3_passMinute 29 = .ok (.iastore, 1) := by decide +kernel
theorem dX3_passMinute_30 : decode cX3_passMinute 30 = .ok (.iload_n 1, 1) := by decide +kernel
theorem dX3_passMinute_31 : decode cX3_passMinute 31 = .ok (.iload_n 2, 1) := by decide +kernel
theorem dX3_passMinute_32 : decode cX3_passMinute 32 = .ok (.ishr, 1) := by decide +kernel
theorem dX3_passMinute_33 : decode cX3_passMinute 33 = .ok (.iconst 1, 1) := by decide +kernel
theorem dX3_passMinute_34 : decode cX3_passMinute 34 = .ok (.iand, 1) := by decide +kernel
theorem dX3_passMinute_35 : decode cX3_passMinute 35 = .ok (.iconst 1, 1) := by decide +kernel
theorem dX3_passMinute_36 : decode cX3_passMinute 36 = .ok (.if_icmp .ne 22, 3) := by decide +kernel
theorem dX3_passMinute_39 : decode cX3_passMinute 39 = .ok (.aload_n 0, 1) := by decide +kernel
theorem dX3_passMinute_40 : decode cX3_passMinute 40 = .ok (.getfield 21, 3) := by decide +kernel
theorem dX3_passMinute_43 : decode cX3_passMinute 43 = .ok (.iload_n 2, 1) := by decide +kernel
theorem dX3_passMinute_44 : decode cX3_passMinute 44 = .ok (.iconst 0, 1) := by decide +kernel
theorem dX3_passMinute_45 : decode cX3_passMinute 45 = .ok (.aload_n 0, 1) := by decide +kernel
theorem dX3_passMinute_46 : decode cX3_passMinute 46 = .ok (.getfield 21, 3) := by decide +kernel
theorem dX3_passMinute_49 : decode cX3_passMinute 49 = .ok (.iload_n 2, 1) := by decide +kernel
theorem dX3_passMinute_50 : decode cX3_passMinute 50 = .ok (.iaload, 1) := by decide +kernel
theorem dX3_passMinute_51 : decode cX3_passMinute 51 = .ok (.bipush 8, 2) := by decide +kernel
theorem dX3_passMinute_53 : decode cX3_passMinute 53 = .ok (.isub, 1) := by decide +kernel
theorem dX3_passMinute_54 : decode cX3_passMinute 54 = .ok (.invokestatic 84, 3) := by decide +kernel
theorem dX3_passMinute_57 : decode cX3_passMinute 57 = .ok (.iastore, 1) := by decide +kernel
theorem dX3_passMinute_58 : decode cX3_passMinute 58 = .ok (.aload_n 0, 1) := by decide +kernel
theorem dX3_passMinute_59 : decode cX3_passMinute 59 = .ok (.getfield 21, 3) := by decide +kernel
theorem dX3_passMinute_62 : decode cX3_passMinute 62 = .ok (.iload_n 2, 1) := by decide +kernel
theorem dX3_passMinute_63 : decode cX3_passMinute 63 = .ok (.bipush 30, 2) := by decide +kernel
theorem dX3_passMinute_65 : decode cX3_passMinute 65 = .ok (.aload_n 0, 1) := by decide +kernel
theorem dX3_passMinute_66 : decode cX3_passMinute 66 = .ok (.getfield 21, 3) := by decide +kernel
theorem dX3_passMinute_69 : decode cX3_passMinute 69 = .ok (.iload_n 2, 1) := by decide +kernel
theorem dX3_passMinute_70 : decode cX3_passMinute 70 = .ok (.iaload, 1) := by decide +kernel
theorem dX3_passMinute_71 : decode cX3_passMinute 71 = .ok (.iconst 1, 1) := by decide +kernel
theorem dX3_passMinute_72 : decode cX3_passMinute 72 = .ok (.iadd, 1) := by decide +kernel
theorem dX3_passMinute_73 : decode cX3_passMinute 73 = .ok (.invokestatic 98, 3) := by decide +kernel
theorem dX3_passMinute_76 : decode cX3_passMinute 76 = .ok (.iastore, 1) := by decide +kernel
theorem dX3_passMinute_77 : decode cX3_passMinute 77 = .ok (.iinc 2 1, 3) := by decide +kernel
theorem dX3_passMinute_80 : decode cX3_passMinute 80 = .ok (.goto (-73), 3) := by decide +kernel
theorem dX3_passMinute_83 : decode cX3_passMinute 83 = .ok (.aload_n 0, 1) := by decide +kernel
theorem dX3_passMinute_84 : decode cX3_passMinute 84 = .ok (.iload_n 1, 1) := by decide +kernel
theorem dX3_passMinute_85 : decode cX3_passMinute 85 = .ok (.invokestatic 101, 3) := by decide +kernel
theorem dX3_passMinute_88 : decode cX3_passMinute 88 = .ok (.putfield 37, 3) := by decide +kernel
theorem dX3_passMinute_91 : decode cX3_passMinute 91 = .ok (.aload_n 0, 1) := by decide +kernel
theorem dX3_passMinute_92 : decode cX3_passMinute 92 = .ok (.dup, 1) := by decide +kernel
theorem dX3_passMinute_93 : decode cX3_passMinute 93 = .ok (.getfield 34, 3) := by decide +kernel
theorem dX3_passMinute_96 : decode cX3_passMinute 96 = .ok (.aload_n 0, 1) := by decide +kernel
theorem dX3_passMinute_97 : decode cX3_passMinute 97 = .ok (.getfield 37, 3) := by decide +kernel
theorem dX3_passMinute_100 : decode cX3_passMinute 100 = .ok (.iadd, 1) := by decide +kernel
theorem dX3_passMinute_101 : decode cX3_passMinute 101 = .ok (.putfield 34, 3) := by decide +kernel
theorem dX3_passMinute_104 : decode cX3_passMinute 104 = .ok (.aload_n 0, 1) := by decide +kernel
theorem dX3_passMinute_105 : decode cX3_passMinute 105 = .ok (.dup, 1) := by decide +kernel
theorem dX3_passMinute_106 : decode cX3_passMinute 106 = .ok (.getfield 31, 3) := by decide +kernel
theorem dX3_passMinute_109 : decode cX3_passMinute 109 = .ok (.iconst 1, 1) := by decide +kernel
theorem dX3_passMinute_110 : decode cX3_passMinute 110 = .ok (.iadd, 1) := by decide +kernel
theorem dX3_passMinute_111 : decode cX3_passMinute 111 = .ok (.putfield 31, 3) := by decide +kernel
theorem dX3_passMinute_114 : decode cX3_passMinute 114 = .ok (.aload_n 0, 1) := by decide +kernel
theorem dX3_passMinute_115 : decode cX3_passMinute 115 = .ok (.getfield 37, 3) := by decide +kernel
theorem dX3_passMinute_118 : decode cX3_passMinute 118 = .ok (.ireturn, 1) := by decide +kernel
theorem dX4_init_0 : decode cX4_init 0 = .ok (.aload_n 0, 1) := by decide +kernel
theorem dX4_init_1 : decode cX4_init 1 = .ok (.invokespecial 3, 3) := by decide +kernel
theorem dX4_init_4 : decode cX4_init 4 = .ok (.aload_n 0, 1) := by decide +kernel
theorem dX4_init_5 : decode cX4_init 5 = .ok (.sipush 150, 3) := by decide +kernel
theorem dX4_init_8 : decode cX4_init 8 = .ok (.newarray .byte, 2) := by decide +kernel
theorem dX4_init_10 : decode cX4_init 10 = .ok (.putfield 9, 3) := by decide +kernel
theorem dX4_init_13 : decode cX4_init 13 = .ok (.return_, 1) := by decide +kernel
theorem dX4_append_0 : decode cX4_append 0 = .ok (.aload_n 0, 1) := by decide +kernel
theorem dX4_append_1 : decode cX4_append 1 = .ok (.getfield 15, 3) := by decide +kernel
theorem dX4_append_4 : decode cX4_append 4 = .ok (.sipush 150, 3) := by decide +kernel
theorem dX4_append_7 : decode cX4_append 7 = .ok (.if_icmp .ge 24, 3) := by decide +kernel
theorem dX4_append_10 : decode cX4_append 10 = .ok (.aload_n 0, 1) := by decide +kernel
theorem dX4_append_11 : decode cX4_append 11 = .ok (.getfield 9, 3) := by decide +kernel
theorem dX4_append_14 : decode cX4_append 14 = .ok (.aload_n 0, 1) := by decide +kernel
theorem dX4_append_15 : decode cX4_append 15 = .ok (.getfield 15, 3) := by decide +kernel
theorem dX4_append_18 : decode cX4_append 18 = .ok (.iload_n 1, 1) := by decide +kernel
theorem dX4_append_19 : decode cX4_append 19 = .ok (.i2b, 1) := by decide +kernel
theorem dX4_append_20 : decode cX4_append 20 = .ok (.bastore, 1) := by decide +kernel
theorem dX4_append_21 : decode cX4_append 21 = .ok (.aload_n 0, 1) := by decide +kernel
theorem dX4_append_22 : decode cX4_append 22 = .ok (.dup, 1) := by decide +kernel
theorem dX4_append_23 : decode cX4_append 23 = .ok (.getfield 15, 3) := by decide +kernel
theorem dX4_append_26 : decode cX4_append 26 = .ok (.iconst 1, 1) := by decide +kernel
theorem dX4_append_27 : decode cX4_append 27 = .ok (.iadd, 1) := by decide +kernel
theorem dX4_append_28 : decode cX4_append 28 = .ok (.putfield 15, 3) := by decide +kernel
theorem dX4_append_31 : decode cX4_append 31 = .ok (.aload_n 0, 1) := by decide +kernel
theorem dX4_append_32 : decode cX4_append 32 = .ok (.getfield 15, 3) := by decide +kernel
theorem dX4_append_35 : decode cX4_append 35 = .ok (.ireturn, 1) := by decide +kernel
theorem dX4_readInto_0 : decode cX4_readInto 0 = .ok (.aload_n 1, 1) := by decide +kernel
theorem dX4_readInto_1 : decode cX4_readInto 1 = .ok (.iconst 0, 1) := by decide +kernel
theorem dX4_readInto_2 : decode cX4_readInto 2 = .ok (.invokevirtual 19, 3) := by decide +kernel
theorem dX4_readInto_5 : decode cX4_readInto 5 = .ok (.aload_n 0, 1) := by decide +kernel
theorem dX4_readInto_6 : decode cX4_readInto 6 = .ok (.iconst 0, 1) := by decide +kernel
theorem dX4_readInto_7 : decode cX4_readInto 7 = .ok (.putfield 25, 3) := by decide +kernel
theorem dX4_readInto_10 : decode cX4_readInto 10 = .ok (.iconst 0, 1) := by decide +kernel
theorem dX4_readInto_11 : decode cX4_readInto 11 = .ok (.istore_n 2, 1) := by decide +kernel
theorem dX4_readInto_12 : decode cX4_readInto 12 = .ok (.aload_n 0, 1) := by decide +kernel
theorem dX4_readInto_13 : decode cX4_readInto 13 = .ok (.invokevirtual 28, 3) := by decide +kernel
theorem dX4_readInto_16 : decode cX4_readInto 16 = .ok (.aload_n 0, 1) := by decide +kernel
theorem dX4_readInto_17 : decode cX4_readInto 17 = .ok (.getfield 31, 3) := by decide +kernel
theorem dX4_readInto_20 : decode cX4_readInto 20 = .ok (.iconst 3, 1) := by decide +kernel
theorem dX4_readInto_21 : decode cX4_readInto 21 = .ok (.if_icmp .ne 15, 3) := by decide +kernel
theorem dX4_readInto_24 : decode cX4_readInto 24 = .ok (.aload_n 0, 1) := by decide +kernel
theorem dX4_readInto_25 : decode cX4_readInto 25 = .ok (.aload_n 1, 1) := by decide +kernel
theorem dX4_readInto_26 : decode cX4_readInto 26 = .ok (.invokevirtual 34, 3) := by decide +kernel
theorem dX4_readInto_29 : decode cX4_readInto 29 = .ok (.ifCond .eq 7, 3) := by decide +kernel
theorem dX4_readInto_32 : decode cX4_readInto 32 = .ok (.iconst 1, 1) := by decide +kernel
theorem dX4_readInto_33 : decode cX4_readInto 33 = .ok (.goto 4, 3) := by decide +kernel
theorem dX4_readInto_36 : decode cX4_readInto 36 = .ok (.iconst 0, 1) := by decide +kernel
theorem dX4_readInto_37 : decode cX4_readInto 37 = .ok (.istore_n 3, 1) := by decide +kernel
theorem dX4_readInto_38 : decode cX4_readInto 38 = .ok (.iload_n 3, 1) := by decide +kernel
theorem dX4_readInto_39 : decode cX4_readInto 39 = .ok (.ifCond .eq 72, 3) := by decide +kernel
theorem dX4_readInto_42 : decode cX4_readInto 42 = .ok (.aload_n 0, 1) := by decide +kernel
theorem dX4_readInto_43 : decode cX4_readInto 43 = .ok (.getfield 31, 3) := by decide +kernel
theorem dX4_readInto_46 : decode cX4_readInto 46 = .ok (.ifCond .eq 65, 3) := by decide +kernel
theorem dX4_readInto_49 : decode cX4_readInto 49 = .ok (.iload_n 2, 1) := by decide +kernel
theorem dX4_readInto_50 : decode cX4_readInto 50 = .ok (.sipush 150, 3) := by decide +kernel
theorem dX4_readInto_53 : decode cX4_readInto 53 = .ok (.if_icmp .ge 58, 3) := by decide +kernel
theorem dX4_readInto_56 : decode cX4_readInto 56 = .ok (.iinc 2 1, 3) := by decide +kernel
theorem dX4_readInto_59 : decode cX4_readInto 59 = .ok (.aload_n 0, 1) := by decide +kernel
theorem dX4_readInto_60 : decode cX4_readInto 60 = .ok (.invokevirtual 28, 3) := by decide +kernel
theorem dX4_readInto_63 : decode cX4_readInto 63 = .ok (.aload_n 0, 1) := by decide +kernel
theorem dX4_readInto_64 : decode cX4_readInto 64 = .ok (.getfield 31, 3) := by decide +kernel
theorem dX4_readInto_67 : decode cX4_readInto 67 = .ok (.iconst 4, 1) := by decide +kernel
theorem dX4_readInto_68 : decode cX4_readInto 68 = .ok (.if_icmp .ne 11, 3) := by decide +kernel
theorem dX4_readInto_71 : decode cX4_readInto 71 = .ok (.aload_n 0, 1) := by decide +kernel
theorem dX4_readInto_72 : decode cX4_readInto 72 = .ok (.aload_n 1, 1) := by decide +kernel
theorem dX4_readInto_73 : decode cX4_readInto 73 = .ok (.invokevirtual 38, 3) := by decide +kernel
theorem dX4_readInto_76 : decode cX4_readInto 76 = .ok (.goto 31, 3) := by decide +kernel
theorem dX4_readInto_79 : decode cX4_readInto 79 = .ok (.aload_n 0, 1) := by decide +kernel
theorem dX4_readInto_80 : decode cX4_readInto 80 = .ok (.getfield 31, 3) := by decide +kernel
theorem dX4_readInto_83 : decode cX4_readInto 83 = .ok (.iconst 5, 1) := by decide +kernel
theorem dX4_readInto_84 : decode cX4_readInto 84 = .ok (.if_icmp .ne 11, 3) := by decide +kernel
theorem dX4_readInto_87 : decode cX4_readInto 87 = .ok (.aload_n 0, 1) := by decide +kernel
theorem dX4_readInto_88 : decode cX4_readInto 88 = .ok (.aload_n 1, 1) := by decide +kernel
theorem dX4_readInto_89 : decode cX4_readInto 89 = .ok (.invokevirtual 41, 3) := by decide +kernel
theorem dX4_readInto_92 : decode cX4_readInto 92 = .ok (.goto 15, 3) := by decide +kernel
theorem dX4_readInto_95 : decode cX4_readInto 95 = .ok (.aload_n 0, 1) := by decide +kernel
theorem dX4_readInto_96 : decode cX4_readInto 96 = .ok (.getfield 31, 3) := by decide +kernel
theorem dX4_readInto_99 : decode cX4_readInto 99 = .ok (.ifCond .ne 7, 3) := by decide +kernel
theorem dX4_readInto_102 : decode cX4_readInto 102 = .ok (.iconst 1, 1) := by decide +kernel
theorem dX4_readInto_103 : decode cX4_readInto 103 = .ok (.goto 4, 3) := by decide +kernel
theorem dX4_readInto_106 : decode cX4_readInto 106 = .ok (.iconst 0, 1) := by decide +kernel
theorem dX4_readInto_107 : decode cX4_readInto 107 = .ok (.istore_n 3, 1) := by decide +kernel
theorem dX4_readInto_108 : decode cX4_readInto 108 = .ok (.goto (-70), 3) := by decide +kernel
theorem dX4_readInto_111 : decode cX4_readInto 111 = .ok (.iload_n 3, 1) := by decide +kernel
theorem dX4_readInto_112 : decode cX4_readInto 112 = .ok (.ifCond .eq 7, 3) := by decide +kernel
theorem dX4_readInto_115 : decode cX4_readInto 115 = .ok (.iload_n 2, 1) := by decide +kernel
theorem dX4_readInto_116 : decode cX4_readInto 116 = .ok (.goto 10, 3) := by decide +kernel
theorem dX4_readInto_119 : decode cX4_readInto 119 = .ok (.bipush (-10), 2) := by decide +kernel
theorem dX4_readInto_121 : decode cX4_readInto 121 = .ok (.aload_n 0, 1) := by decide +kernel
theorem dX4_readInto_122 : decode cX4_readInto 122 = .ok (.getfield 44, 3) := by decide +kernel
theorem dX4_readInto_125 : decode cX4_readInto 125 = .ok (.isub, 1) := by decide +kernel
theorem dX4_readInto_126 : decode cX4_readInto 126 = .ok (.ireturn, 1) := by decide +kernel
theorem dX4_readWoman_0 : decode cX4_readWoman 0 = .ok (.aload_n 0, 1) := by decide +kernel
theorem dX4_readWoman_1 : decode cX4_readWoman 1 = .ok (.bipush 7, 2) := by decide +kernel
theorem dX4_readWoman_3 : decode cX4_readWoman 3 = .ok (.invokevirtual 47, 3) := by decide +kernel
theorem dX4_readWoman_6 : decode cX4_readWoman 6 = .ok (.ifCond .ne 5, 3) := by decide +kernel
theorem dX4_readWoman_9 : decode cX4_readWoman 9 = .ok (.iconst 0, 1) := by decide +kernel
theorem dX4_readWoman_10 : decode cX4_readWoman 10 = .ok (.ireturn, 1) := by decide +kernel
theorem dX4_readWoman_11 : decode cX4_readWoman 11 = .ok (.aload_n 1, 1) := by decide +kernel
theorem dX4_readWoman_12 : decode cX4_readWoman 12 = .ok (.aload_n 0, 1) := by decide +kernel
theorem dX4_readWoman_13 : decode cX4_readWoman 13 = .ok (.getfield 51, 3) := by decide +kernel
theorem dX4_readWoman_16 : decode cX4_readWoman 16 = .ok (.putfield 54, 3) := by decide +kernel
theorem dX4_readWoman_19 : decode cX4_readWoman 19 = .ok (.aload_n 0, 1) := by decide +kernel
theorem dX4_readWoman_20 : decode cX4_readWoman 20 = .ok (.invokevirtual 57, 3) := by decide +kernel
theorem dX4_readWoman_23 : decode cX4_readWoman 23 = .ok (.ireturn, 1) := by decide +kernel
theorem dX4_readChild_0 : decode cX4_readChild 0 = .ok (.aload_n 1, 1) := by decide +kernel
theorem dX4_readChild_1 : decode cX4_readChild 1 = .ok (.getfield 61, 3) := by decide +kernel
theorem dX4_readChild_4 : decode cX4_readChild 4 = .ok (.bipush 6, 2) := by decide +kernel
theorem dX4_readChild_6 : decode cX4_readChild 6 = .ok (.if_icmp .ge 11, 3) := by decide +kernel
theorem dX4_readChild_9 : decode cX4_readChild 9 = .ok (.aload_n 0, 1) := by decide +kernel
theorem dX4_readChild_10 : decode cX4_readChild 10 = .ok (.iconst 5, 1) := by decide +kernel
theorem dX4_readChild_11 : decode cX4_readChild 11 = .ok (.invokevirtual 47, 3) := by decide +kernel
theorem dX4_readChild_14 : decode cX4_readChild 14 = .ok (.ifCond .ne 5, 3) := by decide +kernel
theorem dX4_readChild_17 : decode cX4_readChild 17 = .ok (.iconst 0, 1) := by decide +kernel
theorem dX4_readChild_18 : decode cX4_readChild 18 = .ok (.ireturn, 1) := by decide +kernel
theorem dX4_readChild_19 : decode cX4_readChild 19 = .ok (.aload_n 0, 1) := by decide +kernel
theorem dX4_readChild_20 : decode cX4_readChild 20 = .ok (.getfield 51, 3) := by decide +kernel
theorem dX4_readChild_23 : decode cX4_readChild 23 = .ok (.istore_n 2, 1) := by decide +kernel
theorem dX4_readChild_24 : decode cX4_readChild 24 = .ok (.aload_n 0, 1) := by decide +kernel
theorem dX4_readChild_25 : decode cX4_readChild 25 = .ok (.bipush 7, 2) := by decide +kernel
theorem dX4_readChild_27 : decode cX4_readChild 27 = .ok (.invokevirtual 47, 3) := by decide +kernel
theorem dX4_readChild_30 : decode cX4_readChild 30 = .ok (.ifCond .eq 15, 3) := by decide +kernel
theorem dX4_readChild_33 : decode cX4_readChild 33 = .ok (.aload_n 1, 1) := by decide +kernel
theorem dX4_readChild_34 : decode cX4_readChild 34 = .ok (.aload_n 0, 1) := by decide +kernel
theorem dX4_readChild_35 : decode cX4_readChild 35 = .ok (.getfield 51, 3) := by decide +kernel
theorem dX4_readChild_38 : decode cX4_readChild 38 = .ok (.invokevirtual 64, 3) := by decide +kernel
theorem dX4_readChild_41 : decode cX4_readChild 41 = .ok (.iconst (-1), 1) := by decide +kernel
theorem dX4_readChild_42 : decode cX4_readChild 42 = .ok (.if_icmp .eq 5, 3) := by decide +kernel
theorem dX4_readChild_45 : decode cX4_readChild 45 = .ok (.iconst 0, 1) := by decide +kernel
theorem dX4_readChild_46 : decode cX4_readChild 46 = .ok (.ireturn, 1) := by decide +kernel
theorem dX4_readChild_47 : decode cX4_readChild 47 = .ok (.aload_n 0, 1) := by decide +kernel
theorem dX4_readChild_48 : decode cX4_readChild 48 = .ok (.getfield 51, 3) := by decide +kernel
theorem dX4_readChild_51 : decode cX4_readChild 51 = .ok (.istore_n 3, 1) := by decide +kernel
theorem dX4_readChild_52 : decode cX4_readChild 52 = .ok (.aload_n 0, 1) := by decide +kernel
theorem dX4_readChild_53 : decode cX4_readChild 53 = .ok (.bipush 20, 2) := by decide +kernel
theorem dX4_readChild_55 : decode cX4_readChild 55 = .ok (.invokevirtual 47, 3) := by decide +kernel
theorem dX4_readChild_58 : decode cX4_readChild 58 = .ok (.ifCond .ne 5, 3) := by decide +kernel
theorem dX4_readChild_61 : decode cX4_readChild 61 = .ok (.iconst 0, 1) := by decide +kernel
theorem dX4_readChild_62 : decode cX4_readChild 62 = .ok (.ireturn, 1) := by decide +kernel
theorem dX4_readChild_63 : decode cX4_readChild 63 = .ok (.aload_n 0, 1) := by decide +kernel
theorem dX4_readChild_64 : decode cX4_readChild 64 = .ok (.getfield 51, 3) := by decide +kernel
theorem dX4_readChild_67 : decode cX4_readChild 67 = .ok (.istore 4, 2) := by decide +kernel
theorem dX4_readChild_69 : decode cX4_readChild 69 = .ok (.aload_n 0, 1) := by decide +kernel
theorem dX4_readChild_70 : decode cX4_readChild 70 = .ok (.bipush 30, 2) := by decide +kernel
theorem dX4_readChild_72 : decode cX4_readChild 72 = .ok (.invokevirtual 47, 3) := by decide +kernel
theorem dX4_readChild_75 : decode cX4_readChild 75 = .ok (.ifCond .ne 5, 3) := by decide +kernel
theorem dX4_readChild_78 : decode cX4_readChild 78 = .ok (.iconst 0, 1) := by decide +kernel
theorem dX4_readChild_79 : decode cX4_readChild 79 = .ok (.ireturn, 1) := by decide +kernel
theorem dX4_readChild_80 : decode cX4_readChild 80 = .ok (.aload_n 1, 1) := by decide +kernel
theorem dX4_readChild_81 : decode cX4_readChild 81 = .ok (.iload_n 2, 1) := by decide +kernel
theorem dX4_readChild_82 : decode cX4_readChild 82 = .ok (.iload_n 3, 1) := by decide +kernel
theorem dX4_readChild_83 : decode cX4_readChild 83 = .ok (.iload 4, 2) := by decide +kernel
theorem dX4_readChild_85 : decode cX4_readChild 85 = .ok (.aload_n 0, 1) := by decide +kernel
theorem dX4_readChild_86 : decode cX4_readChild 86 = .ok (.getfield 51, 3) := by decide +kernel
theorem dX4_readChild_89 : decode cX4_readChild 89 = .ok (.invokevirtual 68, 3) := by decide +kernel
theorem dX4_readChild_92 : decode cX4_readChild 92 = .ok (.pop, 1) := by decide +kernel
theorem dX4_readChild_93 : decode cX4_readChild 93 = .ok (.aload_n 0, 1) := by decide +kernel
theorem dX4_readChild_94 : decode cX4_readChild 94 = .ok (.invokevirtual 57, 3) := by decide +kernel
theorem dX4_readChild_97 : decode cX4_readChild 97 = .ok (.ireturn, 1) := by decide +kernel
theorem dX4_readCarrot_0 : decode cX4_readCarrot 0 = .ok (.aload_n 0, 1) := by decide +kernel
theorem dX4_readCarrot_1 : decode cX4_readCarrot 1 = .ok (.aload_n 1, 1) := by decide +kernel
theorem dX4_readCarrot_2 : decode cX4_readCarrot 2 = .ok (.getfield 61, 3) := by decide +kernel
theorem dX4_readCarrot_5 : decode cX4_readCarrot 5 = .ok (.iconst 1, 1) := by decide +kernel
theorem dX4_readCarrot_6 : decode cX4_readCarrot 6 = .ok (.isub, 1) := by decide +kernel
theorem dX4_readCarrot_7 : decode cX4_readCarrot 7 = .ok (.invokevirtual 47, 3) := by decide +kernel
theorem dX4_readCarrot_10 : decode cX4_readCarrot 10 = .ok (.ifCond .ne 5, 3) := by decide +kernel
theorem dX4_readCarrot_13 : decode cX4_readCarrot 13 = .ok (.iconst 0, 1) := by decide +kernel
theorem dX4_readCarrot_14 : decode cX4_readCarrot 14 = .ok (.ireturn, 1) := by decide +kernel
theorem dX4_readCarrot_15 : decode cX4_readCarrot 15 = .ok (.aload_n 1, 1) := by decide +kernel
theorem dX4_readCarrot_16 : decode cX4_readCarrot 16 = .ok (.aload_n 0, 1) := by decide +kernel
theorem dX4_readCarrot_17 : decode cX4_readCarrot 17 = .ok (.getfield 51, 3) := by decide +kernel
theorem dX4_readCarrot_20 : decode cX4_readCarrot 20 = .ok (.invokevirtual 72, 3) := by decide +kernel
theorem dX4_readCarrot_23 : decode cX4_readCarrot 23 = .ok (.pop, 1) := by decide +kernel
theorem dX4_readCarrot_24 : decode cX4_readCarrot 24 = .ok (.aload_n 0, 1) := by decide +kernel
theorem dX4_readCarrot_25 : decode cX4_readCarrot 25 = .ok (.invokevirtual 57, 3) := by decide +kernel
theorem dX4_readCarrot_28 : decode cX4_readCarrot 28 = .ok (.ireturn, 1) := by decide +kernel
theorem dX4_nextNumber_0 : decode cX4_nextNumber 0 = .ok (.aload_n 0, 1) := by decide +kernel
theorem dX4_nextNumber_1 : decode cX4_nextNumber 1 = .ok (.invokevirtual 28, 3) := by decide +kernel
theorem dX4_nextNumber_4 : decode cX4_nextNumber 4 = .ok (.aload_n 0, 1) := by decide +kernel
theorem dX4_nextNumber_5 : decode cX4_nextNumber 5 = .ok (.getfield 31, 3) := by decide +kernel
theorem dX4_nextNumber_8 : decode cX4_nextNumber 8 = .ok (.iconst 2, 1) := by decide +kernel
theorem dX4_nextNumber_9 : decode cX4_nextNumber 9 = .ok (.if_icmp .ne 15, 3) := by decide +kernel
theorem dX4_nextNumber_12 : decode cX4_nextNumber 12 = .ok (.aload_n 0, 1) := by decide +kernel
theorem dX4_nextNumber_13 : decode cX4_nextNumber 13 = .ok (.getfield 51, 3) := by decide +kernel
theorem dX4_nextNumber_16 : decode cX4_nextNumber 16 = .ok (.iload_n 1, 1) := by decide +kernel
theorem dX4_nextNumber_17 : decode cX4_nextNumber 17 = .ok (.if_icmp .gt 7, 3) := by decide +kernel
theorem dX4_nextNumber_20 : decode cX4_nextNumber 20 = .ok (.iconst 1, 1) := by decide +kernel
theorem dX4_nextNumber_21 : decode cX4_nextNumber 21 = .ok (.goto 4, 3) := by decide +kernel
theorem dX4_nextNumber_24 : decode cX4_nextNumber 24 = .ok (.iconst 0, 1) := by decide +kernel
theorem dX4_nextNumber_25 : decode cX4_nextNumber 25 = .ok (.ireturn, 1) := by decide +kernel
theorem dX4_nextMark_0 : decode cX4_nextMark 0 = .ok (.aload_n 0, 1) := by decide +kernel
theorem dX4_nextMark_1 : decode cX4_nextMark 1 = .ok (.invokevirtual 28, 3) := by decide +kernel
theorem dX4_nextMark_4 : decode cX4_nextMark 4 = .ok (.aload_n 0, 1) := by decide +kernel
theorem dX4_nextMark_5 : decode cX4_nextMark 5 = .ok (.getfield 31, 3) := by decide +kernel
theorem dX4_nextMark_8 : decode cX4_nextMark 8 = .ok (.iconst 1, 1) := by decide +kernel
theorem dX4_nextMark_9 : decode cX4_nextMark 9 = .ok (.if_icmp .ne 7, 3) := by decide +kernel
theorem dX4_nextMark_12 : decode cX4_nextMark 12 = .ok (.iconst 1, 1) := by decide +kernel
theorem dX4_nextMark_13 : decode cX4_nextMark 13 = .ok (.goto 4, 3) := by decide +kernel
theorem dX4_nextMark_16 : decode cX4_nextMark 16 = .ok (.iconst 0, 1) := by decide +kernel
theorem dX4_nextMark_17 : decode cX4_nextMark 17 = .ok (.ireturn, 1) := by decide +kernel
theorem dX4_nextToken_0 : decode cX4_nextToken 0 = .ok (.aload_n 0, 1) := by decide +kernel
theorem dX4_nextToken_1 : decode cX4_nextToken 1 = .ok (.getfield 25, 3) := by decide +kernel
theorem dX4_nextToken_4 : decode cX4_nextToken 4 = .ok (.aload_n 0, 1) := by decide +kernel
theorem dX4_nextToken_5 : decode cX4_nextToken 5 = .ok (.getfield 15, 3) := by decide +kernel
theorem dX4_nextToken_8 : decode cX4_nextToken 8 = .ok (.if_icmp .ge 30, 3) := by decide +kernel
theorem dX4_nextToken_11 : decode cX4_nextToken 11 = .ok (.aload_n 0, 1) := by decide +kernel
theorem dX4_nextToken_12 : decode cX4_nextToken 12 = .ok (.getfield 9, 3) := by decide +kernel
theorem dX4_nextToken_15 : decode cX4_nextToken 15 = .ok (.aload_n 0, 1) := by decide +kernel
theorem dX4_nextToken_16 : decode cX4_nextToken 16 = .ok (.getfield 25, 3) := by decide +kernel
theorem dX4_nextToken_19 : decode cX4_nextToken 19 = .ok (.baload, 1) := by decide +kernel
theorem dX4_nextToken_20 : decode cX4_nextToken 20 = .ok (.bipush 32, 2) := by decide +kernel
theorem dX4_nextToken_22 : decode cX4_nextToken 22 = .ok (.if_icmp .ne 16, 3) := by decide +kernel
theorem dX4_nextToken_25 : decode cX4_nextToken 25 = .ok (.aload_n 0, 1) := by decide +kernel
theorem dX4_nextToken_26 : decode cX4_nextToken 26 = .ok (.dup, 1) := by decide +kernel
theorem dX4_nextToken_27 : decode cX4_nextToken 27 = .ok (.getfield 25, 3) := by decide +kernel
theorem dX4_nextToken_30 : decode cX4_nextToken 30 = .ok (.iconst 1, 1) := by decide +kernel
theorem dX4_nextToken_31 : decode cX4_nextToken 31 = .ok (.iadd, 1) := by decide +kernel
theorem dX4_nextToken_32 : decode cX4_nextToken 32 = .ok (.putfield 25, 3) := by decide +kernel
theorem dX4_nextToken_35 : decode cX4_nextToken 35 = .ok (.goto (-35), 3) := by decide +kernel
theorem dX4_nextToken_38 : decode cX4_nextToken 38 = .ok (.aload_n 0, 1) := by decide +kernel
theorem dX4_nextToken_39 : decode cX4_nextToken 39 = .ok (.aload_n 0, 1) := by decide +kernel
theorem dX4_nextToken_40 : decode cX4_nextToken 40 = .ok (.getfield 25, 3) := by decide +kernel
theorem dX4_nextToken_43 : decode cX4_nextToken 43 = .ok (.putfield 44, 3) := by decide +kernel
theorem dX4_nextToken_46 : decode cX4_nextToken 46 = .ok (.aload_n 0, 1) := by decide +kernel
theorem dX4_nextToken_47 : decode cX4_nextToken 47 = .ok (.getfield 44, 3) := by decide +kernel
theorem dX4_nextToken_50 : decode cX4_nextToken 50 = .ok (.aload_n 0, 1) := by decide +kernel
theorem dX4_nextToken_51 : decode cX4_nextToken 51 = .ok (.getfield 15, 3) := by decide +kernel
theorem dX4_nextToken_54 : decode cX4_nextToken 54 = .ok (.if_icmp .lt 11, 3) := by decide +kernel
theorem dX4_nextToken_57 : decode cX4_nextToken 57 = .ok (.aload_n 0, 1) := by decide +kernel
theorem dX4_nextToken_58 : decode cX4_nextToken 58 = .ok (.iconst 0, 1) := by decide +kernel
theorem dX4_nextToken_59 : decode cX4_nextToken 59 = .ok (.putfield 31, 3) := by decide +kernel
theorem dX4_nextToken_62 : decode cX4_nextToken 62 = .ok (.goto 81, 3) := by decide +kernel
theorem dX4_nextToken_65 : decode cX4_nextToken 65 = .ok (.aload_n 0, 1) := by decide +kernel
theorem dX4_nextToken_66 : decode cX4_nextToken 66 = .ok (.getfield 9, 3) := by decide +kernel
theorem dX4_nextToken_69 : decode cX4_nextToken 69 = .ok (.aload_n 0, 1) := by decide +kernel
theorem dX4_nextToken_70 : decode cX4_nextToken 70 = .ok (.getfield 44, 3) := by decide +kernel
theorem dX4_nextToken_73 : decode cX4_nextToken 73 = .ok (.baload, 1) := by decide +kernel
theorem dX4_nextToken_74 : decode cX4_nextToken 74 = .ok (.invokestatic 75, 3) := by decide +kernel
theorem dX4_nextToken_77 : decode cX4_nextToken 77 = .ok (.ifCond .eq 10, 3) := by decide +kernel
theorem dX4_nextToken_80 : decode cX4_nextToken 80 = .ok (.aload_n 0, 1) := by decide +kernel
theorem dX4_nextToken_81 : decode cX4_nextToken 81 = .ok (.invokevirtual 78, 3) := by decide +kernel
theorem dX4_nextToken_84 : decode cX4_nextToken 84 = .ok (.goto 59, 3) := by decide +kernel
theorem dX4_nextToken_87 : decode cX4_nextToken 87 = .ok (.aload_n 0, 1) := by decide +kernel
theorem dX4_nextToken_88 : decode cX4_nextToken 88 = .ok (.getfield 9, 3) := by decide +kernel
theorem dX4_nextToken_91 : decode cX4_nextToken 91 = .ok (.aload_n 0, 1) := by decide +kernel
theorem dX4_nextToken_92 : decode cX4_nextToken 92 = .ok (.getfield 44, 3) := by decide +kernel
theorem dX4_nextToken_95 : decode cX4_nextToken 95 = .ok (.baload, 1) := by decide +kernel
theorem dX4_nextToken_96 : decode cX4_nextToken 96 = .ok (.invokestatic 81, 3) := by decide +kernel
theorem dX4_nextToken_99 : decode cX4_nextToken 99 = .ok (.ifCond .eq 10, 3) := by decide +kernel
theorem dX4_nextToken_102 : decode cX4_nextToken 102 = .ok (.aload_n 0, 1) := by decide +kernel
theorem dX4_nextToken_103 : decode cX4_nextToken 103 = .ok (.invokevirtual 84, 3) := by decide +kernel
theorem dX4_nextToken_106 : decode cX4_nextToken 106 = .ok (.goto 37, 3) := by decide +kernel
theorem dX4_nextToken_109 : decode cX4_nextToken 109 = .ok (.aload_n 0, 1) := by decide +kernel
theorem dX4_nextToken_110 : decode cX4_nextToken 110 = .ok (.aload_n 0, 1) := by decide +kernel
theorem dX4_nextToken_111 : decode cX4_nextToken 111 = .ok (.getfield 9, 3) := by decide +kernel
theorem dX4_nextToken_114 : decode cX4_nextToken 114 = .ok (.aload_n 0, 1) := by decide +kernel
theorem dX4_nextToken_115 : decode cX4_nextToken 115 = .ok (.getfield 44, 3) := by decide +kernel
theorem dX4_nextToken_118 : decode cX4_nextToken 118 = .ok (.baload, 1) := by decide +kernel
theorem dX4_nextToken_119 : decode cX4_nextToken 119 = .ok (.bipush 59, 2) := by decide +kernel
theorem dX4_nextToken_121 : decode cX4_nextToken 121 = .ok (.if_icmp .ne 7, 3) := by decide +kernel
theorem dX4_nextToken_124 : decode cX4_nextToken 124 = .ok (.iconst 1, 1) := by decide +kernel
theorem dX4_nextToken_125 : decode cX4_nextToken 125 = .ok (.goto 5, 3) := by decide +kernel
theorem dX4_nextToken_128 : decode cX4_nextToken 128 = .ok (.bipush 6, 2) := by decide +kernel
theorem dX4_nextToken_130 : decode cX4_nextToken 130 = .ok (.putfield 31, 3) := by decide +kernel
theorem dX4_nextToken_133 : decode cX4_nextToken 133 = .ok (.aload_n 0, 1) := by decide +kernel
theorem dX4_nextToken_134 : decode cX4_nextToken 134 = .ok (.dup, 1) := by decide +kernel
theorem dX4_nextToken_135 : decode cX4_nextToken 135 = .ok (.getfield 25, 3) := by decide +kernel
theorem dX4_nextToken_138 : decode cX4_nextToken 138 = .ok (.iconst 1, 1) := by decide +kernel
theorem dX4_nextToken_139 : decode cX4_nextToken 139 = .ok (.iadd, 1) := by decide +kernel
theorem dX4_nextToken_140 : decode cX4_nextToken 140 = .ok (.putfield 25, 3) := by decide +kernel
theorem dX4_nextToken_143 : decode cX4_nextToken 143 = .ok (.return_, 1) := by decide +kernel
theorem dX4_takeWord_0 : decode cX4_takeWord 0 = .ok (.aload_n 0, 1) := by decide +kernel
theorem dX4_takeWord_1 : decode cX4_takeWord 1 = .ok (.getfield 25, 3) := by decide +kernel
theorem dX4_takeWord_4 : decode cX4_takeWord 4 = .ok (.aload_n 0, 1) := by decide +kernel
theorem dX4_takeWord_5 : decode cX4_takeWord 5 = .ok (.getfield 15, 3) := by decide +kernel
theorem dX4_takeWord_8 : decode cX4_takeWord 8 = .ok (.if_icmp .ge 31, 3) := by decide +kernel
theorem dX4_takeWord_11 : decode cX4_takeWord 11 = .ok (.aload_n 0, 1) := by decide +kernel
theorem dX4_takeWord_12 : decode cX4_takeWord 12 = .ok (.getfield 9, 3) := by decide +kernel
theorem dX4_takeWord_15 : decode cX4_takeWord 15 = .ok (.aload_n 0, 1) := by decide +kernel
theorem dX4_takeWord_16 : decode cX4_takeWord 16 = .ok (.getfield 25, 3) := by decide +kernel
theorem dX4_takeWord_19 : decode cX4_takeWord 19 = .ok (.baload, 1) := by decide +kernel
theorem dX4_takeWord_20 : decode cX4_takeWord 20 = .ok (.invokestatic 75, 3) := by decide +kernel
theorem dX4_takeWord_23 : decode cX4_takeWord 23 = .ok (.ifCond .eq 16, 3) := by decide +kernel
theorem dX4_takeWord_26 : decode cX4_takeWord 26 = .ok (.aload_n 0, 1) := by decide +kernel
theorem dX4_takeWord_27 : decode cX4_takeWord 27 = .ok (.dup, 1) := by decide +kernel
theorem dX4_takeWord_28 : decode cX4_takeWord 28 = .ok (.getfield 25, 3) := by decide +kernel
theorem dX4_takeWord_31 : decode cX4_takeWord 31 = .ok (.iconst 1, 1) := by decide +kernel
theorem dX4_takeWord_32 : decode cX4_takeWord 32 = .ok (.iadd, 1) := by decide +kernel
theorem dX4_takeWord_33 : decode cX4_takeWord 33 = .ok (.putfield 25, 3) := by decide +kernel
theorem dX4_takeWord_36 : decode cX4_takeWord 36 = .ok (.goto (-36), 3) := by decide +kernel
theorem dX4_takeWord_39 : decode cX4_takeWord 39 = .ok (.aload_n 0, 1) := by decide +kernel
theorem dX4_takeWord_40 : decode cX4_takeWord 40 = .ok (.ldc 87, 2) := by decide +kernel
theorem dX4_takeWord_42 : decode cX4_takeWord 42 = .ok (.invokevirtual 89, 3) := by decide +kernel
theorem dX4_takeWord_45 : decode cX4_takeWord 45 = .ok (.ifCond .eq 11, 3) := by decide +kernel
theorem dX4_takeWord_48 : decode cX4_takeWord 48 = .ok (.aload_n 0, 1) := by decide +kernel
theorem dX4_takeWord_49 : decode cX4_takeWord 49 = .ok (.iconst 3, 1) := by decide +kernel
theorem dX4_takeWord_50 : decode cX4_takeWord 50 = .ok (.putfield 31, 3) := by decide +kernel
theorem dX4_takeWord_53 : decode cX4_takeWord 53 = .ok (.goto 39, 3) := by decide +kernel
theorem dX4_takeWord_56 : decode cX4_takeWord 56 = .ok (.aload_n 0, 1) := by decide +kernel
theorem dX4_takeWord_57 : decode cX4_takeWord 57 = .ok (.ldc 93, 2) := by decide +kernel
theorem dX4_takeWord_59 : decode cX4_takeWord 59 = .ok (.invokevirtual 89, 3) := by decide +kernel
theorem dX4_takeWord_62 : decode cX4_takeWord 62 = .ok (.ifCond .eq 11, 3) := by decide +kernel
theorem dX4_takeWord_65 : decode cX4_takeWord 65 = .ok (.aload_n 0, 1) := by decide +kernel
theorem dX4_takeWord_66 : decode cX4_takeWord 66 = .ok (.iconst 4, 1) := by decide +kernel
theorem dX4_takeWord_67 : decode cX4_takeWord 67 = .ok (.putfield 31, 3) := by decide +kernel
theorem dX4_takeWord_70 : decode cX4_takeWord 70 = .ok (.goto 22, 3) := by decide +kernel
theorem dX4_takeWord_73 : decode cX4_takeWord 73 = .ok (.aload_n 0, 1) := by decide +kernel
theorem dX4_takeWord_74 : decode cX4_takeWord 74 = .ok (.aload_n 0, 1) := by decide +kernel
theorem dX4_takeWord_75 : decode cX4_takeWord 75 = .ok (.ldc 95, 2) := by decide +kernel
theorem dX4_takeWord_77 : decode cX4_takeWord 77 = .ok (.invokevirtual 89, 3) := by decide +kernel
theorem dX4_takeWord_80 : decode cX4_takeWord 80 = .ok (.ifCond .eq 7, 3) := by decide +kernel

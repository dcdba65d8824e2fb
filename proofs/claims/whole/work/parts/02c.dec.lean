theorem dX5_eyes_10 : decode cX5_eyes 10 = .ok (.aload_n 0, 1) := by decide +kernel
theorem dX5_eyes_11 : decode cX5_eyes 11 = .ok (.bipush (-2), 2) := by decide +kernel
theorem dX5_eyes_13 : decode cX5_eyes 13 = .ok (.invokevirtual 56, 3) := by decide +kernel
theorem dX5_eyes_16 : decode cX5_eyes 16 = .ok (.ireturn, 1) := by decide +kernel
theorem dX5_eyes_17 : decode cX5_eyes 17 = .ok (.aload_n 0, 1) := by decide +kernel
theorem dX5_eyes_18 : decode cX5_eyes 18 = .ok (.getfield 10, 3) := by decide +kernel
theorem dX5_eyes_21 : decode cX5_eyes 21 = .ok (.getfield 60, 3) := by decide +kernel
theorem dX5_eyes_24 : decode cX5_eyes 24 = .ok (.invokevirtual 150, 3) := by decide +kernel
theorem dX5_eyes_27 : decode cX5_eyes 27 = .ok (.invokestatic 200, 3) := by decide +kernel
theorem dX5_eyes_30 : decode cX5_eyes 30 = .ok (.bipush 10, 2) := by decide +kernel
theorem dX5_eyes_32 : decode cX5_eyes 32 = .ok (.iload_n 1, 1) := by decide +kernel
theorem dX5_eyes_33 : decode cX5_eyes 33 = .ok (.isub, 1) := by decide +kernel
theorem dX5_eyes_34 : decode cX5_eyes 34 = .ok (.imul, 1) := by decide +kernel
theorem dX5_eyes_35 : decode cX5_eyes 35 = .ok (.istore_n 2, 1) := by decide +kernel
theorem dX5_eyes_36 : decode cX5_eyes 36 = .ok (.bipush 10, 2) := by decide +kernel
theorem dX5_eyes_38 : decode cX5_eyes 38 = .ok (.istore_n 3, 1) := by decide +kernel
theorem dX5_eyes_39 : decode cX5_eyes 39 = .ok (.iload_n 3, 1) := by decide +kernel
theorem dX5_eyes_40 : decode cX5_eyes 40 = .ok (.iconst 1, 1) := by decide +kernel
theorem dX5_eyes_41 : decode cX5_eyes 41 = .ok (.if_icmp .le 22, 3) := by decide +kernel
theorem dX5_eyes_44 : decode cX5_eyes 44 = .ok (.iload_n 2, 1) := by decide +kernel
theorem dX5_eyes_45 : decode cX5_eyes 45 = .ok (.iload_n 3, 1) := by decide +kernel
theorem dX5_eyes_46 : decode cX5_eyes 46 = .ok (.irem, 1) := by decide +kernel
theorem dX5_eyes_47 : decode cX5_eyes 47 = .ok (.ifCond .ne 10, 3) := by decide +kernel
theorem dX5_eyes_50 : decode cX5_eyes 50 = .ok (.bipush 10, 2) := by decide +kernel
theorem dX5_eyes_52 : decode cX5_eyes 52 = .ok (.iload_n 3, 1) := by decide +kernel
theorem dX5_eyes_53 : decode cX5_eyes 53 = .ok (.irem, 1) := by decide +kernel
theorem dX5_eyes_54 : decode cX5_eyes 54 = .ok (.ifCond .eq 9, 3) := by decide +kernel
theorem dX5_eyes_57 : decode cX5_eyes 57 = .ok (.iinc 3 (-1), 3) := by decide +kernel
theorem dX5_eyes_60 : decode cX5_eyes 60 = .ok (.goto (-21), 3) := by decide +kernel
theorem dX5_eyes_63 : decode cX5_eyes 63 = .ok (.aload_n 0, 1) := by decide +kernel
theorem dX5_eyes_64 : decode cX5_eyes 64 = .ok (.iload_n 2, 1) := by decide +kernel
theorem dX5_eyes_65 : decode cX5_eyes 65 = .ok (.iload_n 3, 1) := by decide +kernel
theorem dX5_eyes_66 : decode cX5_eyes 66 = .ok (.idiv, 1) := by decide +kernel
theorem dX5_eyes_67 : decode cX5_eyes 67 = .ok (.i2l, 1) := by decide +kernel
theorem dX5_eyes_68 : decode cX5_eyes 68 = .ok (.putfield 45, 3) := by decide +kernel
theorem dX5_eyes_71 : decode cX5_eyes 71 = .ok (.aload_n 0, 1) := by decide +kernel
theorem dX5_eyes_72 : decode cX5_eyes 72 = .ok (.bipush 10, 2) := by decide +kernel
theorem dX5_eyes_74 : decode cX5_eyes 74 = .ok (.iload_n 3, 1) := by decide +kernel
theorem dX5_eyes_75 : decode cX5_eyes 75 = .ok (.idiv, 1) := by decide +kernel
theorem dX5_eyes_76 : decode cX5_eyes 76 = .ok (.i2l, 1) := by decide +kernel
theorem dX5_eyes_77 : decode cX5_eyes 77 = .ok (.putfield 49, 3) := by decide +kernel
theorem dX5_eyes_80 : decode cX5_eyes 80 = .ok (.iconst 1, 1) := by decide +kernel
theorem dX5_eyes_81 : decode cX5_eyes 81 = .ok (.ireturn, 1) := by decide +kernel
theorem dX5_weeks_0 : decode cX5_weeks 0 = .ok (.iload_n 1, 1) := by decide +kernel
theorem dX5_weeks_1 : decode cX5_weeks 1 = .ok (.iconst 0, 1) := by decide +kernel
theorem dX5_weeks_2 : decode cX5_weeks 2 = .ok (.ldc 205, 2) := by decide +kernel
theorem dX5_weeks_4 : decode cX5_weeks 4 = .ok (.invokestatic 75, 3) := by decide +kernel
theorem dX5_weeks_7 : decode cX5_weeks 7 = .ok (.ifCond .eq 13, 3) := by decide +kernel
theorem dX5_weeks_10 : decode cX5_weeks 10 = .ok (.iload_n 2, 1) := by decide +kernel
theorem dX5_weeks_11 : decode cX5_weeks 11 = .ok (.iconst 0, 1) := by decide +kernel
theorem dX5_weeks_12 : decode cX5_weeks 12 = .ok (.bipush 60, 2) := by decide +kernel
theorem dX5_weeks_14 : decode cX5_weeks 14 = .ok (.invokestatic 75, 3) := by decide +kernel
theorem dX5_weeks_17 : decode cX5_weeks 17 = .ok (.ifCond .ne 10, 3) := by decide +kernel
theorem dX5_weeks_20 : decode cX5_weeks 20 = .ok (.aload_n 0, 1) := by decide +kernel
theorem dX5_weeks_21 : decode cX5_weeks 21 = .ok (.bipush (-2), 2) := by decide +kernel
theorem dX5_weeks_23 : decode cX5_weeks 23 = .ok (.invokevirtual 56, 3) := by decide +kernel
theorem dX5_weeks_26 : decode cX5_weeks 26 = .ok (.ireturn, 1) := by decide +kernel
theorem dX5_weeks_27 : decode cX5_weeks 27 = .ok (.iload_n 1, 1) := by decide +kernel
theorem dX5_weeks_28 : decode cX5_weeks 28 = .ok (.i2l, 1) := by decide +kernel
theorem dX5_weeks_29 : decode cX5_weeks 29 = .ok (.lstore_n 3, 1) := by decide +kernel
theorem dX5_weeks_30 : decode cX5_weeks 30 = .ok (.iconst 0, 1) := by decide +kernel
theorem dX5_weeks_31 : decode cX5_weeks 31 = .ok (.istore 5, 2) := by decide +kernel
theorem dX5_weeks_33 : decode cX5_weeks 33 = .ok (.iconst 0, 1) := by decide +kernel
theorem dX5_weeks_34 : decode cX5_weeks 34 = .ok (.istore 6, 2) := by decide +kernel
theorem dX5_weeks_36 : decode cX5_weeks 36 = .ok (.iload 6, 2) := by decide +kernel
theorem dX5_weeks_38 : decode cX5_weeks 38 = .ok (.iload_n 2, 1) := by decide +kernel
theorem dX5_weeks_39 : decode cX5_weeks 39 = .ok (.if_icmp .ge 91, 3) := by decide +kernel
theorem dX5_weeks_42 : decode cX5_weeks 42 = .ok (.aload_n 0, 1) := by decide +kernel
theorem dX5_weeks_43 : decode cX5_weeks 43 = .ok (.getfield 34, 3) := by decide +kernel
theorem dX5_weeks_46 : decode cX5_weeks 46 = .ok (.aload_n 0, 1) := by decide +kernel
theorem dX5_weeks_47 : decode cX5_weeks 47 = .ok (.getfield 10, 3) := by decide +kernel
theorem dX5_weeks_50 : decode cX5_weeks 50 = .ok (.getfield 60, 3) := by decide +kernel
theorem dX5_weeks_53 : decode cX5_weeks 53 = .ok (.invokevirtual 154, 3) := by decide +kernel
theorem dX5_weeks_56 : decode cX5_weeks 56 = .ok (.iconst 0, 1) := by decide +kernel
theorem dX5_weeks_57 : decode cX5_weeks 57 = .ok (.istore 7, 2) := by decide +kernel
theorem dX5_weeks_59 : decode cX5_weeks 59 = .ok (.iload 7, 2) := by decide +kernel
theorem dX5_weeks_61 : decode cX5_weeks 61 = .ok (.aload_n 0, 1) := by decide +kernel
theorem dX5_weeks_62 : decode cX5_weeks 62 = .ok (.getfield 34, 3) := by decide +kernel
theorem dX5_weeks_65 : decode cX5_weeks 65 = .ok (.getfield 63, 3) := by decide +kernel
theorem dX5_weeks_68 : decode cX5_weeks 68 = .ok (.if_icmp .ge 43, 3) := by decide +kernel
theorem dX5_weeks_71 : decode cX5_weeks 71 = .ok (.lload_n 3, 1) := by decide +kernel
theorem dX5_weeks_72 : decode cX5_weeks 72 = .ok (.ldc2_w 206, 3) := by decide +kernel
theorem dX5_weeks_75 : decode cX5_weeks 75 = .ok (.lmul, 1) := by decide +kernel
theorem dX5_weeks_76 : decode cX5_weeks 76 = .ok (.ldc2_w 208, 3) := by decide +kernel
theorem dX5_weeks_79 : decode cX5_weeks 79 = .ok (.ladd, 1) := by decide +kernel
theorem dX5_weeks_80 : decode cX5_weeks 80 = .ok (.ldc2_w 210, 3) := by decide +kernel
theorem dX5_weeks_83 : decode cX5_weeks 83 = .ok (.lrem, 1) := by decide +kernel
theorem dX5_weeks_84 : decode cX5_weeks 84 = .ok (.lstore_n 3, 1) := by decide +kernel
theorem dX5_weeks_85 : decode cX5_weeks 85 = .ok (.aload_n 0, 1) := by decide +kernel
theorem dX5_weeks_86 : decode cX5_weeks 86 = .ok (.getfield 34, 3) := by decide +kernel
theorem dX5_weeks_89 : decode cX5_weeks 89 = .ok (.getfield 190, 3) := by decide +kernel
theorem dX5_weeks_92 : decode cX5_weeks 92 = .ok (.iload 7, 2) := by decide +kernel
theorem dX5_weeks_94 : decode cX5_weeks 94 = .ok (.lload_n 3, 1) := by decide +kernel
theorem dX5_weeks_95 : decode cX5_weeks 95 = .ok (.ldc2_w 212, 3) := by decide +kernel
theorem dX5_weeks_98 : decode cX5_weeks 98 = .ok (.ldiv, 1) := by decide +kernel
theorem dX5_weeks_99 : decode cX5_weeks 99 = .ok (.ldc2_w 214, 3) := by decide +kernel
theorem dX5_weeks_102 : decode cX5_weeks 102 = .ok (.lrem, 1) := by decide +kernel
theorem dX5_weeks_103 : decode cX5_weeks 103 = .ok (.l2i, 1) := by decide +kernel
theorem dX5_weeks_104 : decode cX5_weeks 104 = .ok (.iastore, 1) := by decide +kernel
theorem dX5_weeks_105 : decode cX5_weeks 105 = .ok (.iinc 7 1, 3) := by decide +kernel
theorem dX5_weeks_108 : decode cX5_weeks 108 = .ok (.goto (-49), 3) := by decide +kernel
theorem dX5_weeks_111 : decode cX5_weeks 111 = .ok (.iload 5, 2) := by decide +kernel
theorem dX5_weeks_113 : decode cX5_weeks 113 = .ok (.aload_n 0, 1) := by decide +kernel
theorem dX5_weeks_114 : decode cX5_weeks 114 = .ok (.getfield 34, 3) := by decide +kernel
theorem dX5_weeks_117 : decode cX5_weeks 117 = .ok (.iconst 3, 1) := by decide +kernel
theorem dX5_weeks_118 : decode cX5_weeks 118 = .ok (.invokevirtual 117, 3) := by decide +kernel
theorem dX5_weeks_121 : decode cX5_weeks 121 = .ok (.iadd, 1) := by decide +kernel
theorem dX5_weeks_122 : decode cX5_weeks 122 = .ok (.istore 5, 2) := by decide +kernel
theorem dX5_weeks_124 : decode cX5_weeks 124 = .ok (.iinc 6 1, 3) := by decide +kernel
theorem dX5_weeks_127 : decode cX5_weeks 127 = .ok (.goto (-91), 3) := by decide +kernel
theorem dX5_weeks_130 : decode cX5_weeks 130 = .ok (.iload 5, 2) := by decide +kernel
theorem dX5_weeks_132 : decode cX5_weeks 132 = .ok (.ireturn, 1) := by decide +kernel
theorem dX5_part_0 : decode cX5_part 0 = .ok (.iload_n 1, 1) := by decide +kernel
theorem dX5_part_1 : decode cX5_part 1 = .ok (.iconst 0, 1) := by decide +kernel
theorem dX5_part_2 : decode cX5_part 2 = .ok (.iconst 1, 1) := by decide +kernel
theorem dX5_part_3 : decode cX5_part 3 = .ok (.invokestatic 75, 3) := by decide +kernel
theorem dX5_part_6 : decode cX5_part 6 = .ok (.ifCond .ne 11, 3) := by decide +kernel
theorem dX5_part_9 : decode cX5_part 9 = .ok (.aload_n 0, 1) := by decide +kernel
theorem dX5_part_10 : decode cX5_part 10 = .ok (.bipush (-2), 2) := by decide +kernel
theorem dX5_part_12 : decode cX5_part 12 = .ok (.invokevirtual 56, 3) := by decide +kernel
theorem dX5_part_15 : decode cX5_part 15 = .ok (.i2l, 1) := by decide +kernel
theorem dX5_part_16 : decode cX5_part 16 = .ok (.lreturn, 1) := by decide +kernel
theorem dX5_part_17 : decode cX5_part 17 = .ok (.iload_n 1, 1) := by decide +kernel
theorem dX5_part_18 : decode cX5_part 18 = .ok (.ifCond .ne 10, 3) := by decide +kernel
theorem dX5_part_21 : decode cX5_part 21 = .ok (.aload_n 0, 1) := by decide +kernel
theorem dX5_part_22 : decode cX5_part 22 = .ok (.getfield 45, 3) := by decide +kernel
theorem dX5_part_25 : decode cX5_part 25 = .ok (.goto 7, 3) := by decide +kernel
theorem dX5_part_28 : decode cX5_part 28 = .ok (.aload_n 0, 1) := by decide +kernel
theorem dX5_part_29 : decode cX5_part 29 = .ok (.getfield 49, 3) := by decide +kernel
theorem dX5_part_32 : decode cX5_part 32 = .ok (.lreturn, 1) := by decide +kernel
theorem dX5_image_0 : decode cX5_image 0 = .ok (.iload_n 1, 1) := by decide +kernel
theorem dX5_image_1 : decode cX5_image 1 = .ok (.iconst 0, 1) := by decide +kernel
theorem dX5_image_2 : decode cX5_image 2 = .ok (.iconst 1, 1) := by decide +kernel
theorem dX5_image_3 : decode cX5_image 3 = .ok (.invokestatic 75, 3) := by decide +kernel
theorem dX5_image_6 : decode cX5_image 6 = .ok (.ifCond .ne 10, 3) := by decide +kernel
theorem dX5_image_9 : decode cX5_image 9 = .ok (.aload_n 0, 1) := by decide +kernel
theorem dX5_image_10 : decode cX5_image 10 = .ok (.bipush (-2), 2) := by decide +kernel
theorem dX5_image_12 : decode cX5_image 12 = .ok (.invokevirtual 56, 3) := by decide +kernel
theorem dX5_image_15 : decode cX5_image 15 = .ok (.ireturn, 1) := by decide +kernel
theorem dX5_image_16 : decode cX5_image 16 = .ok (.aload_n 0, 1) := by decide +kernel
theorem dX5_image_17 : decode cX5_image 17 = .ok (.getfield 16, 3) := by decide +kernel
theorem dX5_image_20 : decode cX5_image 20 = .ok (.iload_n 1, 1) := by decide +kernel
theorem dX5_image_21 : decode cX5_image 21 = .ok (.aaload, 1) := by decide +kernel
theorem dX5_image_22 : decode cX5_image 22 = .ok (.aload_n 0, 1) := by decide +kernel
theorem dX5_image_23 : decode cX5_image 23 = .ok (.getfield 10, 3) := by decide +kernel
theorem dX5_image_26 : decode cX5_image 26 = .ok (.invokevirtual 216, 3) := by decide +kernel
theorem dX5_image_29 : decode cX5_image 29 = .ok (.aload_n 0, 1) := by decide +kernel
theorem dX5_image_30 : decode cX5_image 30 = .ok (.getfield 20, 3) := by decide +kernel
theorem dX5_image_33 : decode cX5_image 33 = .ok (.iload_n 1, 1) := by decide +kernel
theorem dX5_image_34 : decode cX5_image 34 = .ok (.iconst 1, 1) := by decide +kernel
theorem dX5_image_35 : decode cX5_image 35 = .ok (.bastore, 1) := by decide +kernel
theorem dX5_image_36 : decode cX5_image 36 = .ok (.iconst 1, 1) := by decide +kernel
theorem dX5_image_37 : decode cX5_image 37 = .ok (.ireturn, 1) := by decide +kernel
theorem dX5_from_0 : decode cX5_from 0 = .ok (.iload_n 1, 1) := by decide +kernel
theorem dX5_from_1 : decode cX5_from 1 = .ok (.iconst 0, 1) := by decide +kernel
theorem dX5_from_2 : decode cX5_from 2 = .ok (.iconst 1, 1) := by decide +kernel
theorem dX5_from_3 : decode cX5_from 3 = .ok (.invokestatic 75, 3) := by decide +kernel
theorem dX5_from_6 : decode cX5_from 6 = .ok (.ifCond .ne 10, 3) := by decide +kernel
theorem dX5_from_9 : decode cX5_from 9 = .ok (.aload_n 0, 1) := by decide +kernel
theorem dX5_from_10 : decode cX5_from 10 = .ok (.bipush (-2), 2) := by decide +kernel
theorem dX5_from_12 : decode cX5_from 12 = .ok (.invokevirtual 56, 3) := by decide +kernel
theorem dX5_from_15 : decode cX5_from 15 = .ok (.ireturn, 1) := by decide +kernel
theorem dX5_from_16 : decode cX5_from 16 = .ok (.aload_n 0, 1) := by decide +kernel
theorem dX5_from_17 : decode cX5_from 17 = .ok (.getfield 20, 3) := by decide +kernel
theorem dX5_from_20 : decode cX5_from 20 = .ok (.iload_n 1, 1) := by decide +kernel
theorem dX5_from_21 : decode cX5_from 21 = .ok (.baload, 1) := by decide +kernel
theorem dX5_from_22 : decode cX5_from 22 = .ok (.ifCond .ne 10, 3) := by decide +kernel
theorem dX5_from_25 : decode cX5_from 25 = .ok (.aload_n 0, 1) := by decide +kernel
theorem dX5_from_26 : decode cX5_from 26 = .ok (.bipush (-3), 2) := by decide +kernel
theorem dX5_from_28 : decode cX5_from 28 = .ok (.invokevirtual 56, 3) := by decide +kernel
theorem dX5_from_31 : decode cX5_from 31 = .ok (.ireturn, 1) := by decide +kernel
theorem dX5_from_32 : decode cX5_from 32 = .ok (.aload_n 0, 1) := by decide +kernel
theorem dX5_from_33 : decode cX5_from 33 = .ok (.getfield 10, 3) := by decide +kernel
theorem dX5_from_36 : decode cX5_from 36 = .ok (.aload_n 0, 1) := by decide +kernel
theorem dX5_from_37 : decode cX5_from 37 = .ok (.getfield 16, 3) := by decide +kernel
theorem dX5_from_40 : decode cX5_from 40 = .ok (.iload_n 1, 1) := by decide +kernel
theorem dX5_from_41 : decode cX5_from 41 = .ok (.aaload, 1) := by decide +kernel
theorem dX5_from_42 : decode cX5_from 42 = .ok (.invokevirtual 216, 3) := by decide +kernel
theorem dX5_from_45 : decode cX5_from 45 = .ok (.iconst 1, 1) := by decide +kernel
theorem dX5_from_46 : decode cX5_from 46 = .ok (.ireturn, 1) := by decide +kernel
theorem dX5_status_0 : decode cX5_status 0 = .ok (.iload_n 1, 1) := by decide +kernel
theorem dX5_status_1 : decode cX5_status 1 = .ok (.iconst 0, 1) := by decide +kernel
theorem dX5_status_2 : decode cX5_status 2 = .ok (.iconst 2, 1) := by decide +kernel
theorem dX5_status_3 : decode cX5_status 3 = .ok (.invokestatic 75, 3) := by decide +kernel
theorem dX5_status_6 : decode cX5_status 6 = .ok (.ifCond .ne 12, 3) := by decide +kernel
theorem dX5_status_9 : decode cX5_status 9 = .ok (.aload_n 0, 1) := by decide +kernel
theorem dX5_status_10 : decode cX5_status 10 = .ok (.bipush (-2), 2) := by decide +kernel
theorem dX5_status_12 : decode cX5_status 12 = .ok (.invokevirtual 56, 3) := by decide +kernel
theorem dX5_status_15 : decode cX5_status 15 = .ok (.pop, 1) := by decide +kernel
theorem dX5_status_16 : decode cX5_status 16 = .ok (.iconst (-1), 1) := by decide +kernel
theorem dX5_status_17 : decode cX5_status 17 = .ok (.ireturn, 1) := by decide +kernel
theorem dX5_status_18 : decode cX5_status 18 = .ok (.aload_n 0, 1) := by decide +kernel
theorem dX5_status_19 : decode cX5_status 19 = .ok (.getfield 42, 3) := by decide +kernel
theorem dX5_status_22 : decode cX5_status 22 = .ok (.iload_n 1, 1) := by decide +kernel
theorem dX5_status_23 : decode cX5_status 23 = .ok (.iaload, 1) := by decide +kernel
theorem dX5_status_24 : decode cX5_status 24 = .ok (.ireturn, 1) := by decide +kernel
theorem dX5_count_0 : decode cX5_count 0 = .ok (.iload_n 1, 1) := by decide +kernel
theorem dX5_count_1 : decode cX5_count 1 = .ok (.iconst 0, 1) := by decide +kernel
theorem dX5_count_2 : decode cX5_count 2 = .ok (.bipush 7, 2) := by decide +kernel
theorem dX5_count_4 : decode cX5_count 4 = .ok (.invokestatic 75, 3) := by decide +kernel
theorem dX5_count_7 : decode cX5_count 7 = .ok (.ifCond .eq 11, 3) := by decide +kernel
theorem dX5_count_10 : decode cX5_count 10 = .ok (.aload_n 0, 1) := by decide +kernel
theorem dX5_count_11 : decode cX5_count 11 = .ok (.iload_n 1, 1) := by decide +kernel
theorem dX5_count_12 : decode cX5_count 12 = .ok (.invokevirtual 219, 3) := by decide +kernel
theorem dX5_count_15 : decode cX5_count 15 = .ok (.goto 9, 3) := by decide +kernel
theorem dX5_count_18 : decode cX5_count 18 = .ok (.aload_n 0, 1) := by decide +kernel
theorem dX5_count_19 : decode cX5_count 19 = .ok (.bipush (-2), 2) := by decide +kernel
theorem dX5_count_21 : decode cX5_count 21 = .ok (.invokevirtual 56, 3) := by decide +kernel
theorem dX5_count_24 : decode cX5_count 24 = .ok (.ireturn, 1) := by decide +kernel
theorem dX5_digest_0 : decode cX5_digest 0 = .ok (.ldc2_w 222, 3) := by decide +kernel
theorem dX5_digest_3 : decode cX5_digest 3 = .ok (.lstore_n 1, 1) := by decide +kernel
theorem dX5_digest_4 : decode cX5_digest 4 = .ok (.iconst 0, 1) := by decide +kernel
theorem dX5_digest_5 : decode cX5_digest 5 = .ok (.istore_n 3, 1) := by decide +kernel
theorem dX5_digest_6 : decode cX5_digest 6 = .ok (.iload_n 3, 1) := by decide +kernel
theorem dX5_digest_7 : decode cX5_digest 7 = .ok (.bipush 7, 2) := by decide +kernel
theorem dX5_digest_9 : decode cX5_digest 9 = .ok (.if_icmp .gt 22, 3) := by decide +kernel
theorem dX5_digest_12 : decode cX5_digest 12 = .ok (.ldc2_w 214, 3) := by decide +kernel
theorem dX5_digest_15 : decode cX5_digest 15 = .ok (.lload_n 1, 1) := by decide +kernel
theorem dX5_digest_16 : decode cX5_digest 16 = .ok (.lmul, 1) := by decide +kernel
theorem dX5_digest_17 : decode cX5_digest 17 = .ok (.aload_n 0, 1) := by decide +kernel
theorem dX5_digest_18 : decode cX5_digest 18 = .ok (.iload_n 3, 1) := by decide +kernel
theorem dX5_digest_19 : decode cX5_digest 19 = .ok (.invokevirtual 219, 3) := by decide +kernel
theorem dX5_digest_22 : decode cX5_digest 22 = .ok (.i2l, 1) := by decide +kernel
theorem dX5_digest_23 : decode cX5_digest 23 = .ok (.ladd, 1) := by decide +kernel
theorem dX5_digest_24 : decode cX5_digest 24 = .ok (.lstore_n 1, 1) := by decide +kernel
theorem dX5_digest_25 : decode cX5_digest 25 = .ok (.iinc 3 1, 3) := by decide +kernel
theorem dX5_digest_28 : decode cX5_digest 28 = .ok (.goto (-22), 3) := by decide +kernel
theorem dX5_digest_31 : decode cX5_digest 31 = .ok (.iconst 0, 1) := by decide +kernel
theorem dX5_digest_32 : decode cX5_digest 32 = .ok (.istore_n 3, 1) := by decide +kernel
theorem dX5_digest_33 : decode cX5_digest 33 = .ok (.iload_n 3, 1) := by decide +kernel
theorem dX5_digest_34 : decode cX5_digest 34 = .ok (.aload_n 0, 1) := by decide +kernel
theorem dX5_digest_35 : decode cX5_digest 35 = .ok (.getfield 10, 3) := by decide +kernel
theorem dX5_digest_38 : decode cX5_digest 38 = .ok (.getfield 60, 3) := by decide +kernel
theorem dX5_digest_41 : decode cX5_digest 41 = .ok (.getfield 63, 3) := by decide +kernel
theorem dX5_digest_44 : decode cX5_digest 44 = .ok (.if_icmp .ge 45, 3) := by decide +kernel
theorem dX5_digest_47 : decode cX5_digest 47 = .ok (.iconst 0, 1) := by decide +kernel
theorem dX5_digest_48 : decode cX5_digest 48 = .ok (.istore 4, 2) := by decide +kernel
theorem dX5_digest_50 : decode cX5_digest 50 = .ok (.iload 4, 2) := by decide +kernel
theorem dX5_digest_52 : decode cX5_digest 52 = .ok (.iconst 4, 1) := by decide +kernel
theorem dX5_digest_53 : decode cX5_digest 53 = .ok (.if_icmp .gt 30, 3) := by decide +kernel
theorem dX5_digest_56 : decode cX5_digest 56 = .ok (.ldc2_w 214, 3) := by decide +kernel
theorem dX5_digest_59 : decode cX5_digest 59 = .ok (.lload_n 1, 1) := by decide +kernel
theorem dX5_digest_60 : decode cX5_digest 60 = .ok (.lmul, 1) := by decide +kernel
theorem dX5_digest_61 : decode cX5_digest 61 = .ok (.aload_n 0, 1) := by decide +kernel
theorem dX5_digest_62 : decode cX5_digest 62 = .ok (.getfield 10, 3) := by decide +kernel
theorem dX5_digest_65 : decode cX5_digest 65 = .ok (.getfield 60, 3) := by decide +kernel
theorem dX5_digest_68 : decode cX5_digest 68 = .ok (.iload_n 3, 1) := by decide +kernel
theorem dX5_digest_69 : decode cX5_digest 69 = .ok (.iload 4, 2) := by decide +kernel
theorem dX5_digest_71 : decode cX5_digest 71 = .ok (.invokevirtual 141, 3) := by decide +kernel
theorem dX5_digest_74 : decode cX5_digest 74 = .ok (.i2l, 1) := by decide +kernel
theorem dX5_digest_75 : decode cX5_digest 75 = .ok (.ladd, 1) := by decide +kernel
theorem dX5_digest_76 : decode cX5_digest 76 = .ok (.lstore_n 1, 1) := by decide +kernel
theorem dX5_digest_77 : decode cX5_digest 77 = .ok (.iinc 4 1, 3) := by decide +kernel
theorem dX5_digest_80 : decode cX5_digest 80 = .ok (.goto (-30), 3) := by decide +kernel
theorem dX5_digest_83 : decode cX5_digest 83 = .ok (.iinc 3 1, 3) := by decide +kernel
theorem dX5_digest_86 : decode cX5_digest 86 = .ok (.goto (-53), 3) := by decide +kernel
theorem dX5_digest_89 : decode cX5_digest 89 = .ok (.iconst 0, 1) := by decide +kernel
theorem dX5_digest_90 : decode cX5_digest 90 = .ok (.istore_n 3, 1) := by decide +kernel
theorem dX5_digest_91 : decode cX5_digest 91 = .ok (.iload_n 3, 1) := by decide +kernel
theorem dX5_digest_92 : decode cX5_digest 92 = .ok (.aload_n 0, 1) := by decide +kernel
theorem dX5_digest_93 : decode cX5_digest 93 = .ok (.getfield 10, 3) := by decide +kernel
theorem dX5_digest_96 : decode cX5_digest 96 = .ok (.getfield 176, 3) := by decide +kernel
theorem dX5_digest_99 : decode cX5_digest 99 = .ok (.getfield 180, 3) := by decide +kernel
theorem dX5_digest_102 : decode cX5_digest 102 = .ok (.bipush 7, 2) := by decide +kernel
theorem dX5_digest_104 : decode cX5_digest 104 = .ok (.imul, 1) := by decide +kernel
theorem dX5_digest_105 : decode cX5_digest 105 = .ok (.if_icmp .ge 29, 3) := by decide +kernel
theorem dX5_digest_108 : decode cX5_digest 108 = .ok (.ldc2_w 214, 3) := by decide +kernel
theorem dX5_digest_111 : decode cX5_digest 111 = .ok (.lload_n 1, 1) := by decide +kernel
theorem dX5_digest_112 : decode cX5_digest 112 = .ok (.lmul, 1) := by decide +kernel
theorem dX5_digest_113 : decode cX5_digest 113 = .ok (.aload_n 0, 1) := by decide +kernel
theorem dX5_digest_114 : decode cX5_digest 114 = .ok (.getfield 10, 3) := by decide +kernel
theorem dX5_digest_117 : decode cX5_digest 117 = .ok (.getfield 176, 3) := by decide +kernel
theorem dX5_digest_120 : decode cX5_digest 120 = .ok (.getfield 224, 3) := by decide +kernel
theorem dX5_digest_123 : decode cX5_digest 123 = .ok (.iload_n 3, 1) := by decide +kernel
theorem dX5_digest_124 : decode cX5_digest 124 = .ok (.iaload, 1) := by decide +kernel
theorem dX5_digest_125 : decode cX5_digest 125 = .ok (.i2l, 1) := by decide +kernel
theorem dX5_digest_126 : decode cX5_digest 126 = .ok (.ladd, 1) := by decide +kernel
theorem dX5_digest_127 : decode cX5_digest 127 = .ok (.lstore_n 1, 1) := by decide +kernel
theorem dX5_digest_128 : decode cX5_digest 128 = .ok (.iinc 3 1, 3) := by decide +kernel
theorem dX5_digest_131 : decode cX5_digest 131 = .ok (.goto (-40), 3) := by decide +kernel
theorem dX5_digest_134 : decode cX5_digest 134 = .ok (.ldc2_w 214, 3) := by decide +kernel
theorem dX5_digest_137 : decode cX5_digest 137 = .ok (.lload_n 1, 1) := by decide +kernel
theorem dX5_digest_138 : decode cX5_digest 138 = .ok (.lmul, 1) := by decide +kernel
theorem dX5_digest_139 : decode cX5_digest 139 = .ok (.aload_n 0, 1) := by decide +kernel
theorem dX5_digest_140 : decode cX5_digest 140 = .ok (.getfield 45, 3) := by decide +kernel
theorem dX5_digest_143 : decode cX5_digest 143 = .ok (.ladd, 1) := by decide +kernel
theorem dX5_digest_144 : decode cX5_digest 144 = .ok (.lstore_n 1, 1) := by decide +kernel
theorem dX5_digest_145 : decode cX5_digest 145 = .ok (.ldc2_w 214, 3) := by decide +kernel
theorem dX5_digest_148 : decode cX5_digest 148 = .ok (.lload_n 1, 1) := by decide +kernel
theorem dX5_digest_149 : decode cX5_digest 149 = .ok (.lmul, 1) := by decide +kernel
theorem dX5_digest_150 : decode cX5_digest 150 = .ok (.aload_n 0, 1) := by decide +kernel
theorem dX5_digest_151 : decode cX5_digest 151 = .ok (.getfield 49, 3) := by decide +kernel
theorem dX5_digest_154 : decode cX5_digest 154 = .ok (.ladd, 1) := by decide +kernel
theorem dX5_digest_155 : decode cX5_digest 155 = .ok (.lreturn, 1) := by decide +kernel
theorem dX5_within_0 : decode cX5_within 0 = .ok (.iload_n 0, 1) := by decide +kernel
theorem dX5_within_1 : decode cX5_within 1 = .ok (.iload_n 1, 1) := by decide +kernel
theorem dX5_within_2 : decode cX5_within 2 = .ok (.if_icmp .lt 12, 3) := by decide +kernel
theorem dX5_within_5 : decode cX5_within 5 = .ok (.iload_n 0, 1) := by decide +kernel
theorem dX5_within_6 : decode cX5_within 6 = .ok (.iload_n 2, 1) := by decide +kernel
theorem dX5_within_7 : decode cX5_within 7 = .ok (.if_icmp .gt 7, 3) := by decide +kernel
theorem dX5_within_10 : decode cX5_within 10 = .ok (.iconst 1, 1) := by decide +kernel
theorem dX5_within_11 : decode cX5_within 11 = .ok (.goto 4, 3) := by decide +kernel
theorem dX5_within_14 : decode cX5_within 14 = .ok (.iconst 0, 1) := by decide +kernel
theorem dX5_within_15 : decode cX5_within 15 = .ok (.ireturn, 1) := by decide +kernel
theorem dX5_isSeat_0 : decode cX5_isSeat 0 = .ok (.iload_n 0, 1) := by decide +kernel
theorem dX5_isSeat_1 : decode cX5_isSeat 1 = .ok (.iconst 0, 1) := by decide +kernel
theorem dX5_isSeat_2 : decode cX5_isSeat 2 = .ok (.bipush 7, 2) := by decide +kernel
theorem dX5_isSeat_4 : decode cX5_isSeat 4 = .ok (.invokestatic 75, 3) := by decide +kernel
theorem dX5_isSeat_7 : decode cX5_isSeat 7 = .ok (.ireturn, 1) := by decide +kernel
theorem dX5_isChild_0 : decode cX5_isChild 0 = .ok (.iload_n 1, 1) := by decide +kernel
theorem dX5_isChild_1 : decode cX5_isChild 1 = .ok (.iconst 0, 1) := by decide +kernel
theorem dX5_isChild_2 : decode cX5_isChild 2 = .ok (.aload_n 0, 1) := by decide +kernel
theorem dX5_isChild_3 : decode cX5_isChild 3 = .ok (.getfield 10, 3) := by decide +kernel
theorem dX5_isChild_6 : decode cX5_isChild 6 = .ok (.getfield 60, 3) := by decide +kernel
theorem dX5_isChild_9 : decode cX5_isChild 9 = .ok (.getfield 63, 3) := by decide +kernel
theorem dX5_isChild_12 : decode cX5_isChild 12 = .ok (.iconst 1, 1) := by decide +kernel
theorem dX5_isChild_13 : decode cX5_isChild 13 = .ok (.isub, 1) := by decide +kernel
theorem dX5_isChild_14 : decode cX5_isChild 14 = .ok (.invokestatic 75, 3) := by decide +kernel
theorem dX5_isChild_17 : decode cX5_isChild 17 = .ok (.ireturn, 1) := by decide +kernel
theorem dX5_refuse_0 : decode cX5_refuse 0 = .ok (.bipush (-2), 2) := by decide +kernel
theorem dX5_refuse_2 : decode cX5_refuse 2 = .ok (.iload_n 1, 1) := by decide +kernel
theorem dX5_refuse_3 : decode cX5_refuse 3 = .ok (.isub, 1) := by decide +kernel
theorem dX5_refuse_4 : decode cX5_refuse 4 = .ok (.istore_n 2, 1) := by decide +kernel
theorem dX5_refuse_5 : decode cX5_refuse 5 = .ok (.iload_n 2, 1) := by decide +kernel
theorem dX5_refuse_6 : decode cX5_refuse 6 = .ok (.iconst 0, 1) := by decide +kernel
theorem dX5_refuse_7 : decode cX5_refuse 7 = .ok (.aload_n 0, 1) := by decide +kernel
theorem dX5_refuse_8 : decode cX5_refuse 8 = .ok (.getfield 42, 3) := by decide +kernel
theorem dX5_refuse_11 : decode cX5_refuse 11 = .ok (.arraylength, 1) := by decide +kernel
theorem dX5_refuse_12 : decode cX5_refuse 12 = .ok (.iconst 1, 1) := by decide +kernel
theorem dX5_refuse_13 : decode cX5_refuse 13 = .ok (.isub, 1) := by decide +kernel
theorem dX5_refuse_14 : decode cX5_refuse 14 = .ok (.invokestatic 75, 3) := by decide +kernel
theorem dX5_refuse_17 : decode cX5_refuse 17 = .ok (.ifCond .eq 13, 3) := by decide +kernel
theorem dX5_refuse_20 : decode cX5_refuse 20 = .ok (.aload_n 0, 1) := by decide +kernel
theorem dX5_refuse_21 : decode cX5_refuse 21 = .ok (.getfield 42, 3) := by decide +kernel
theorem dX5_refuse_24 : decode cX5_refuse 24 = .ok (.iload_n 2, 1) := by decide +kernel
theorem dX5_refuse_25 : decode cX5_refuse 25 = .ok (.dup2, 1) := by decide +kernel
theorem dX5_refuse_26 : decode cX5_refuse 26 = .ok (.iaload, 1) := by decide +kernel
theorem dX5_refuse_27 : decode cX5_refuse 27 = .ok (.iconst 1, 1) := by decide +kernel
theorem dX5_refuse_28 : decode cX5_refuse 28 = .ok (.iadd, 1) := by decide +kernel
theorem dX5_refuse_29 : decode cX5_refuse 29 = .ok (.iastore, 1) := by decide +kernel
theorem dX5_refuse_30 : decode cX5_refuse 30 = .ok (.iload_n 1, 1) := by decide +kernel
theorem dX5_refuse_31 : decode cX5_refuse 31 = .ok (.ireturn, 1) := by decide +kernel
theorem dX5_howMany_0 : decode cX5_howMany 0 = .ok (.iload_n 1, 1) := by decide +kernel
theorem dX5_howMany_1 : decode cX5_howMany 1 = .ok (.tableswitch 120 0 6 #[43, 54, 65, 76, 87, 98, 109], 43) := by decide +kernel
theorem dX5_howMany_44 : decode cX5_howMany 44 = .ok (.aload_n 0, 1) := by decide +kernel
theorem dX5_howMany_45 : decode cX5_howMany 45 = .ok (.getfield 10, 3) := by decide +kernel
theorem dX5_howMany_48 : decode cX5_howMany 48 = .ok (.getfield 60, 3) := by decide +kernel
theorem dX5_howMany_51 : decode cX5_howMany 51 = .ok (.getfield 63, 3) := by decide +kernel
theorem dX5_howMany_54 : decode cX5_howMany 54 = .ok (.ireturn, 1) := by decide +kernel
theorem dX5_howMany_55 : decode cX5_howMany 55 = .ok (.aload_n 0, 1) := by decide +kernel
theorem dX5_howMany_56 : decode cX5_howMany 56 = .ok (.getfield 10, 3) := by decide +kernel
theorem dX5_howMany_59 : decode cX5_howMany 59 = .ok (.getfield 60, 3) := by decide +kernel
theorem dX5_howMany_62 : decode cX5_howMany 62 = .ok (.getfield 108, 3) := by decide +kernel
theorem dX5_howMany_65 : decode cX5_howMany 65 = .ok (.ireturn, 1) := by decide +kernel
theorem dX5_howMany_66 : decode cX5_howMany 66 = .ok (.aload_n 0, 1) := by decide +kernel
theorem dX5_howMany_67 : decode cX5_howMany 67 = .ok (.getfield 10, 3) := by decide +kernel
theorem dX5_howMany_70 : decode cX5_howMany 70 = .ok (.getfield 60, 3) := by decide +kernel
theorem dX5_howMany_73 : decode cX5_howMany 73 = .ok (.getfield 157, 3) := by decide +kernel
theorem dX5_howMany_76 : decode cX5_howMany 76 = .ok (.ireturn, 1) := by decide +kernel
theorem dX5_howMany_77 : decode cX5_howMany 77 = .ok (.aload_n 0, 1) := by decide +kernel
theorem dX5_howMany_78 : decode cX5_howMany 78 = .ok (.getfield 10, 3) := by decide +kernel
theorem dX5_howMany_81 : decode cX5_howMany 81 = .ok (.getfield 60, 3) := by decide +kernel
theorem dX5_howMany_84 : decode cX5_howMany 84 = .ok (.getfield 227, 3) := by decide +kernel
theorem dX5_howMany_87 : decode cX5_howMany 87 = .ok (.ireturn, 1) := by decide +kernel
theorem dX5_howMany_88 : decode cX5_howMany 88 = .ok (.aload_n 0, 1) := by decide +kernel
theorem dX5_howMany_89 : decode cX5_howMany 89 = .ok (.getfield 10, 3) := by decide +kernel
theorem dX5_howMany_92 : decode cX5_howMany 92 = .ok (.getfield 60, 3) := by decide +kernel
theorem dX5_howMany_95 : decode cX5_howMany 95 = .ok (.getfield 129, 3) := by decide +kernel
theorem dX5_howMany_98 : decode cX5_howMany 98 = .ok (.ireturn, 1) := by decide +kernel
theorem dX5_howMany_99 : decode cX5_howMany 99 = .ok (.aload_n 0, 1) := by decide +kernel
theorem dX5_howMany_100 : decode cX5_howMany 100 = .ok (.getfield 10, 3) := by decide +kernel
theorem dX5_howMany_103 : decode cX5_howMany 103 = .ok (.getfield 176, 3) := by decide +kernel
theorem dX5_howMany_106 : decode cX5_howMany 106 = .ok (.getfield 180, 3) := by decide +kernel
theorem dX5_howMany_109 : decode cX5_howMany 109 = .ok (.ireturn, 1) := by decide +kernel
theorem dX5_howMany_110 : decode cX5_howMany 110 = .ok (.aload_n 0, 1) := by decide +kernel
theorem dX5_howMany_111 : decode cX5_howMany 111 = .ok (.getfield 10, 3) := by decide +kernel
theorem dX5_howMany_114 : decode cX5_howMany 114 = .ok (.getfield 82, 3) := by decide +kernel
theorem dX5_howMany_117 : decode cX5_howMany 117 = .ok (.getfield 132, 3) := by decide +kernel
theorem dX5_howMany_120 : decode cX5_howMany 120 = .ok (.ireturn, 1) := by decide +kernel
theorem dX5_howMany_121 : decode cX5_howMany 121 = .ok (.aload_n 0, 1) := by decide +kernel
theorem dX5_howMany_122 : decode cX5_howMany 122 = .ok (.getfield 27, 3) := by decide +kernel
theorem dX5_howMany_125 : decode cX5_howMany 125 = .ok (.getfield 95, 3) := by decide +kernel
theorem dX5_howMany_128 : decode cX5_howMany 128 = .ok (.ireturn, 1) := by decide +kernel
theorem dX5_bitesWithCarrot_0 : decode cX5_bitesWithCarrot 0 = .ok (.aload_n 0, 1) := by decide +kernel
theorem dX5_bitesWithCarrot_1 : decode cX5_bitesWithCarrot 1 = .ok (.getfield 34, 3) := by decide +kernel
theorem dX5_bitesWithCarrot_4 : decode cX5_bitesWithCarrot 4 = .ok (.aload_n 0, 1) := by decide +kernel
theorem dX5_bitesWithCarrot_5 : decode cX5_bitesWithCarrot 5 = .ok (.getfield 10, 3) := by decide +kernel
theorem dX5_bitesWithCarrot_8 : decode cX5_bitesWithCarrot 8 = .ok (.getfield 60, 3) := by decide +kernel
theorem dX5_bitesWithCarrot_11 : decode cX5_bitesWithCarrot 11 = .ok (.invokevirtual 154, 3) := by decide +kernel
theorem dX5_bitesWithCarrot_14 : decode cX5_bitesWithCarrot 14 = .ok (.aload_n 0, 1) := by decide +kernel
theorem dX5_bitesWithCarrot_15 : decode cX5_bitesWithCarrot 15 = .ok (.getfield 34, 3) := by decide +kernel
theorem dX5_bitesWithCarrot_18 : decode cX5_bitesWithCarrot 18 = .ok (.iload_n 2, 1) := by decide +kernel
theorem dX5_bitesWithCarrot_19 : decode cX5_bitesWithCarrot 19 = .ok (.invokevirtual 117, 3) := by decide +kernel
theorem dX5_bitesWithCarrot_22 : decode cX5_bitesWithCarrot 22 = .ok (.istore_n 3, 1) := by decide +kernel
theorem dX5_bitesWithCarrot_23 : decode cX5_bitesWithCarrot 23 = .ok (.aload_n 0, 1) := by decide +kernel
theorem dX5_bitesWithCarrot_24 : decode cX5_bitesWithCarrot 24 = .ok (.getfield 34, 3) := by decide +kernel
theorem dX5_bitesWithCarrot_27 : decode cX5_bitesWithCarrot 27 = .ok (.iload_n 1, 1) := by decide +kernel
theorem dX5_bitesWithCarrot_28 : decode cX5_bitesWithCarrot 28 = .ok (.invokevirtual 123, 3) := by decide +kernel
theorem dX5_bitesWithCarrot_31 : decode cX5_bitesWithCarrot 31 = .ok (.pop, 1) := by decide +kernel
theorem dX5_bitesWithCarrot_32 : decode cX5_bitesWithCarrot 32 = .ok (.iload_n 3, 1) := by decide +kernel
theorem dX5_bitesWithCarrot_33 : decode cX5_bitesWithCarrot 33 = .ok (.aload_n 0, 1) := by decide +kernel
theorem dX5_bitesWithCarrot_34 : decode cX5_bitesWithCarrot 34 = .ok (.getfield 34, 3) := by decide +kernel
theorem dX5_bitesWithCarrot_37 : decode cX5_bitesWithCarrot 37 = .ok (.bipush 20, 2) := by decide +kernel
theorem dX5_bitesWithCarrot_39 : decode cX5_bitesWithCarrot 39 = .ok (.iload_n 2, 1) := by decide +kernel
theorem dX5_bitesWithCarrot_40 : decode cX5_bitesWithCarrot 40 = .ok (.isub, 1) := by decide +kernel
theorem dX5_bitesWithCarrot_41 : decode cX5_bitesWithCarrot 41 = .ok (.invokevirtual 117, 3) := by decide +kernel
theorem dX5_bitesWithCarrot_44 : decode cX5_bitesWithCarrot 44 = .ok (.iadd, 1) := by decide +kernel
theorem dX5_bitesWithCarrot_45 : decode cX5_bitesWithCarrot 45 = .ok (.ireturn, 1) := by decide +kernel
theorem dX5_seatRest_0 : decode cX5_seatRest 0 = .ok (.aload_n 0, 1) := by decide +kernel
theorem dX5_seatRest_1 : decode cX5_seatRest 1 = .ok (.iload_n 1, 1) := by decide +kernel
theorem dX5_seatRest_2 : decode cX5_seatRest 2 = .ok (.putfield 63, 3) := by decide +kernel
theorem dX5_seatRest_5 : decode cX5_seatRest 5 = .ok (.aload_n 0, 1) := by decide +kernel
theorem dX5_seatRest_6 : decode cX5_seatRest 6 = .ok (.invokevirtual 150, 3) := by decide +kernel
theorem dX5_seatRest_9 : decode cX5_seatRest 9 = .ok (.invokestatic 200, 3) := by decide +kernel
theorem dX5_seatRest_12 : decode cX5_seatRest 12 = .ok (.istore 5, 2) := by decide +kernel
theorem dX5_seatRest_14 : decode cX5_seatRest 14 = .ok (.iload 5, 2) := by decide +kernel
theorem dX5_seatRest_16 : decode cX5_seatRest 16 = .ok (.iload_n 3, 1) := by decide +kernel
theorem dX5_seatRest_17 : decode cX5_seatRest 17 = .ok (.if_icmp .lt 5, 3) := by decide +kernel
theorem dX5_seatRest_20 : decode cX5_seatRest 20 = .ok (.iload_n 3, 1) := by decide +kernel
theorem dX5_seatRest_21 : decode cX5_seatRest 21 = .ok (.ireturn, 1) := by decide +kernel
theorem dX5_seatRest_22 : decode cX5_seatRest 22 = .ok (.iload_n 1, 1) := by decide +kernel
theorem dX5_seatRest_23 : decode cX5_seatRest 23 = .ok (.iload_n 2, 1) := by decide +kernel
theorem dX5_seatRest_24 : decode cX5_seatRest 24 = .ok (.if_icmp .ge 9, 3) := by decide +kernel
theorem dX5_seatRest_27 : decode cX5_seatRest 27 = .ok (.iload_n 1, 1) := by decide +kernel
theorem dX5_seatRest_28 : decode cX5_seatRest 28 = .ok (.bipush 6, 2) := by decide +kernel
theorem dX5_seatRest_30 : decode cX5_seatRest 30 = .ok (.if_icmp .lt 19, 3) := by decide +kernel
theorem dX5_seatRest_33 : decode cX5_seatRest 33 = .ok (.aload_n 0, 1) := by decide +kernel
theorem dX5_seatRest_34 : decode cX5_seatRest 34 = .ok (.getfield 126, 3) := by decide +kernel
theorem dX5_seatRest_37 : decode cX5_seatRest 37 = .ok (.iconst 0, 1) := by decide +kernel
theorem dX5_seatRest_38 : decode cX5_seatRest 38 = .ok (.aload 4, 2) := by decide +kernel
theorem dX5_seatRest_40 : decode cX5_seatRest 40 = .ok (.iconst 0, 1) := by decide +kernel
theorem dX5_seatRest_41 : decode cX5_seatRest 41 = .ok (.bipush 6, 2) := by decide +kernel
theorem dX5_seatRest_43 : decode cX5_seatRest 43 = .ok (.invokestatic 230, 3) := by decide +kernel
theorem dX5_seatRest_46 : decode cX5_seatRest 46 = .ok (.iload 5, 2) := by decide +kernel
theorem dX5_seatRest_48 : decode cX5_seatRest 48 = .ok (.ireturn, 1) := by decide +kernel
theorem dX5_seatRest_49 : decode cX5_seatRest 49 = .ok (.iload_n 3, 1) := by decide +kernel
theorem dX5_seatRest_50 : decode cX5_seatRest 50 = .ok (.istore 6, 2) := by decide +kernel
theorem dX5_seatRest_52 : decode cX5_seatRest 52 = .ok (.iconst 0, 1) := by decide +kernel
theorem dX5_seatRest_53 : decode cX5_seatRest 53 = .ok (.istore 7, 2) := by decide +kernel
theorem dX5_seatRest_55 : decode cX5_seatRest 55 = .ok (.iload 7, 2) := by decide +kernel
theorem dX5_seatRest_57 : decode cX5_seatRest 57 = .ok (.bipush 8, 2) := by decide +kernel
theorem dX5_seatRest_59 : decode cX5_seatRest 59 = .ok (.if_icmp .ge 46, 3) := by decide +kernel
theorem dX5_seatRest_62 : decode cX5_seatRest 62 = .ok (.aload_n 0, 1) := by decide +kernel
theorem dX5_seatRest_63 : decode cX5_seatRest 63 = .ok (.iload_n 1, 1) := by decide +kernel
theorem dX5_seatRest_64 : decode cX5_seatRest 64 = .ok (.putfield 63, 3) := by decide +kernel
theorem dX5_seatRest_67 : decode cX5_seatRest 67 = .ok (.aload_n 0, 1) := by decide +kernel
theorem dX5_seatRest_68 : decode cX5_seatRest 68 = .ok (.iload 7, 2) := by decide +kernel
theorem dX5_seatRest_70 : decode cX5_seatRest 70 = .ok (.invokevirtual 79, 3) := by decide +kernel
theorem dX5_seatRest_73 : decode cX5_seatRest 73 = .ok (.iconst (-1), 1) := by decide +kernel
theorem dX5_seatRest_74 : decode cX5_seatRest 74 = .ok (.if_icmp .ne 25, 3) := by decide +kernel
theorem dX5_seatRest_77 : decode cX5_seatRest 77 = .ok (.aload_n 0, 1) := by decide +kernel
theorem dX5_seatRest_78 : decode cX5_seatRest 78 = .ok (.getfield 126, 3) := by decide +kernel
theorem dX5_seatRest_81 : decode cX5_seatRest 81 = .ok (.iload_n 1, 1) := by decide +kernel
theorem dX5_seatRest_82 : decode cX5_seatRest 82 = .ok (.iload 7, 2) := by decide +kernel
theorem dX5_seatRest_84 : decode cX5_seatRest 84 = .ok (.iastore, 1) := by decide +kernel
theorem dX5_seatRest_85 : decode cX5_seatRest 85 = .ok (.aload_n 0, 1) := by decide +kernel
theorem dX5_seatRest_86 : decode cX5_seatRest 86 = .ok (.iload_n 1, 1) := by decide +kernel
theorem dX5_seatRest_87 : decode cX5_seatRest 87 = .ok (.iconst 1, 1) := by decide +kernel
theorem dX5_seatRest_88 : decode cX5_seatRest 88 = .ok (.iadd, 1) := by decide +kernel
theorem dX5_seatRest_89 : decode cX5_seatRest 89 = .ok (.iload_n 2, 1) := by decide +kernel
theorem dX5_seatRest_90 : decode cX5_seatRest 90 = .ok (.iload 6, 2) := by decide +kernel
theorem dX5_seatRest_92 : decode cX5_seatRest 92 = .ok (.aload 4, 2) := by decide +kernel
theorem dX5_seatRest_94 : decode cX5_seatRest 94 = .ok (.invokestatic 169, 3) := by decide +kernel
theorem dX5_seatRest_97 : decode cX5_seatRest 97 = .ok (.istore 6, 2) := by decide +kernel
theorem dX5_seatRest_99 : decode cX5_seatRest 99 = .ok (.iinc 7 1, 3) := by decide +kernel
theorem dX5_seatRest_102 : decode cX5_seatRest 102 = .ok (.goto (-47), 3) := by decide +kernel
theorem dX5_seatRest_105 : decode cX5_seatRest 105 = .ok (.iload 6, 2) := by decide +kernel
theorem dX5_seatRest_107 : decode cX5_seatRest 107 = .ok (.ireturn, 1) := by decide +kernel
theorem dX5_ringGain_0 : decode cX5_ringGain 0 = .ok (.iload_n 2, 1) := by decide +kernel
theorem dX5_ringGain_1 : decode cX5_ringGain 1 = .ok (.iconst 1, 1) := by decide +kernel
theorem dX5_ringGain_2 : decode cX5_ringGain 2 = .ok (.iand, 1) := by decide +kernel
theorem dX5_ringGain_3 : decode cX5_ringGain 3 = .ok (.ifCond .ne 7, 3) := by decide +kernel
theorem dX5_ringGain_6 : decode cX5_ringGain 6 = .ok (.iconst 1, 1) := by decide +kernel
theorem dX5_ringGain_7 : decode cX5_ringGain 7 = .ok (.goto 4, 3) := by decide +kernel
theorem dX5_ringGain_10 : decode cX5_ringGain 10 = .ok (.iconst 0, 1) := by decide +kernel
theorem dX5_ringGain_11 : decode cX5_ringGain 11 = .ok (.istore 5, 2) := by decide +kernel
theorem dX5_ringGain_13 : decode cX5_ringGain 13 = .ok (.iload_n 2, 1) := by decide +kernel
theorem dX5_ringGain_14 : decode cX5_ringGain 14 = .ok (.iconst 2, 1) := by decide +kernel
theorem dX5_ringGain_15 : decode cX5_ringGain 15 = .ok (.iand, 1) := by decide +kernel
theorem dX5_ringGain_16 : decode cX5_ringGain 16 = .ok (.ifCond .ne 7, 3) := by decide +kernel
theorem dX5_ringGain_19 : decode cX5_ringGain 19 = .ok (.iconst 1, 1) := by decide +kernel
theorem dX5_ringGain_20 : decode cX5_ringGain 20 = .ok (.goto 4, 3) := by decide +kernel
theorem dX5_ringGain_23 : decode cX5_ringGain 23 = .ok (.iconst 0, 1) := by decide +kernel
theorem dX5_ringGain_24 : decode cX5_ringGain 24 = .ok (.istore 6, 2) := by decide +kernel
theorem dX5_ringGain_26 : decode cX5_ringGain 26 = .ok (.aload_n 0, 1) := by decide +kernel
theorem dX5_ringGain_27 : decode cX5_ringGain 27 = .ok (.getfield 10, 3) := by decide +kernel
theorem dX5_ringGain_30 : decode cX5_ringGain 30 = .ok (.getfield 60, 3) := by decide +kernel
theorem dX5_ringGain_33 : decode cX5_ringGain 33 = .ok (.invokevirtual 150, 3) := by decide +kernel
theorem dX5_ringGain_36 : decode cX5_ringGain 36 = .ok (.istore 7, 2) := by decide +kernel
theorem dX5_ringGain_38 : decode cX5_ringGain 38 = .ok (.iload 5, 2) := by decide +kernel
theorem dX5_ringGain_40 : decode cX5_ringGain 40 = .ok (.ifCond .eq 13, 3) := by decide +kernel
theorem dX5_ringGain_43 : decode cX5_ringGain 43 = .ok (.iload 7, 2) := by decide +kernel
theorem dX5_ringGain_45 : decode cX5_ringGain 45 = .ok (.iconst 1, 1) := by decide +kernel
theorem dX5_ringGain_46 : decode cX5_ringGain 46 = .ok (.iload_n 3, 1) := by decide +kernel
theorem dX5_ringGain_47 : decode cX5_ringGain 47 = .ok (.ishl, 1) := by decide +kernel
theorem dX5_ringGain_48 : decode cX5_ringGain 48 = .ok (.iconst (-1), 1) := by decide +kernel
theorem dX5_ringGain_49 : decode cX5_ringGain 49 = .ok (.ixor, 1) := by decide +kernel
theorem dX5_ringGain_50 : decode cX5_ringGain 50 = .ok (.iand, 1) := by decide +kernel
theorem dX5_ringGain_51 : decode cX5_ringGain 51 = .ok (.istore 7, 2) := by decide +kernel
theorem dX5_ringGain_53 : decode cX5_ringGain 53 = .ok (.iload 6, 2) := by decide +kernel
theorem dX5_ringGain_55 : decode cX5_ringGain 55 = .ok (.ifCond .eq 14, 3) := by decide +kernel
theorem dX5_ringGain_58 : decode cX5_ringGain 58 = .ok (.iload 7, 2) := by decide +kernel
theorem dX5_ringGain_60 : decode cX5_ringGain 60 = .ok (.iconst 1, 1) := by decide +kernel
theorem dX5_ringGain_61 : decode cX5_ringGain 61 = .ok (.iload 4, 2) := by decide +kernel
theorem dX5_ringGain_63 : decode cX5_ringGain 63 = .ok (.ishl, 1) := by decide +kernel
theorem dX5_ringGain_64 : decode cX5_ringGain 64 = .ok (.iconst (-1), 1) := by decide +kernel
theorem dX5_ringGain_65 : decode cX5_ringGain 65 = .ok (.ixor, 1) := by decide +kernel
theorem dX5_ringGain_66 : decode cX5_ringGain 66 = .ok (.iand, 1) := by decide +kernel
theorem dX5_ringGain_67 : decode cX5_ringGain 67 = .ok (.istore 7, 2) := by decide +kernel
theorem dX5_ringGain_69 : decode cX5_ringGain 69 = .ok (.iload_n 1, 1) := by decide +kernel
theorem dX5_ringGain_70 : decode cX5_ringGain 70 = .ok (.iload_n 3, 1) := by decide +kernel
theorem dX5_ringGain_71 : decode cX5_ringGain 71 = .ok (.if_icmp .ne 8, 3) := by decide +kernel
theorem dX5_ringGain_74 : decode cX5_ringGain 74 = .ok (.iload 5, 2) := by decide +kernel
theorem dX5_ringGain_76 : decode cX5_ringGain 76 = .ok (.goto 5, 3) := by decide +kernel
theorem dX5_ringGain_79 : decode cX5_ringGain 79 = .ok (.iload 6, 2) := by decide +kernel
theorem dX5_ringGain_81 : decode cX5_ringGain 81 = .ok (.istore 8, 2) := by decide +kernel
theorem dX5_ringGain_83 : decode cX5_ringGain 83 = .ok (.iload 8, 2) := by decide +kernel
theorem dX5_ringGain_85 : decode cX5_ringGain 85 = .ok (.ifCond .eq 7, 3) := by decide +kernel
theorem dX5_ringGain_88 : decode cX5_ringGain 88 = .ok (.iconst 0, 1) := by decide +kernel
theorem dX5_ringGain_89 : decode cX5_ringGain 89 = .ok (.goto 4, 3) := by decide +kernel
theorem dX5_ringGain_92 : decode cX5_ringGain 92 = .ok (.iconst 1, 1) := by decide +kernel
theorem dX5_ringGain_93 : decode cX5_ringGain 93 = .ok (.iconst 2, 1) := by decide +kernel
theorem dX5_ringGain_94 : decode cX5_ringGain 94 = .ok (.aload_n 0, 1) := by decide +kernel
theorem dX5_ringGain_95 : decode cX5_ringGain 95 = .ok (.getfield 10, 3) := by decide +kernel
theorem dX5_ringGain_98 : decode cX5_ringGain 98 = .ok (.getfield 60, 3) := by decide +kernel
theorem dX5_ringGain_101 : decode cX5_ringGain 101 = .ok (.iload_n 1, 1) := by decide +kernel
theorem dX5_ringGain_102 : decode cX5_ringGain 102 = .ok (.iload 7, 2) := by decide +kernel
theorem dX5_ringGain_104 : decode cX5_ringGain 104 = .ok (.invokevirtual 236, 3) := by decide +kernel
theorem dX5_ringGain_107 : decode cX5_ringGain 107 = .ok (.imul, 1) := by decide +kernel
theorem dX5_ringGain_108 : decode cX5_ringGain 108 = .ok (.isub, 1) := by decide +kernel
theorem dX5_ringGain_109 : decode cX5_ringGain 109 = .ok (.ireturn, 1) := by decide +kernel
theorem dX5_mostAlike_0 : decode cX5_mostAlike 0 = .ok (.iconst 0, 1) := by decide +kernel
theorem dX5_mostAlike_1 : decode cX5_mostAlike 1 = .ok (.istore 6, 2) := by decide +kernel
theorem dX5_mostAlike_3 : decode cX5_mostAlike 3 = .ok (.iconst 0, 1) := by decide +kernel
theorem dX5_mostAlike_4 : decode cX5_mostAlike 4 = .ok (.istore 7, 2) := by decide +kernel
theorem dX5_mostAlike_6 : decode cX5_mostAlike 6 = .ok (.iload 7, 2) := by decide +kernel
theorem dX5_mostAlike_8 : decode cX5_mostAlike 8 = .ok (.bipush 6, 2) := by decide +kernel
theorem dX5_mostAlike_10 : decode cX5_mostAlike 10 = .ok (.if_icmp .ge 57, 3) := by decide +kernel
theorem dX5_mostAlike_13 : decode cX5_mostAlike 13 = .ok (.iload_n 0, 1) := by decide +kernel
theorem dX5_mostAlike_14 : decode cX5_mostAlike 14 = .ok (.iload 7, 2) := by decide +kernel
theorem dX5_mostAlike_16 : decode cX5_mostAlike 16 = .ok (.ishr, 1) := by decide +kernel
theorem dX5_mostAlike_17 : decode cX5_mostAlike 17 = .ok (.iconst 1, 1) := by decide +kernel
theorem dX5_mostAlike_18 : decode cX5_mostAlike 18 = .ok (.iand, 1) := by decide +kernel
theorem dX5_mostAlike_19 : decode cX5_mostAlike 19 = .ok (.iconst 1, 1) := by decide +kernel
theorem dX5_mostAlike_20 : decode cX5_mostAlike 20 = .ok (.if_icmp .ne 41, 3) := by decide +kernel
theorem dX5_mostAlike_23 : decode cX5_mostAlike 23 = .ok (.iload 7, 2) := by decide +kernel
theorem dX5_mostAlike_25 : decode cX5_mostAlike 25 = .ok (.iload_n 1, 1) := by decide +kernel
theorem dX5_mostAlike_26 : decode cX5_mostAlike 26 = .ok (.iload_n 2, 1) := by decide +kernel
theorem dX5_mostAlike_27 : decode cX5_mostAlike 27 = .ok (.iload_n 3, 1) := by decide +kernel
theorem dX5_mostAlike_28 : decode cX5_mostAlike 28 = .ok (.iload 4, 2) := by decide +kernel
theorem dX5_mostAlike_30 : decode cX5_mostAlike 30 = .ok (.iload 5, 2) := by decide +kernel
theorem dX5_mostAlike_32 : decode cX5_mostAlike 32 = .ok (.invokestatic 239, 3) := by decide +kernel
theorem dX5_mostAlike_35 : decode cX5_mostAlike 35 = .ok (.istore 8, 2) := by decide +kernel
theorem dX5_mostAlike_37 : decode cX5_mostAlike 37 = .ok (.iload 6, 2) := by decide +kernel
theorem dX5_mostAlike_39 : decode cX5_mostAlike 39 = .ok (.iload_n 0, 1) := by decide +kernel
theorem dX5_mostAlike_40 : decode cX5_mostAlike 40 = .ok (.iload 8, 2) := by decide +kernel
theorem dX5_mostAlike_42 : decode cX5_mostAlike 42 = .ok (.iload_n 1, 1) := by decide +kernel
theorem dX5_mostAlike_43 : decode cX5_mostAlike 43 = .ok (.iload_n 2, 1) := by decide +kernel
theorem dX5_mostAlike_44 : decode cX5_mostAlike 44 = .ok (.iload_n 3, 1) := by decide +kernel
theorem dX5_mostAlike_45 : decode cX5_mostAlike 45 = .ok (.iload 4, 2) := by decide +kernel
theorem dX5_mostAlike_47 : decode cX5_mostAlike 47 = .ok (.iload 5, 2) := by decide +kernel
theorem dX5_mostAlike_49 : decode cX5_mostAlike 49 = .ok (.invokestatic 242, 3) := by decide +kernel
theorem dX5_mostAlike_52 : decode cX5_mostAlike 52 = .ok (.iand, 1) := by decide +kernel
theorem dX5_mostAlike_53 : decode cX5_mostAlike 53 = .ok (.invokestatic 200, 3) := by decide +kernel
theorem dX5_mostAlike_56 : decode cX5_mostAlike 56 = .ok (.invokestatic 245, 3) := by decide +kernel
theorem dX5_mostAlike_59 : decode cX5_mostAlike 59 = .ok (.istore 6, 2) := by decide +kernel
theorem dX5_mostAlike_61 : decode cX5_mostAlike 61 = .ok (.iinc 7 1, 3) := by decide +kernel
theorem dX5_mostAlike_64 : decode cX5_mostAlike 64 = .ok (.goto (-58), 3) := by decide +kernel
theorem dX5_mostAlike_67 : decode cX5_mostAlike 67 = .ok (.iload 6, 2) := by decide +kernel
theorem dX5_mostAlike_69 : decode cX5_mostAlike 69 = .ok (.ireturn, 1) := by decide +kernel
theorem dX5_kindsSoNear_0 : decode cX5_kindsSoNear 0 = .ok (.iconst 0, 1) := by decide +kernel
theorem dX5_kindsSoNear_1 : decode cX5_kindsSoNear 1 = .ok (.istore 6, 2) := by decide +kernel
theorem dX5_kindsSoNear_3 : decode cX5_kindsSoNear 3 = .ok (.iconst 0, 1) := by decide +kernel
theorem dX5_kindsSoNear_4 : decode cX5_kindsSoNear 4 = .ok (.istore 7, 2) := by decide +kernel
theorem dX5_kindsSoNear_6 : decode cX5_kindsSoNear 6 = .ok (.iload 7, 2) := by decide +kernel
theorem dX5_kindsSoNear_8 : decode cX5_kindsSoNear 8 = .ok (.bipush 6, 2) := by decide +kernel
theorem dX5_kindsSoNear_10 : decode cX5_kindsSoNear 10 = .ok (.if_icmp .ge 34, 3) := by decide +kernel
theorem dX5_kindsSoNear_13 : decode cX5_kindsSoNear 13 = .ok (.iload 7, 2) := by decide +kernel
theorem dX5_kindsSoNear_15 : decode cX5_kindsSoNear 15 = .ok (.iload_n 1, 1) := by decide +kernel
theorem dX5_kindsSoNear_16 : decode cX5_kindsSoNear 16 = .ok (.iload_n 2, 1) := by decide +kernel
theorem dX5_kindsSoNear_17 : decode cX5_kindsSoNear 17 = .ok (.iload_n 3, 1) := by decide +kernel
theorem dX5_kindsSoNear_18 : decode cX5_kindsSoNear 18 = .ok (.iload 4, 2) := by decide +kernel
theorem dX5_kindsSoNear_20 : decode cX5_kindsSoNear 20 = .ok (.iload 5, 2) := by decide +kernel
theorem dX5_kindsSoNear_22 : decode cX5_kindsSoNear 22 = .ok (.invokestatic 239, 3) := by decide +kernel
theorem dX5_kindsSoNear_25 : decode cX5_kindsSoNear 25 = .ok (.iload_n 0, 1) := by decide +kernel
theorem dX5_kindsSoNear_26 : decode cX5_kindsSoNear 26 = .ok (.if_icmp .ne 12, 3) := by decide +kernel
theorem dX5_kindsSoNear_29 : decode cX5_kindsSoNear 29 = .ok (.iload 6, 2) := by decide +kernel
theorem dX5_kindsSoNear_31 : decode cX5_kindsSoNear 31 = .ok (.iconst 1, 1) := by decide +kernel
theorem dX5_kindsSoNear_32 : decode cX5_kindsSoNear 32 = .ok (.iload 7, 2) := by decide +kernel
theorem dX5_kindsSoNear_34 : decode cX5_kindsSoNear 34 = .ok (.ishl, 1) := by decide +kernel
theorem dX5_kindsSoNear_35 : decode cX5_kindsSoNear 35 = .ok (.ior, 1) := by decide +kernel
theorem dX5_kindsSoNear_36 : decode cX5_kindsSoNear 36 = .ok (.istore 6, 2) := by decide +kernel
theorem dX5_kindsSoNear_38 : decode cX5_kindsSoNear 38 = .ok (.iinc 7 1, 3) := by decide +kernel
theorem dX5_kindsSoNear_41 : decode cX5_kindsSoNear 41 = .ok (.goto (-35), 3) := by decide +kernel
theorem dX5_kindsSoNear_44 : decode cX5_kindsSoNear 44 = .ok (.iload 6, 2) := by decide +kernel
theorem dX5_kindsSoNear_46 : decode cX5_kindsSoNear 46 = .ok (.ireturn, 1) := by decide +kernel
theorem dX5_near_0 : decode cX5_near 0 = .ok (.iconst 0, 1) := by decide +kernel
theorem dX5_near_1 : decode cX5_near 1 = .ok (.iload_n 1, 1) := by decide +kernel
theorem dX5_near_2 : decode cX5_near 2 = .ok (.iconst 3, 1) := by decide +kernel
theorem dX5_near_3 : decode cX5_near 3 = .ok (.iload_n 2, 1) := by decide +kernel
theorem dX5_near_4 : decode cX5_near 4 = .ok (.imul, 1) := by decide +kernel
theorem dX5_near_5 : decode cX5_near 5 = .ok (.iadd, 1) := by decide +kernel
theorem dX5_near_6 : decode cX5_near 6 = .ok (.iload_n 3, 1) := by decide +kernel
theorem dX5_near_7 : decode cX5_near 7 = .ok (.iconst 2, 1) := by decide +kernel
theorem dX5_near_8 : decode cX5_near 8 = .ok (.idiv, 1) := by decide +kernel
theorem dX5_near_9 : decode cX5_near 9 = .ok (.isub, 1) := by decide +kernel
theorem dX5_near_10 : decode cX5_near 10 = .ok (.invokestatic 245, 3) := by decide +kernel
theorem dX5_near_13 : decode cX5_near 13 = .ok (.istore 6, 2) := by decide +kernel
theorem dX5_near_15 : decode cX5_near 15 = .ok (.iconst 0, 1) := by decide +kernel
theorem dX5_near_16 : decode cX5_near 16 = .ok (.iload 6, 2) := by decide +kernel
theorem dX5_near_18 : decode cX5_near 18 = .ok (.iload_n 3, 1) := by decide +kernel
theorem dX5_near_19 : decode cX5_near 19 = .ok (.iconst 2, 1) := by decide +kernel
theorem dX5_near_20 : decode cX5_near 20 = .ok (.idiv, 1) := by decide +kernel
theorem dX5_near_21 : decode cX5_near 21 = .ok (.isub, 1) := by decide +kernel
theorem dX5_near_22 : decode cX5_near 22 = .ok (.invokestatic 245, 3) := by decide +kernel
theorem dX5_near_25 : decode cX5_near 25 = .ok (.istore 7, 2) := by decide +kernel
theorem dX5_near_27 : decode cX5_near 27 = .ok (.iload 6, 2) := by decide +kernel
theorem dX5_near_29 : decode cX5_near 29 = .ok (.iconst 3, 1) := by decide +kernel
theorem dX5_near_30 : decode cX5_near 30 = .ok (.iload 5, 2) := by decide +kernel
theorem dX5_near_32 : decode cX5_near 32 = .ok (.imul, 1) := by decide +kernel
theorem dX5_near_33 : decode cX5_near 33 = .ok (.iadd, 1) := by decide +kernel
theorem dX5_near_34 : decode cX5_near 34 = .ok (.istore 8, 2) := by decide +kernel
theorem dX5_near_36 : decode cX5_near 36 = .ok (.iload_n 0, 1) := by decide +kernel
theorem dX5_near_37 : decode cX5_near 37 = .ok (.tableswitch 59 1 5 #[35, 40, 43, 46, 54], 35) := by decide +kernel
theorem dX5_near_72 : decode cX5_near 72 = .ok (.iload 6, 2) := by decide +kernel
theorem dX5_near_74 : decode cX5_near 74 = .ok (.iconst 4, 1) := by decide +kernel
theorem dX5_near_75 : decode cX5_near 75 = .ok (.iadd, 1) := by decide +kernel
theorem dX5_near_76 : decode cX5_near 76 = .ok (.ireturn, 1) := by decide +kernel
theorem dX5_near_77 : decode cX5_near 77 = .ok (.iload 7, 2) := by decide +kernel
theorem dX5_near_79 : decode cX5_near 79 = .ok (.ireturn, 1) := by decide +kernel
theorem dX5_near_80 : decode cX5_near 80 = .ok (.iload 8, 2) := by decide +kernel
theorem dX5_near_82 : decode cX5_near 82 = .ok (.ireturn, 1) := by decide +kernel
theorem dX5_near_83 : decode cX5_near 83 = .ok (.iload 8, 2) := by decide +kernel
theorem dX5_near_85 : decode cX5_near 85 = .ok (.iconst 2, 1) := by decide +kernel
theorem dX5_near_86 : decode cX5_near 86 = .ok (.iload 4, 2) := by decide +kernel
theorem dX5_near_88 : decode cX5_near 88 = .ok (.imul, 1) := by decide +kernel
theorem dX5_near_89 : decode cX5_near 89 = .ok (.iadd, 1) := by decide +kernel
theorem dX5_near_90 : decode cX5_near 90 = .ok (.ireturn, 1) := by decide +kernel
theorem dX5_near_91 : decode cX5_near 91 = .ok (.iload 7, 2) := by decide +kernel
theorem dX5_near_93 : decode cX5_near 93 = .ok (.iconst 2, 1) := by decide +kernel
theorem dX5_near_94 : decode cX5_near 94 = .ok (.idiv, 1) := by decide +kernel
theorem dX5_near_95 : decode cX5_near 95 = .ok (.ireturn, 1) := by decide +kernel
theorem dX5_near_96 : decode cX5_near 96 = .ok (.iload 6, 2) := by decide +kernel
theorem dX5_near_98 : decode cX5_near 98 = .ok (.ireturn, 1) := by decide +kernel
theorem dX6_init_0 : decode cX6_init 0 = .ok (.aload_n 0, 1) := by decide +kernel
theorem dX6_init_1 : decode cX6_init 1 = .ok (.invokespecial 1, 3) := by decide +kernel
theorem dX6_init_4 : decode cX6_init 4 = .ok (.aload_n 0, 1) := by decide +kernel
theorem dX6_init_5 : decode cX6_init 5 = .ok (.sipush 255, 3) := by decide +kernel
theorem dX6_init_8 : decode cX6_init 8 = .ok (.newarray .int, 2) := by decide +kernel
theorem dX6_init_10 : decode cX6_init 10 = .ok (.putfield 7, 3) := by decide +kernel
theorem dX6_init_13 : decode cX6_init 13 = .ok (.aload_n 0, 1) := by decide +kernel
theorem dX6_init_14 : decode cX6_init 14 = .ok (.sipush 255, 3) := by decide +kernel
theorem dX6_init_17 : decode cX6_init 17 = .ok (.newarray .int, 2) := by decide +kernel
theorem dX6_init_19 : decode cX6_init 19 = .ok (.putfield 13, 3) := by decide +kernel
theorem dX6_init_22 : decode cX6_init 22 = .ok (.aload_n 0, 1) := by decide +kernel
theorem dX6_init_23 : decode cX6_init 23 = .ok (.bipush 35, 2) := by decide +kernel
theorem dX6_init_25 : decode cX6_init 25 = .ok (.newarray .int, 2) := by decide +kernel
theorem dX6_init_27 : decode cX6_init 27 = .ok (.putfield 16, 3) := by decide +kernel
theorem dX6_init_30 : decode cX6_init 30 = .ok (.aload_n 0, 1) := by decide +kernel
theorem dX6_init_31 : decode cX6_init 31 = .ok (.sipush 510, 3) := by decide +kernel
theorem dX6_init_34 : decode cX6_init 34 = .ok (.newarray .int, 2) := by decide +kernel
theorem dX6_init_36 : decode cX6_init 36 = .ok (.putfield 19, 3) := by decide +kernel
theorem dX6_init_39 : decode cX6_init 39 = .ok (.aload_n 0, 1) := by decide +kernel
theorem dX6_init_40 : decode cX6_init 40 = .ok (.iconst 2, 1) := by decide +kernel
theorem dX6_init_41 : decode cX6_init 41 = .ok (.newarray .boolean, 2) := by decide +kernel
theorem dX6_init_43 : decode cX6_init 43 = .ok (.putfield 22, 3) := by decide +kernel
theorem dX6_init_46 : decode cX6_init 46 = .ok (.aload_n 0, 1) := by decide +kernel
theorem dX6_init_47 : decode cX6_init 47 = .ok (.sipush 150, 3) := by decide +kernel
theorem dX6_init_50 : decode cX6_init 50 = .ok (.newarray .int, 2) := by decide +kernel
theorem dX6_init_52 : decode cX6_init 52 = .ok (.putfield 26, 3) := by decide +kernel
theorem dX6_init_55 : decode cX6_init 55 = .ok (.aload_n 0, 1) := by decide +kernel
theorem dX6_init_56 : decode cX6_init 56 = .ok (.lconst 1, 1) := by decide +kernel
theorem dX6_init_57 : decode cX6_init 57 = .ok (.putfield 29, 3) := by decide +kernel
theorem dX6_init_60 : decode cX6_init 60 = .ok (.aload_n 0, 1) := by decide +kernel
theorem dX6_init_61 : decode cX6_init 61 = .ok (.bipush 6, 2) := by decide +kernel
theorem dX6_init_63 : decode cX6_init 63 = .ok (.newarray .int, 2) := by decide +kernel
theorem dX6_init_65 : decode cX6_init 65 = .ok (.putfield 33, 3) := by decide +kernel
theorem dX6_init_68 : decode cX6_init 68 = .ok (.aload_n 0, 1) := by decide +kernel
theorem dX6_init_69 : decode cX6_init 69 = .ok (.bipush 6, 2) := by decide +kernel
theorem dX6_init_71 : decode cX6_init 71 = .ok (.newarray .int, 2) := by decide +kernel
theorem dX6_init_73 : decode cX6_init 73 = .ok (.putfield 36, 3) := by decide +kernel
theorem dX6_init_76 : decode cX6_init 76 = .ok (.aload_n 0, 1) := by decide +kernel
theorem dX6_init_77 : decode cX6_init 77 = .ok (.getfield 7, 3) := by decide +kernel
theorem dX6_init_80 : decode cX6_init 80 = .ok (.iconst 0, 1) := by decide +kernel
theorem dX6_init_81 : decode cX6_init 81 = .ok (.invokestatic 39, 3) := by decide +kernel
theorem dX6_init_84 : decode cX6_init 84 = .ok (.return_, 1) := by decide +kernel
theorem dX6_in_0 : decode cX6_in 0 = .ok (.lload_n 0, 1) := by decide +kernel
theorem dX6_in_1 : decode cX6_in 1 = .ok (.lload_n 2, 1) := by decide +kernel
theorem dX6_in_2 : decode cX6_in 2 = .ok (.lcmp, 1) := by decide +kernel
theorem dX6_in_3 : decode cX6_in 3 = .ok (.ifCond .lt 14, 3) := by decide +kernel
theorem dX6_in_6 : decode cX6_in 6 = .ok (.lload_n 0, 1) := by decide +kernel
theorem dX6_in_7 : decode cX6_in 7 = .ok (.lload 4, 2) := by decide +kernel
theorem dX6_in_9 : decode cX6_in 9 = .ok (.lcmp, 1) := by decide +kernel
theorem dX6_in_10 : decode cX6_in 10 = .ok (.ifCond .gt 7, 3) := by decide +kernel
theorem dX6_in_13 : decode cX6_in 13 = .ok (.iconst 1, 1) := by decide +kernel
theorem dX6_in_14 : decode cX6_in 14 = .ok (.goto 4, 3) := by decide +kernel
theorem dX6_in_17 : decode cX6_in 17 = .ok (.iconst 0, 1) := by decide +kernel
theorem dX6_in_18 : decode cX6_in 18 = .ok (.ireturn, 1) := by decide +kernel
theorem dX6_has_0 : decode cX6_has 0 = .ok (.iload_n 0, 1) := by decide +kernel
theorem dX6_has_1 : decode cX6_has 1 = .ok (.iload_n 1, 1) := by decide +kernel
theorem dX6_has_2 : decode cX6_has 2 = .ok (.ishr, 1) := by decide +kernel
theorem dX6_has_3 : decode cX6_has 3 = .ok (.iconst 1, 1) := by decide +kernel
theorem dX6_has_4 : decode cX6_has 4 = .ok (.iand, 1) := by decide +kernel
theorem dX6_has_5 : decode cX6_has 5 = .ok (.iconst 1, 1) := by decide +kernel
theorem dX6_has_6 : decode cX6_has 6 = .ok (.if_icmp .ne 7, 3) := by decide +kernel
theorem dX6_has_9 : decode cX6_has 9 = .ok (.iconst 1, 1) := by decide +kernel
theorem dX6_has_10 : decode cX6_has 10 = .ok (.goto 4, 3) := by decide +kernel
theorem dX6_has_13 : decode cX6_has 13 = .ok (.iconst 0, 1) := by decide +kernel
theorem dX6_has_14 : decode cX6_has 14 = .ok (.ireturn, 1) := by decide +kernel
theorem dX6_bits_0 : decode cX6_bits 0 = .ok (.iconst 0, 1) := by decide +kernel
theorem dX6_bits_1 : decode cX6_bits 1 = .ok (.istore_n 1, 1) := by decide +kernel
theorem dX6_bits_2 : decode cX6_bits 2 = .ok (.iload_n 0, 1) := by decide +kernel
theorem dX6_bits_3 : decode cX6_bits 3 = .ok (.istore_n 2, 1) := by decide +kernel
theorem dX6_bits_4 : decode cX6_bits 4 = .ok (.iload_n 2, 1) := by decide +kernel
theorem dX6_bits_5 : decode cX6_bits 5 = .ok (.ifCond .eq 15, 3) := by decide +kernel
theorem dX6_bits_8 : decode cX6_bits 8 = .ok (.iinc 1 1, 3) := by decide +kernel
theorem dX6_bits_11 : decode cX6_bits 11 = .ok (.iload_n 2, 1) := by decide +kernel
theorem dX6_bits_12 : decode cX6_bits 12 = .ok (.iload_n 2, 1) := by decide +kernel
theorem dX6_bits_13 : decode cX6_bits 13 = .ok (.iconst 1, 1) := by decide +kernel
theorem dX6_bits_14 : decode cX6_bits 14 = .ok (.isub, 1) := by decide +kernel
theorem dX6_bits_15 : decode cX6_bits 15 = .ok (.iand, 1) := by decide +kernel
theorem dX6_bits_16 : decode cX6_bits 16 = .ok (.istore_n 2, 1) := by decide +kernel
theorem dX6_bits_17 : decode cX6_bits 17 = .ok (.goto (-13), 3) := by decide +kernel
theorem dX6_bits_20 : decode cX6_bits 20 = .ok (.iload_n 1, 1) := by decide +kernel
theorem dX6_bits_21 : decode cX6_bits 21 = .ok (.ireturn, 1) := by decide +kernel
theorem dX6_copies_0 : decode cX6_copies 0 = .ok (.iconst 0, 1) := by decide +kernel
theorem dX6_copies_1 : decode cX6_copies 1 = .ok (.istore 5, 2) := by decide +kernel
theorem dX6_copies_3 : decode cX6_copies 3 = .ok (.iload 5, 2) := by decide +kernel
theorem dX6_copies_5 : decode cX6_copies 5 = .ok (.iload 4, 2) := by decide +kernel
theorem dX6_copies_7 : decode cX6_copies 7 = .ok (.if_icmp .ge 21, 3) := by decide +kernel
theorem dX6_copies_10 : decode cX6_copies 10 = .ok (.aload_n 2, 1) := by decide +kernel
theorem dX6_copies_11 : decode cX6_copies 11 = .ok (.iload_n 3, 1) := by decide +kernel
theorem dX6_copies_12 : decode cX6_copies 12 = .ok (.iload 5, 2) := by decide +kernel
theorem dX6_copies_14 : decode cX6_copies 14 = .ok (.iadd, 1) := by decide +kernel
theorem dX6_copies_15 : decode cX6_copies 15 = .ok (.aload_n 0, 1) := by decide +kernel
theorem dX6_copies_16 : decode cX6_copies 16 = .ok (.iload_n 1, 1) := by decide +kernel
theorem dX6_copies_17 : decode cX6_copies 17 = .ok (.iload 5, 2) := by decide +kernel
theorem dX6_copies_19 : decode cX6_copies 19 = .ok (.iadd, 1) := by decide +kernel
theorem dX6_copies_20 : decode cX6_copies 20 = .ok (.iaload, 1) := by decide +kernel
theorem dX6_copies_21 : decode cX6_copies 21 = .ok (.iastore, 1) := by decide +kernel
theorem dX6_copies_22 : decode cX6_copies 22 = .ok (.iinc 5 1, 3) := by decide +kernel
theorem dX6_copies_25 : decode cX6_copies 25 = .ok (.goto (-22), 3) := by decide +kernel
theorem dX6_copies_28 : decode cX6_copies 28 = .ok (.return_, 1) := by decide +kernel
theorem dX6_begins_0 : decode cX6_begins 0 = .ok (.iconst 0, 1) := by decide +kernel
theorem dX6_begins_1 : decode cX6_begins 1 = .ok (.istore_n 2, 1) := by decide +kernel
theorem dX6_begins_2 : decode cX6_begins 2 = .ok (.iload_n 2, 1) := by decide +kernel
theorem dX6_begins_3 : decode cX6_begins 3 = .ok (.sipush 255, 3) := by decide +kernel
theorem dX6_begins_6 : decode cX6_begins 6 = .ok (.if_icmp .ge 23, 3) := by decide +kernel
theorem dX6_begins_9 : decode cX6_begins 9 = .ok (.aload_n 0, 1) := by decide +kernel
theorem dX6_begins_10 : decode cX6_begins 10 = .ok (.iload_n 2, 1) := by decide +kernel
theorem dX6_begins_11 : decode cX6_begins 11 = .ok (.iload_n 2, 1) := by decide +kernel
theorem dX6_begins_12 : decode cX6_begins 12 = .ok (.bipush 6, 2) := by decide +kernel
theorem dX6_begins_14 : decode cX6_begins 14 = .ok (.if_icmp .ge 7, 3) := by decide +kernel
theorem dX6_begins_17 : decode cX6_begins 17 = .ok (.iconst (-1), 1) := by decide +kernel
theorem dX6_begins_18 : decode cX6_begins 18 = .ok (.goto 4, 3) := by decide +kernel
theorem dX6_begins_21 : decode cX6_begins 21 = .ok (.iconst 0, 1) := by decide +kernel
theorem dX6_begins_22 : decode cX6_begins 22 = .ok (.iastore, 1) := by decide +kernel
theorem dX6_begins_23 : decode cX6_begins 23 = .ok (.iinc 2 1, 3) := by decide +kernel
theorem dX6_begins_26 : decode cX6_begins 26 = .ok (.goto (-24), 3) := by decide +kernel
theorem dX6_begins_29 : decode cX6_begins 29 = .ok (.aload_n 0, 1) := by decide +kernel
theorem dX6_begins_30 : decode cX6_begins 30 = .ok (.bipush 20, 2) := by decide +kernel
theorem dX6_begins_32 : decode cX6_begins 32 = .ok (.iload_n 1, 1) := by decide +kernel
theorem dX6_begins_33 : decode cX6_begins 33 = .ok (.iastore, 1) := by decide +kernel
theorem dX6_begins_34 : decode cX6_begins 34 = .ok (.return_, 1) := by decide +kernel
theorem dX6_bad_0 : decode cX6_bad 0 = .ok (.aload_n 0, 1) := by decide +kernel
theorem dX6_bad_1 : decode cX6_bad 1 = .ok (.dup, 1) := by decide +kernel
theorem dX6_bad_2 : decode cX6_bad 2 = .ok (.getfield 43, 3) := by decide +kernel
theorem dX6_bad_5 : decode cX6_bad 5 = .ok (.iconst 1, 1) := by decide +kernel
theorem dX6_bad_6 : decode cX6_bad 6 = .ok (.iadd, 1) := by decide +kernel
theorem dX6_bad_7 : decode cX6_bad 7 = .ok (.putfield 43, 3) := by decide +kernel
theorem dX6_bad_10 : decode cX6_bad 10 = .ok (.bipush (-2), 2) := by decide +kernel
theorem dX6_bad_12 : decode cX6_bad 12 = .ok (.ireturn, 1) := by decide +kernel
theorem dX6_worse_0 : decode cX6_worse 0 = .ok (.aload_n 0, 1) := by decide +kernel
theorem dX6_worse_1 : decode cX6_worse 1 = .ok (.dup, 1) := by decide +kernel
theorem dX6_worse_2 : decode cX6_worse 2 = .ok (.getfield 43, 3) := by decide +kernel
theorem dX6_worse_5 : decode cX6_worse 5 = .ok (.iconst 1, 1) := by decide +kernel
theorem dX6_worse_6 : decode cX6_worse 6 = .ok (.iadd, 1) := by decide +kernel
theorem dX6_worse_7 : decode cX6_worse 7 = .ok (.putfield 43, 3) := by decide +kernel
theorem dX6_worse_10 : decode cX6_worse 10 = .ok (.bipush (-10), 2) := by decide +kernel
theorem dX6_worse_12 : decode cX6_worse 12 = .ok (.ireturn, 1) := by decide +kernel
theorem dX6_no_0 : decode cX6_no 0 = .ok (.aload_n 0, 1) := by decide +kernel
theorem dX6_no_1 : decode cX6_no 1 = .ok (.dup, 1) := by decide +kernel
theorem dX6_no_2 : decode cX6_no 2 = .ok (.getfield 47, 3) := by decide +kernel
theorem dX6_no_5 : decode cX6_no 5 = .ok (.iconst 1, 1) := by decide +kernel
theorem dX6_no_6 : decode cX6_no 6 = .ok (.iadd, 1) := by decide +kernel
theorem dX6_no_7 : decode cX6_no 7 = .ok (.putfield 47, 3) := by decide +kernel
theorem dX6_no_10 : decode cX6_no 10 = .ok (.bipush (-3), 2) := by decide +kernel
theorem dX6_no_12 : decode cX6_no 12 = .ok (.ireturn, 1) := by decide +kernel
theorem dX6_full_0 : decode cX6_full 0 = .ok (.aload_n 0, 1) := by decide +kernel
theorem dX6_full_1 : decode cX6_full 1 = .ok (.dup, 1) := by decide +kernel
theorem dX6_full_2 : decode cX6_full 2 = .ok (.getfield 50, 3) := by decide +kernel
theorem dX6_full_5 : decode cX6_full 5 = .ok (.iconst 1, 1) := by decide +kernel
theorem dX6_full_6 : decode cX6_full 6 = .ok (.iadd, 1) := by decide +kernel
theorem dX6_full_7 : decode cX6_full 7 = .ok (.putfield 50, 3) := by decide +kernel
theorem dX6_full_10 : decode cX6_full 10 = .ok (.bipush (-4), 2) := by decide +kernel
theorem dX6_full_12 : decode cX6_full 12 = .ok (.ireturn, 1) := by decide +kernel
theorem dX6_isSeat_0 : decode cX6_isSeat 0 = .ok (.iload_n 0, 1) := by decide +kernel
theorem dX6_isSeat_1 : decode cX6_isSeat 1 = .ok (.i2l, 1) := by decide +kernel
theorem dX6_isSeat_2 : decode cX6_isSeat 2 = .ok (.lconst 0, 1) := by decide +kernel
theorem dX6_isSeat_3 : decode cX6_isSeat 3 = .ok (.ldc2_w 53, 3) := by decide +kernel
theorem dX6_isSeat_6 : decode cX6_isSeat 6 = .ok (.invokestatic 55, 3) := by decide +kernel
theorem dX6_isSeat_9 : decode cX6_isSeat 9 = .ok (.ireturn, 1) := by decide +kernel
theorem dX6_isChild_0 : decode cX6_isChild 0 = .ok (.iload_n 1, 1) := by decide +kernel
theorem dX6_isChild_1 : decode cX6_isChild 1 = .ok (.i2l, 1) := by decide +kernel
theorem dX6_isChild_2 : decode cX6_isChild 2 = .ok (.lconst 0, 1) := by decide +kernel
theorem dX6_isChild_3 : decode cX6_isChild 3 = .ok (.aload_n 0, 1) := by decide +kernel
theorem dX6_isChild_4 : decode cX6_isChild 4 = .ok (.getfield 7, 3) := by decide +kernel
theorem dX6_isChild_7 : decode cX6_isChild 7 = .ok (.bipush 22, 2) := by decide +kernel
theorem dX6_isChild_9 : decode cX6_isChild 9 = .ok (.iaload, 1) := by decide +kernel
theorem dX6_isChild_10 : decode cX6_isChild 10 = .ok (.iconst 1, 1) := by decide +kernel
theorem dX6_isChild_11 : decode cX6_isChild 11 = .ok (.isub, 1) := by decide +kernel
theorem dX6_isChild_12 : decode cX6_isChild 12 = .ok (.i2l, 1) := by decide +kernel
theorem dX6_isChild_13 : decode cX6_isChild 13 = .ok (.invokestatic 55, 3) := by decide +kernel
theorem dX6_isChild_16 : decode cX6_isChild 16 = .ok (.ireturn, 1) := by decide +kernel
theorem dX6_whoIs_0 : decode cX6_whoIs 0 = .ok (.iconst 0, 1) := by decide +kernel
theorem dX6_whoIs_1 : decode cX6_whoIs 1 = .ok (.istore_n 2, 1) := by decide +kernel
theorem dX6_whoIs_2 : decode cX6_whoIs 2 = .ok (.iload_n 2, 1) := by decide +kernel
theorem dX6_whoIs_3 : decode cX6_whoIs 3 = .ok (.aload_n 0, 1) := by decide +kernel
theorem dX6_whoIs_4 : decode cX6_whoIs 4 = .ok (.bipush 22, 2) := by decide +kernel
theorem dX6_whoIs_6 : decode cX6_whoIs 6 = .ok (.iaload, 1) := by decide +kernel
theorem dX6_whoIs_7 : decode cX6_whoIs 7 = .ok (.if_icmp .ge 20, 3) := by decide +kernel
theorem dX6_whoIs_10 : decode cX6_whoIs 10 = .ok (.aload_n 0, 1) := by decide +kernel
theorem dX6_whoIs_11 : decode cX6_whoIs 11 = .ok (.iconst 0, 1) := by decide +kernel
theorem dX6_whoIs_12 : decode cX6_whoIs 12 = .ok (.iload_n 2, 1) := by decide +kernel
theorem dX6_whoIs_13 : decode cX6_whoIs 13 = .ok (.iadd, 1) := by decide +kernel
theorem dX6_whoIs_14 : decode cX6_whoIs 14 = .ok (.iaload, 1) := by decide +kernel
theorem dX6_whoIs_15 : decode cX6_whoIs 15 = .ok (.iload_n 1, 1) := by decide +kernel
theorem dX6_whoIs_16 : decode cX6_whoIs 16 = .ok (.if_icmp .ne 5, 3) := by decide +kernel
theorem dX6_whoIs_19 : decode cX6_whoIs 19 = .ok (.iload_n 2, 1) := by decide +kernel
theorem dX6_whoIs_20 : decode cX6_whoIs 20 = .ok (.ireturn, 1) := by decide +kernel
theorem dX6_whoIs_21 : decode cX6_whoIs 21 = .ok (.iinc 2 1, 3) := by decide +kernel
theorem dX6_whoIs_24 : decode cX6_whoIs 24 = .ok (.goto (-22), 3) := by decide +kernel
theorem dX6_whoIs_27 : decode cX6_whoIs 27 = .ok (.iconst (-1), 1) := by decide +kernel
theorem dX6_whoIs_28 : decode cX6_whoIs 28 = .ok (.ireturn, 1) := by decide +kernel
theorem dX6_table_0 : decode cX6_table 0 = .ok (.iload_n 1, 1) := by decide +kernel
theorem dX6_table_1 : decode cX6_table 1 = .ok (.invokestatic 59, 3) := by decide +kernel
theorem dX6_table_4 : decode cX6_table 4 = .ok (.ifCond .ne 8, 3) := by decide +kernel
theorem dX6_table_7 : decode cX6_table 7 = .ok (.aload_n 0, 1) := by decide +kernel
theorem dX6_table_8 : decode cX6_table 8 = .ok (.invokevirtual 63, 3) := by decide +kernel
theorem dX6_table_11 : decode cX6_table 11 = .ok (.ireturn, 1) := by decide +kernel
theorem dX6_table_12 : decode cX6_table 12 = .ok (.aload_n 0, 1) := by decide +kernel
theorem dX6_table_13 : decode cX6_table 13 = .ok (.getfield 7, 3) := by decide +kernel
theorem dX6_table_16 : decode cX6_table 16 = .ok (.bipush 22, 2) := by decide +kernel
theorem dX6_table_18 : decode cX6_table 18 = .ok (.iaload, 1) := by decide +kernel
theorem dX6_table_19 : decode cX6_table 19 = .ok (.istore_n 2, 1) := by decide +kernel
theorem dX6_table_20 : decode cX6_table 20 = .ok (.aload_n 0, 1) := by decide +kernel
theorem dX6_table_21 : decode cX6_table 21 = .ok (.getfield 7, 3) := by decide +kernel
theorem dX6_table_24 : decode cX6_table 24 = .ok (.iload_n 1, 1) := by decide +kernel
theorem dX6_table_25 : decode cX6_table 25 = .ok (.invokestatic 39, 3) := by decide +kernel
theorem dX6_table_28 : decode cX6_table 28 = .ok (.iload_n 2, 1) := by decide +kernel
theorem dX6_table_29 : decode cX6_table 29 = .ok (.ireturn, 1) := by decide +kernel
theorem dX6_comes_0 : decode cX6_comes 0 = .ok (.aload_n 0, 1) := by decide +kernel
theorem dX6_comes_1 : decode cX6_comes 1 = .ok (.bipush 22, 2) := by decide +kernel
theorem dX6_comes_3 : decode cX6_comes 3 = .ok (.iaload, 1) := by decide +kernel
theorem dX6_comes_4 : decode cX6_comes 4 = .ok (.istore 5, 2) := by decide +kernel
theorem dX6_comes_6 : decode cX6_comes 6 = .ok (.aload_n 0, 1) := by decide +kernel
theorem dX6_comes_7 : decode cX6_comes 7 = .ok (.bipush 23, 2) := by decide +kernel
theorem dX6_comes_9 : decode cX6_comes 9 = .ok (.iload 5, 2) := by decide +kernel
theorem dX6_comes_11 : decode cX6_comes 11 = .ok (.iadd, 1) := by decide +kernel
theorem dX6_comes_12 : decode cX6_comes 12 = .ok (.iload_n 1, 1) := by decide +kernel
theorem dX6_comes_13 : decode cX6_comes 13 = .ok (.iastore, 1) := by decide +kernel
theorem dX6_comes_14 : decode cX6_comes 14 = .ok (.aload_n 0, 1) := by decide +kernel
theorem dX6_comes_15 : decode cX6_comes 15 = .ok (.iconst 0, 1) := by decide +kernel
theorem dX6_comes_16 : decode cX6_comes 16 = .ok (.iload 5, 2) := by decide +kernel
theorem dX6_comes_18 : decode cX6_comes 18 = .ok (.iadd, 1) := by decide +kernel
theorem dX6_comes_19 : decode cX6_comes 19 = .ok (.iload_n 2, 1) := by decide +kernel
theorem dX6_comes_20 : decode cX6_comes 20 = .ok (.iastore, 1) := by decide +kernel
theorem dX6_comes_21 : decode cX6_comes 21 = .ok (.aload_n 0, 1) := by decide +kernel
theorem dX6_comes_22 : decode cX6_comes 22 = .ok (.bipush 29, 2) := by decide +kernel
theorem dX6_comes_24 : decode cX6_comes 24 = .ok (.iload 5, 2) := by decide +kernel
theorem dX6_comes_26 : decode cX6_comes 26 = .ok (.iadd, 1) := by decide +kernel
theorem dX6_comes_27 : decode cX6_comes 27 = .ok (.iload_n 3, 1) := by decide +kernel
theorem dX6_comes_28 : decode cX6_comes 28 = .ok (.iastore, 1) := by decide +kernel
theorem dX6_comes_29 : decode cX6_comes 29 = .ok (.aload_n 0, 1) := by decide +kernel
theorem dX6_comes_30 : decode cX6_comes 30 = .ok (.bipush 6, 2) := by decide +kernel
theorem dX6_comes_32 : decode cX6_comes 32 = .ok (.iload 5, 2) := by decide +kernel
theorem dX6_comes_34 : decode cX6_comes 34 = .ok (.iadd, 1) := by decide +kernel
theorem dX6_comes_35 : decode cX6_comes 35 = .ok (.iload 4, 2) := by decide +kernel
theorem dX6_comes_37 : decode cX6_comes 37 = .ok (.iastore, 1) := by decide +kernel
theorem dX6_comes_38 : decode cX6_comes 38 = .ok (.aload_n 0, 1) := by decide +kernel
theorem dX6_comes_39 : decode cX6_comes 39 = .ok (.bipush 22, 2) := by decide +kernel
theorem dX6_comes_41 : decode cX6_comes 41 = .ok (.dup2, 1) := by decide +kernel
theorem dX6_comes_42 : decode cX6_comes 42 = .ok (.iaload, 1) := by decide +kernel
theorem dX6_comes_43 : decode cX6_comes 43 = .ok (.iconst 1, 1) := by decide +kernel
theorem dX6_comes_44 : decode cX6_comes 44 = .ok (.iadd, 1) := by decide +kernel
theorem dX6_comes_45 : decode cX6_comes 45 = .ok (.iastore, 1) := by decide +kernel
theorem dX6_comes_46 : decode cX6_comes 46 = .ok (.return_, 1) := by decide +kernel
theorem dX6_child_0 : decode cX6_child 0 = .ok (.iload_n 1, 1) := by decide +kernel
theorem dX6_child_1 : decode cX6_child 1 = .ok (.i2l, 1) := by decide +kernel
theorem dX6_child_2 : decode cX6_child 2 = .ok (.lconst 0, 1) := by decide +kernel
theorem dX6_child_3 : decode cX6_child 3 = .ok (.ldc2_w 67, 3) := by decide +kernel
theorem dX6_child_6 : decode cX6_child 6 = .ok (.invokestatic 55, 3) := by decide +kernel
theorem dX6_child_9 : decode cX6_child 9 = .ok (.ifCond .eq 35, 3) := by decide +kernel
theorem dX6_child_12 : decode cX6_child 12 = .ok (.iload_n 2, 1) := by decide +kernel
theorem dX6_child_13 : decode cX6_child 13 = .ok (.invokestatic 59, 3) := by decide +kernel
theorem dX6_child_16 : decode cX6_child 16 = .ok (.ifCond .eq 28, 3) := by decide +kernel
theorem dX6_child_19 : decode cX6_child 19 = .ok (.iload_n 3, 1) := by decide +kernel
theorem dX6_child_20 : decode cX6_child 20 = .ok (.i2l, 1) := by decide +kernel
theorem dX6_child_21 : decode cX6_child 21 = .ok (.lconst 0, 1) := by decide +kernel
theorem dX6_child_22 : decode cX6_child 22 = .ok (.ldc2_w 69, 3) := by decide +kernel
theorem dX6_child_25 : decode cX6_child 25 = .ok (.invokestatic 55, 3) := by decide +kernel
theorem dX6_child_28 : decode cX6_child 28 = .ok (.ifCond .eq 16, 3) := by decide +kernel
theorem dX6_child_31 : decode cX6_child 31 = .ok (.iload 4, 2) := by decide +kernel
theorem dX6_child_33 : decode cX6_child 33 = .ok (.i2l, 1) := by decide +kernel
theorem dX6_child_34 : decode cX6_child 34 = .ok (.lconst 0, 1) := by decide +kernel
theorem dX6_child_35 : decode cX6_child 35 = .ok (.ldc2_w 71, 3) := by decide +kernel
theorem dX6_child_38 : decode cX6_child 38 = .ok (.invokestatic 55, 3) := by decide +kernel
theorem dX6_child_41 : decode cX6_child 41 = .ok (.ifCond .ne 8, 3) := by decide +kernel
theorem dX6_child_44 : decode cX6_child 44 = .ok (.aload_n 0, 1) := by decide +kernel
theorem dX6_child_45 : decode cX6_child 45 = .ok (.invokevirtual 63, 3) := by decide +kernel
theorem dX6_child_48 : decode cX6_child 48 = .ok (.ireturn, 1) := by decide +kernel
theorem dX6_child_49 : decode cX6_child 49 = .ok (.aload_n 0, 1) := by decide +kernel
theorem dX6_child_50 : decode cX6_child 50 = .ok (.getfield 7, 3) := by decide +kernel
theorem dX6_child_53 : decode cX6_child 53 = .ok (.iload_n 2, 1) := by decide +kernel
theorem dX6_child_54 : decode cX6_child 54 = .ok (.invokestatic 73, 3) := by decide +kernel
theorem dX6_child_57 : decode cX6_child 57 = .ok (.iconst (-1), 1) := by decide +kernel
theorem dX6_child_58 : decode cX6_child 58 = .ok (.if_icmp .eq 8, 3) := by decide +kernel
theorem dX6_child_61 : decode cX6_child 61 = .ok (.aload_n 0, 1) := by decide +kernel
theorem dX6_child_62 : decode cX6_child 62 = .ok (.invokevirtual 77, 3) := by decide +kernel
theorem dX6_child_65 : decode cX6_child 65 = .ok (.ireturn, 1) := by decide +kernel
theorem dX6_child_66 : decode cX6_child 66 = .ok (.aload_n 0, 1) := by decide +kernel
theorem dX6_child_67 : decode cX6_child 67 = .ok (.getfield 7, 3) := by decide +kernel
theorem dX6_child_70 : decode cX6_child 70 = .ok (.bipush 22, 2) := by decide +kernel
theorem dX6_child_72 : decode cX6_child 72 = .ok (.iaload, 1) := by decide +kernel
theorem dX6_child_73 : decode cX6_child 73 = .ok (.bipush 6, 2) := by decide +kernel
theorem dX6_child_75 : decode cX6_child 75 = .ok (.if_icmp .ne 8, 3) := by decide +kernel
theorem dX6_child_78 : decode cX6_child 78 = .ok (.aload_n 0, 1) := by decide +kernel
theorem dX6_child_79 : decode cX6_child 79 = .ok (.invokevirtual 80, 3) := by decide +kernel
theorem dX6_child_82 : decode cX6_child 82 = .ok (.ireturn, 1) := by decide +kernel
theorem dX6_child_83 : decode cX6_child 83 = .ok (.aload_n 0, 1) := by decide +kernel
theorem dX6_child_84 : decode cX6_child 84 = .ok (.getfield 7, 3) := by decide +kernel
theorem dX6_child_87 : decode cX6_child 87 = .ok (.iload_n 1, 1) := by decide +kernel
theorem dX6_child_88 : decode cX6_child 88 = .ok (.iload_n 2, 1) := by decide +kernel
theorem dX6_child_89 : decode cX6_child 89 = .ok (.iload_n 3, 1) := by decide +kernel
theorem dX6_child_90 : decode cX6_child 90 = .ok (.iload 4, 2) := by decide +kernel
theorem dX6_child_92 : decode cX6_child 92 = .ok (.invokestatic 83, 3) := by decide +kernel
theorem dX6_child_95 : decode cX6_child 95 = .ok (.aload_n 0, 1) := by decide +kernel
theorem dX6_child_96 : decode cX6_child 96 = .ok (.getfield 7, 3) := by decide +kernel
theorem dX6_child_99 : decode cX6_child 99 = .ok (.bipush 78, 2) := by decide +kernel
theorem dX6_child_101 : decode cX6_child 101 = .ok (.iconst 0, 1) := by decide +kernel
theorem dX6_child_102 : decode cX6_child 102 = .ok (.iastore, 1) := by decide +kernel
theorem dX6_child_103 : decode cX6_child 103 = .ok (.aload_n 0, 1) := by decide +kernel
theorem dX6_child_104 : decode cX6_child 104 = .ok (.getfield 7, 3) := by decide +kernel
theorem dX6_child_107 : decode cX6_child 107 = .ok (.bipush 22, 2) := by decide +kernel
theorem dX6_child_109 : decode cX6_child 109 = .ok (.iaload, 1) := by decide +kernel
theorem dX6_child_110 : decode cX6_child 110 = .ok (.iconst 1, 1) := by decide +kernel
theorem dX6_child_111 : decode cX6_child 111 = .ok (.isub, 1) := by decide +kernel
theorem dX6_child_112 : decode cX6_child 112 = .ok (.ireturn, 1) := by decide +kernel
theorem dX6_type_0 : decode cX6_type 0 = .ok (.iload_n 1, 1) := by decide +kernel
theorem dX6_type_1 : decode cX6_type 1 = .ok (.i2l, 1) := by decide +kernel
theorem dX6_type_2 : decode cX6_type 2 = .ok (.lconst 0, 1) := by decide +kernel
theorem dX6_type_3 : decode cX6_type 3 = .ok (.ldc2_w 87, 3) := by decide +kernel
theorem dX6_type_6 : decode cX6_type 6 = .ok (.invokestatic 55, 3) := by decide +kernel
theorem dX6_type_9 : decode cX6_type 9 = .ok (.ifCond .ne 8, 3) := by decide +kernel
theorem dX6_type_12 : decode cX6_type 12 = .ok (.aload_n 0, 1) := by decide +kernel
theorem dX6_type_13 : decode cX6_type 13 = .ok (.invokevirtual 63, 3) := by decide +kernel
theorem dX6_type_16 : decode cX6_type 16 = .ok (.ireturn, 1) := by decide +kernel
theorem dX6_type_17 : decode cX6_type 17 = .ok (.aload_n 0, 1) := by decide +kernel
theorem dX6_type_18 : decode cX6_type 18 = .ok (.getfield 89, 3) := by decide +kernel
theorem dX6_type_21 : decode cX6_type 21 = .ok (.sipush 150, 3) := by decide +kernel
theorem dX6_type_24 : decode cX6_type 24 = .ok (.if_icmp .ne 8, 3) := by decide +kernel
theorem dX6_type_27 : decode cX6_type 27 = .ok (.aload_n 0, 1) := by decide +kernel
theorem dX6_type_28 : decode cX6_type 28 = .ok (.invokevirtual 80, 3) := by decide +kernel
theorem dX6_type_31 : decode cX6_type 31 = .ok (.ireturn, 1) := by decide +kernel
theorem dX6_type_32 : decode cX6_type 32 = .ok (.aload_n 0, 1) := by decide +kernel
theorem dX6_type_33 : decode cX6_type 33 = .ok (.getfield 26, 3) := by decide +kernel
theorem dX6_type_36 : decode cX6_type 36 = .ok (.aload_n 0, 1) := by decide +kernel
theorem dX6_type_37 : decode cX6_type 37 = .ok (.getfield 89, 3) := by decide +kernel
theorem dX6_type_40 : decode cX6_type 40 = .ok (.iload_n 1, 1) := by decide +kernel
theorem dX6_type_41 : decode cX6_type 41 = .ok (.iastore, 1) := by decide +kernel
theorem dX6_type_42 : decode cX6_type 42 = .ok (.aload_n 0, 1) := by decide +kernel
theorem dX6_type_43 : decode cX6_type 43 = .ok (.dup, 1) := by decide +kernel
theorem dX6_type_44 : decode cX6_type 44 = .ok (.getfield 89, 3) := by decide +kernel
theorem dX6_type_47 : decode cX6_type 47 = .ok (.iconst 1, 1) := by decide +kernel
theorem dX6_type_48 : decode cX6_type 48 = .ok (.iadd, 1) := by decide +kernel
theorem dX6_type_49 : decode cX6_type 49 = .ok (.putfield 89, 3) := by decide +kernel
theorem dX6_type_52 : decode cX6_type 52 = .ok (.aload_n 0, 1) := by decide +kernel
theorem dX6_type_53 : decode cX6_type 53 = .ok (.getfield 89, 3) := by decide +kernel
theorem dX6_type_56 : decode cX6_type 56 = .ok (.ireturn, 1) := by decide +kernel
theorem dX6_clear_0 : decode cX6_clear 0 = .ok (.aload_n 0, 1) := by decide +kernel
theorem dX6_clear_1 : decode cX6_clear 1 = .ok (.getfield 89, 3) := by decide +kernel
theorem dX6_clear_4 : decode cX6_clear 4 = .ok (.istore_n 1, 1) := by decide +kernel
theorem dX6_clear_5 : decode cX6_clear 5 = .ok (.aload_n 0, 1) := by decide +kernel
theorem dX6_clear_6 : decode cX6_clear 6 = .ok (.iconst 0, 1) := by decide +kernel
theorem dX6_clear_7 : decode cX6_clear 7 = .ok (.putfield 89, 3) := by decide +kernel
theorem dX6_clear_10 : decode cX6_clear 10 = .ok (.iload_n 1, 1) := by decide +kernel
theorem dX6_clear_11 : decode cX6_clear 11 = .ok (.ireturn, 1) := by decide +kernel
theorem dX6_here_0 : decode cX6_here 0 = .ok (.aload_n 0, 1) := by decide +kernel
theorem dX6_here_1 : decode cX6_here 1 = .ok (.getfield 92, 3) := by decide +kernel
theorem dX6_here_4 : decode cX6_here 4 = .ok (.aload_n 0, 1) := by decide +kernel
theorem dX6_here_5 : decode cX6_here 5 = .ok (.getfield 89, 3) := by decide +kernel
theorem dX6_here_8 : decode cX6_here 8 = .ok (.if_icmp .ge 15, 3) := by decide +kernel
theorem dX6_here_11 : decode cX6_here 11 = .ok (.aload_n 0, 1) := by decide +kernel
theorem dX6_here_12 : decode cX6_here 12 = .ok (.getfield 26, 3) := by decide +kernel
theorem dX6_here_15 : decode cX6_here 15 = .ok (.aload_n 0, 1) := by decide +kernel
theorem dX6_here_16 : decode cX6_here 16 = .ok (.getfield 92, 3) := by decide +kernel
theorem dX6_here_19 : decode cX6_here 19 = .ok (.iaload, 1) := by decide +kernel
theorem dX6_here_20 : decode cX6_here 20 = .ok (.goto 4, 3) := by decide +kernel
theorem dX6_here_23 : decode cX6_here 23 = .ok (.iconst (-1), 1) := by decide +kernel
theorem dX6_here_24 : decode cX6_here 24 = .ok (.ireturn, 1) := by decide +kernel
theorem dX6_step_0 : decode cX6_step 0 = .ok (.aload_n 0, 1) := by decide +kernel
theorem dX6_step_1 : decode cX6_step 1 = .ok (.invokevirtual 95, 3) := by decide +kernel
theorem dX6_step_4 : decode cX6_step 4 = .ok (.bipush 32, 2) := by decide +kernel
theorem dX6_step_6 : decode cX6_step 6 = .ok (.if_icmp .ne 16, 3) := by decide +kernel
theorem dX6_step_9 : decode cX6_step 9 = .ok (.aload_n 0, 1) := by decide +kernel
theorem dX6_step_10 : decode cX6_step 10 = .ok (.dup, 1) := by decide +kernel
theorem dX6_step_11 : decode cX6_step 11 = .ok (.getfield 92, 3) := by decide +kernel
theorem dX6_step_14 : decode cX6_step 14 = .ok (.iconst 1, 1) := by decide +kernel
theorem dX6_step_15 : decode cX6_step 15 = .ok (.iadd, 1) := by decide +kernel
theorem dX6_step_16 : decode cX6_step 16 = .ok (.putfield 92, 3) := by decide +kernel
theorem dX6_step_19 : decode cX6_step 19 = .ok (.goto (-19), 3) := by decide +kernel
theorem dX6_step_22 : decode cX6_step 22 = .ok (.aload_n 0, 1) := by decide +kernel
theorem dX6_step_23 : decode cX6_step 23 = .ok (.aload_n 0, 1) := by decide +kernel
theorem dX6_step_24 : decode cX6_step 24 = .ok (.getfield 92, 3) := by decide +kernel
theorem dX6_step_27 : decode cX6_step 27 = .ok (.putfield 98, 3) := by decide +kernel
theorem dX6_step_30 : decode cX6_step 30 = .ok (.aload_n 0, 1) := by decide +kernel
theorem dX6_step_31 : decode cX6_step 31 = .ok (.lconst 0, 1) := by decide +kernel
theorem dX6_step_32 : decode cX6_step 32 = .ok (.putfield 101, 3) := by decide +kernel
theorem dX6_step_35 : decode cX6_step 35 = .ok (.aload_n 0, 1) := by decide +kernel
theorem dX6_step_36 : decode cX6_step 36 = .ok (.iconst 0, 1) := by decide +kernel
theorem dX6_step_37 : decode cX6_step 37 = .ok (.putfield 104, 3) := by decide +kernel
theorem dX6_step_40 : decode cX6_step 40 = .ok (.aload_n 0, 1) := by decide +kernel
theorem dX6_step_41 : decode cX6_step 41 = .ok (.invokevirtual 95, 3) := by decide +kernel
theorem dX6_step_44 : decode cX6_step 44 = .ok (.istore_n 1, 1) := by decide +kernel
theorem dX6_step_45 : decode cX6_step 45 = .ok (.aload_n 0, 1) := by decide +kernel
theorem dX6_step_46 : decode cX6_step 46 = .ok (.iload_n 1, 1) := by decide +kernel
theorem dX6_step_47 : decode cX6_step 47 = .ok (.ifCond .ge 7, 3) := by decide +kernel
theorem dX6_step_50 : decode cX6_step 50 = .ok (.iconst 0, 1) := by decide +kernel
theorem dX6_step_51 : decode cX6_step 51 = .ok (.goto 50, 3) := by decide +kernel
theorem dX6_step_54 : decode cX6_step 54 = .ok (.iload_n 1, 1) := by decide +kernel
theorem dX6_step_55 : decode cX6_step 55 = .ok (.i2l, 1) := by decide +kernel
theorem dX6_step_56 : decode cX6_step 56 = .ok (.ldc2_w 107, 3) := by decide +kernel
theorem dX6_step_59 : decode cX6_step 59 = .ok (.ldc2_w 109, 3) := by decide +kernel
theorem dX6_step_62 : decode cX6_step 62 = .ok (.invokestatic 55, 3) := by decide +kernel
theorem dX6_step_65 : decode cX6_step 65 = .ok (.ifCond .eq 7, 3) := by decide +kernel
theorem dX6_step_68 : decode cX6_step 68 = .ok (.iconst 1, 1) := by decide +kernel
theorem dX6_step_69 : decode cX6_step 69 = .ok (.goto 32, 3) := by decide +kernel
theorem dX6_step_72 : decode cX6_step 72 = .ok (.iload_n 1, 1) := by decide +kernel
theorem dX6_step_73 : decode cX6_step 73 = .ok (.i2l, 1) := by decide +kernel
theorem dX6_step_74 : decode cX6_step 74 = .ok (.ldc2_w 111, 3) := by decide +kernel
theorem dX6_step_77 : decode cX6_step 77 = .ok (.ldc2_w 113, 3) := by decide +kernel
theorem dX6_step_80 : decode cX6_step 80 = .ok (.invokestatic 55, 3) := by decide +kernel
theorem dX6_step_83 : decode cX6_step 83 = .ok (.ifCond .eq 7, 3) := by decide +kernel
theorem dX6_step_86 : decode cX6_step 86 = .ok (.iconst 2, 1) := by decide +kernel
theorem dX6_step_87 : decode cX6_step 87 = .ok (.goto 14, 3) := by decide +kernel
theorem dX6_step_90 : decode cX6_step 90 = .ok (.iload_n 1, 1) := by decide +kernel
theorem dX6_step_91 : decode cX6_step 91 = .ok (.bipush 59, 2) := by decide +kernel
theorem dX6_step_93 : decode cX6_step 93 = .ok (.if_icmp .ne 7, 3) := by decide +kernel
theorem dX6_step_96 : decode cX6_step 96 = .ok (.iconst 3, 1) := by decide +kernel
theorem dX6_step_97 : decode cX6_step 97 = .ok (.goto 4, 3) := by decide +kernel
theorem dX6_step_100 : decode cX6_step 100 = .ok (.iconst 4, 1) := by decide +kernel
theorem dX6_step_101 : decode cX6_step 101 = .ok (.putfield 115, 3) := by decide +kernel
theorem dX6_step_104 : decode cX6_step 104 = .ok (.aload_n 0, 1) := by decide +kernel
theorem dX6_step_105 : decode cX6_step 105 = .ok (.getfield 115, 3) := by decide +kernel
theorem dX6_step_108 : decode cX6_step 108 = .ok (.iconst 2, 1) := by decide +kernel
theorem dX6_step_109 : decode cX6_step 109 = .ok (.if_icmp .le 13, 3) := by decide +kernel
theorem dX6_step_112 : decode cX6_step 112 = .ok (.aload_n 0, 1) := by decide +kernel
theorem dX6_step_113 : decode cX6_step 113 = .ok (.dup, 1) := by decide +kernel
theorem dX6_step_114 : decode cX6_step 114 = .ok (.getfield 92, 3) := by decide +kernel
theorem dX6_step_117 : decode cX6_step 117 = .ok (.iconst 1, 1) := by decide +kernel
theorem dX6_step_118 : decode cX6_step 118 = .ok (.iadd, 1) := by decide +kernel
theorem dX6_step_119 : decode cX6_step 119 = .ok (.putfield 92, 3) := by decide +kernel
theorem dX6_step_122 : decode cX6_step 122 = .ok (.aload_n 0, 1) := by decide +kernel
theorem dX6_step_123 : decode cX6_step 123 = .ok (.getfield 115, 3) := by decide +kernel
theorem dX6_step_126 : decode cX6_step 126 = .ok (.iconst 1, 1) := by decide +kernel
theorem dX6_step_127 : decode cX6_step 127 = .ok (.if_icmp .ne 71, 3) := by decide +kernel
theorem dX6_step_130 : decode cX6_step 130 = .ok (.aload_n 0, 1) := by decide +kernel
theorem dX6_step_131 : decode cX6_step 131 = .ok (.invokevirtual 95, 3) := by decide +kernel
theorem dX6_step_134 : decode cX6_step 134 = .ok (.i2l, 1) := by decide +kernel
theorem dX6_step_135 : decode cX6_step 135 = .ok (.ldc2_w 107, 3) := by decide +kernel
theorem dX6_step_138 : decode cX6_step 138 = .ok (.ldc2_w 109, 3) := by decide +kernel
theorem dX6_step_141 : decode cX6_step 141 = .ok (.invokestatic 55, 3) := by decide +kernel
theorem dX6_step_144 : decode cX6_step 144 = .ok (.ifCond .eq 54, 3) := by decide +kernel
theorem dX6_step_147 : decode cX6_step 147 = .ok (.aload_n 0, 1) := by decide +kernel
theorem dX6_step_148 : decode cX6_step 148 = .ok (.aload_n 0, 1) := by decide +kernel
theorem dX6_step_149 : decode cX6_step 149 = .ok (.getfield 92, 3) := by decide +kernel
theorem dX6_step_152 : decode cX6_step 152 = .ok (.aload_n 0, 1) := by decide +kernel
theorem dX6_step_153 : decode cX6_step 153 = .ok (.getfield 98, 3) := by decide +kernel
theorem dX6_step_156 : decode cX6_step 156 = .ok (.isub, 1) := by decide +kernel
theorem dX6_step_157 : decode cX6_step 157 = .ok (.bipush 6, 2) := by decide +kernel
theorem dX6_step_159 : decode cX6_step 159 = .ok (.if_icmp .ge 20, 3) := by decide +kernel
theorem dX6_step_162 : decode cX6_step 162 = .ok (.aload_n 0, 1) := by decide +kernel
theorem dX6_step_163 : decode cX6_step 163 = .ok (.getfield 101, 3) := by decide +kernel
theorem dX6_step_166 : decode cX6_step 166 = .ok (.ldc2_w 118, 3) := by decide +kernel
theorem dX6_step_169 : decode cX6_step 169 = .ok (.lmul, 1) := by decide +kernel
theorem dX6_step_170 : decode cX6_step 170 = .ok (.aload_n 0, 1) := by decide +kernel
theorem dX6_step_171 : decode cX6_step 171 = .ok (.invokevirtual 95, 3) := by decide +kernel
theorem dX6_step_174 : decode cX6_step 174 = .ok (.i2l, 1) := by decide +kernel
theorem dX6_step_175 : decode cX6_step 175 = .ok (.ladd, 1) := by decide +kernel
theorem dX6_step_176 : decode cX6_step 176 = .ok (.goto 6, 3) := by decide +kernel
theorem dX6_step_179 : decode cX6_step 179 = .ok (.ldc2_w 120, 3) := by decide +kernel
theorem dX6_step_182 : decode cX6_step 182 = .ok (.putfield 101, 3) := by decide +kernel
theorem dX6_step_185 : decode cX6_step 185 = .ok (.aload_n 0, 1) := by decide +kernel
theorem dX6_step_186 : decode cX6_step 186 = .ok (.dup, 1) := by decide +kernel
theorem dX6_step_187 : decode cX6_step 187 = .ok (.getfield 92, 3) := by decide +kernel
theorem dX6_step_190 : decode cX6_step 190 = .ok (.iconst 1, 1) := by decide +kernel
theorem dX6_step_191 : decode cX6_step 191 = .ok (.iadd, 1) := by decide +kernel
theorem dX6_step_192 : decode cX6_step 192 = .ok (.putfield 92, 3) := by decide +kernel
theorem dX6_step_195 : decode cX6_step 195 = .ok (.goto (-73), 3) := by decide +kernel
theorem dX6_step_198 : decode cX6_step 198 = .ok (.aload_n 0, 1) := by decide +kernel

theorem dX6_helps_114 : decode cX6_helps 114 = .ok (.iload_n 1, 1) := by decide +kernel
theorem dX6_helps_115 : decode cX6_helps 115 = .ok (.istore_n 1, 1) := by decide +kernel
theorem dX6_helps_116 : decode cX6_helps 116 = .ok (.iinc 4 1, 3) := by decide +kernel
theorem dX6_helps_119 : decode cX6_helps 119 = .ok (.goto (-90), 3) := by decide +kernel
theorem dX6_helps_122 : decode cX6_helps 122 = .ok (.iinc 3 1, 3) := by decide +kernel
theorem dX6_helps_125 : decode cX6_helps 125 = .ok (.goto (-110), 3) := by decide +kernel
theorem dX6_helps_128 : decode cX6_helps 128 = .ok (.iload_n 2, 1) := by decide +kernel
theorem dX6_helps_129 : decode cX6_helps 129 = .ok (.ireturn, 1) := by decide +kernel
theorem dX6_seatsAll_0 : decode cX6_seatsAll 0 = .ok (.aload_n 0, 1) := by decide +kernel
theorem dX6_seatsAll_1 : decode cX6_seatsAll 1 = .ok (.getfield 7, 3) := by decide +kernel
theorem dX6_seatsAll_4 : decode cX6_seatsAll 4 = .ok (.bipush 22, 2) := by decide +kernel
theorem dX6_seatsAll_6 : decode cX6_seatsAll 6 = .ok (.iaload, 1) := by decide +kernel
theorem dX6_seatsAll_7 : decode cX6_seatsAll 7 = .ok (.istore_n 1, 1) := by decide +kernel
theorem dX6_seatsAll_8 : decode cX6_seatsAll 8 = .ok (.ldc 211, 2) := by decide +kernel
theorem dX6_seatsAll_10 : decode cX6_seatsAll 10 = .ok (.istore_n 2, 1) := by decide +kernel
theorem dX6_seatsAll_11 : decode cX6_seatsAll 11 = .ok (.aload_n 0, 1) := by decide +kernel
theorem dX6_seatsAll_12 : decode cX6_seatsAll 12 = .ok (.invokevirtual 205, 3) := by decide +kernel
theorem dX6_seatsAll_15 : decode cX6_seatsAll 15 = .ok (.iconst 0, 1) := by decide +kernel
theorem dX6_seatsAll_16 : decode cX6_seatsAll 16 = .ok (.istore_n 3, 1) := by decide +kernel
theorem dX6_seatsAll_17 : decode cX6_seatsAll 17 = .ok (.aload_n 0, 1) := by decide +kernel
theorem dX6_seatsAll_18 : decode cX6_seatsAll 18 = .ok (.getfield 33, 3) := by decide +kernel
theorem dX6_seatsAll_21 : decode cX6_seatsAll 21 = .ok (.iconst 0, 1) := by decide +kernel
theorem dX6_seatsAll_22 : decode cX6_seatsAll 22 = .ok (.iconst (-1), 1) := by decide +kernel
theorem dX6_seatsAll_23 : decode cX6_seatsAll 23 = .ok (.iastore, 1) := by decide +kernel
theorem dX6_seatsAll_24 : decode cX6_seatsAll 24 = .ok (.iload_n 3, 1) := by decide +kernel
theorem dX6_seatsAll_25 : decode cX6_seatsAll 25 = .ok (.ifCond .lt 151, 3) := by decide +kernel
theorem dX6_seatsAll_28 : decode cX6_seatsAll 28 = .ok (.iload_n 3, 1) := by decide +kernel
theorem dX6_seatsAll_29 : decode cX6_seatsAll 29 = .ok (.iload_n 1, 1) := by decide +kernel
theorem dX6_seatsAll_30 : decode cX6_seatsAll 30 = .ok (.if_icmp .ne 45, 3) := by decide +kernel
theorem dX6_seatsAll_33 : decode cX6_seatsAll 33 = .ok (.aload_n 0, 1) := by decide +kernel
theorem dX6_seatsAll_34 : decode cX6_seatsAll 34 = .ok (.getfield 16, 3) := by decide +kernel
theorem dX6_seatsAll_37 : decode cX6_seatsAll 37 = .ok (.invokestatic 176, 3) := by decide +kernel
theorem dX6_seatsAll_40 : decode cX6_seatsAll 40 = .ok (.invokestatic 184, 3) := by decide +kernel
theorem dX6_seatsAll_43 : decode cX6_seatsAll 43 = .ok (.istore 4, 2) := by decide +kernel
theorem dX6_seatsAll_45 : decode cX6_seatsAll 45 = .ok (.iload 4, 2) := by decide +kernel
theorem dX6_seatsAll_47 : decode cX6_seatsAll 47 = .ok (.iload_n 2, 1) := by decide +kernel
theorem dX6_seatsAll_48 : decode cX6_seatsAll 48 = .ok (.if_icmp .ge 21, 3) := by decide +kernel
theorem dX6_seatsAll_51 : decode cX6_seatsAll 51 = .ok (.iload 4, 2) := by decide +kernel
theorem dX6_seatsAll_53 : decode cX6_seatsAll 53 = .ok (.istore_n 2, 1) := by decide +kernel
theorem dX6_seatsAll_54 : decode cX6_seatsAll 54 = .ok (.aload_n 0, 1) := by decide +kernel
theorem dX6_seatsAll_55 : decode cX6_seatsAll 55 = .ok (.getfield 16, 3) := by decide +kernel
theorem dX6_seatsAll_58 : decode cX6_seatsAll 58 = .ok (.iconst 0, 1) := by decide +kernel
theorem dX6_seatsAll_59 : decode cX6_seatsAll 59 = .ok (.aload_n 0, 1) := by decide +kernel
theorem dX6_seatsAll_60 : decode cX6_seatsAll 60 = .ok (.getfield 36, 3) := by decide +kernel
theorem dX6_seatsAll_63 : decode cX6_seatsAll 63 = .ok (.iconst 0, 1) := by decide +kernel
theorem dX6_seatsAll_64 : decode cX6_seatsAll 64 = .ok (.bipush 6, 2) := by decide +kernel
theorem dX6_seatsAll_66 : decode cX6_seatsAll 66 = .ok (.invokestatic 152, 3) := by decide +kernel
theorem dX6_seatsAll_69 : decode cX6_seatsAll 69 = .ok (.iinc 3 (-1), 3) := by decide +kernel
theorem dX6_seatsAll_72 : decode cX6_seatsAll 72 = .ok (.goto (-48), 3) := by decide +kernel
theorem dX6_seatsAll_75 : decode cX6_seatsAll 75 = .ok (.aload_n 0, 1) := by decide +kernel
theorem dX6_seatsAll_76 : decode cX6_seatsAll 76 = .ok (.getfield 33, 3) := by decide +kernel
theorem dX6_seatsAll_79 : decode cX6_seatsAll 79 = .ok (.iload_n 3, 1) := by decide +kernel
theorem dX6_seatsAll_80 : decode cX6_seatsAll 80 = .ok (.dup2, 1) := by decide +kernel
theorem dX6_seatsAll_81 : decode cX6_seatsAll 81 = .ok (.iaload, 1) := by decide +kernel
theorem dX6_seatsAll_82 : decode cX6_seatsAll 82 = .ok (.iconst 1, 1) := by decide +kernel
theorem dX6_seatsAll_83 : decode cX6_seatsAll 83 = .ok (.iadd, 1) := by decide +kernel
theorem dX6_seatsAll_84 : decode cX6_seatsAll 84 = .ok (.iastore, 1) := by decide +kernel
theorem dX6_seatsAll_85 : decode cX6_seatsAll 85 = .ok (.iload_n 3, 1) := by decide +kernel
theorem dX6_seatsAll_86 : decode cX6_seatsAll 86 = .ok (.istore 4, 2) := by decide +kernel
theorem dX6_seatsAll_88 : decode cX6_seatsAll 88 = .ok (.iload 4, 2) := by decide +kernel
theorem dX6_seatsAll_90 : decode cX6_seatsAll 90 = .ok (.iload_n 1, 1) := by decide +kernel
theorem dX6_seatsAll_91 : decode cX6_seatsAll 91 = .ok (.if_icmp .ge 19, 3) := by decide +kernel
theorem dX6_seatsAll_94 : decode cX6_seatsAll 94 = .ok (.aload_n 0, 1) := by decide +kernel
theorem dX6_seatsAll_95 : decode cX6_seatsAll 95 = .ok (.getfield 16, 3) := by decide +kernel
theorem dX6_seatsAll_98 : decode cX6_seatsAll 98 = .ok (.iconst 0, 1) := by decide +kernel
theorem dX6_seatsAll_99 : decode cX6_seatsAll 99 = .ok (.iload 4, 2) := by decide +kernel
theorem dX6_seatsAll_101 : decode cX6_seatsAll 101 = .ok (.iadd, 1) := by decide +kernel
theorem dX6_seatsAll_102 : decode cX6_seatsAll 102 = .ok (.iconst (-1), 1) := by decide +kernel
theorem dX6_seatsAll_103 : decode cX6_seatsAll 103 = .ok (.iastore, 1) := by decide +kernel
theorem dX6_seatsAll_104 : decode cX6_seatsAll 104 = .ok (.iinc 4 1, 3) := by decide +kernel
theorem dX6_seatsAll_107 : decode cX6_seatsAll 107 = .ok (.goto (-19), 3) := by decide +kernel
theorem dX6_seatsAll_110 : decode cX6_seatsAll 110 = .ok (.aload_n 0, 1) := by decide +kernel
theorem dX6_seatsAll_111 : decode cX6_seatsAll 111 = .ok (.getfield 33, 3) := by decide +kernel
theorem dX6_seatsAll_114 : decode cX6_seatsAll 114 = .ok (.iload_n 3, 1) := by decide +kernel
theorem dX6_seatsAll_115 : decode cX6_seatsAll 115 = .ok (.iaload, 1) := by decide +kernel
theorem dX6_seatsAll_116 : decode cX6_seatsAll 116 = .ok (.bipush 7, 2) := by decide +kernel
theorem dX6_seatsAll_118 : decode cX6_seatsAll 118 = .ok (.if_icmp .le 9, 3) := by decide +kernel
theorem dX6_seatsAll_121 : decode cX6_seatsAll 121 = .ok (.iinc 3 (-1), 3) := by decide +kernel
theorem dX6_seatsAll_124 : decode cX6_seatsAll 124 = .ok (.goto (-100), 3) := by decide +kernel
theorem dX6_seatsAll_127 : decode cX6_seatsAll 127 = .ok (.aload_n 0, 1) := by decide +kernel
theorem dX6_seatsAll_128 : decode cX6_seatsAll 128 = .ok (.getfield 16, 3) := by decide +kernel
theorem dX6_seatsAll_131 : decode cX6_seatsAll 131 = .ok (.aload_n 0, 1) := by decide +kernel
theorem dX6_seatsAll_132 : decode cX6_seatsAll 132 = .ok (.getfield 33, 3) := by decide +kernel
theorem dX6_seatsAll_135 : decode cX6_seatsAll 135 = .ok (.iload_n 3, 1) := by decide +kernel
theorem dX6_seatsAll_136 : decode cX6_seatsAll 136 = .ok (.iaload, 1) := by decide +kernel
theorem dX6_seatsAll_137 : decode cX6_seatsAll 137 = .ok (.invokestatic 73, 3) := by decide +kernel
theorem dX6_seatsAll_140 : decode cX6_seatsAll 140 = .ok (.iconst (-1), 1) := by decide +kernel
theorem dX6_seatsAll_141 : decode cX6_seatsAll 141 = .ok (.if_icmp .ne (-117), 3) := by decide +kernel
theorem dX6_seatsAll_144 : decode cX6_seatsAll 144 = .ok (.aload_n 0, 1) := by decide +kernel
theorem dX6_seatsAll_145 : decode cX6_seatsAll 145 = .ok (.getfield 16, 3) := by decide +kernel
theorem dX6_seatsAll_148 : decode cX6_seatsAll 148 = .ok (.iconst 0, 1) := by decide +kernel
theorem dX6_seatsAll_149 : decode cX6_seatsAll 149 = .ok (.iload_n 3, 1) := by decide +kernel
theorem dX6_seatsAll_150 : decode cX6_seatsAll 150 = .ok (.iadd, 1) := by decide +kernel
theorem dX6_seatsAll_151 : decode cX6_seatsAll 151 = .ok (.aload_n 0, 1) := by decide +kernel
theorem dX6_seatsAll_152 : decode cX6_seatsAll 152 = .ok (.getfield 33, 3) := by decide +kernel
theorem dX6_seatsAll_155 : decode cX6_seatsAll 155 = .ok (.iload_n 3, 1) := by decide +kernel
theorem dX6_seatsAll_156 : decode cX6_seatsAll 156 = .ok (.iaload, 1) := by decide +kernel
theorem dX6_seatsAll_157 : decode cX6_seatsAll 157 = .ok (.iastore, 1) := by decide +kernel
theorem dX6_seatsAll_158 : decode cX6_seatsAll 158 = .ok (.iinc 3 1, 3) := by decide +kernel
theorem dX6_seatsAll_161 : decode cX6_seatsAll 161 = .ok (.iload_n 3, 1) := by decide +kernel
theorem dX6_seatsAll_162 : decode cX6_seatsAll 162 = .ok (.iload_n 1, 1) := by decide +kernel
theorem dX6_seatsAll_163 : decode cX6_seatsAll 163 = .ok (.if_icmp .ge (-139), 3) := by decide +kernel
theorem dX6_seatsAll_166 : decode cX6_seatsAll 166 = .ok (.aload_n 0, 1) := by decide +kernel
theorem dX6_seatsAll_167 : decode cX6_seatsAll 167 = .ok (.getfield 33, 3) := by decide +kernel
theorem dX6_seatsAll_170 : decode cX6_seatsAll 170 = .ok (.iload_n 3, 1) := by decide +kernel
theorem dX6_seatsAll_171 : decode cX6_seatsAll 171 = .ok (.iconst (-1), 1) := by decide +kernel
theorem dX6_seatsAll_172 : decode cX6_seatsAll 172 = .ok (.iastore, 1) := by decide +kernel
theorem dX6_seatsAll_173 : decode cX6_seatsAll 173 = .ok (.goto (-149), 3) := by decide +kernel
theorem dX6_seatsAll_176 : decode cX6_seatsAll 176 = .ok (.iload_n 2, 1) := by decide +kernel
theorem dX6_seatsAll_177 : decode cX6_seatsAll 177 = .ok (.ireturn, 1) := by decide +kernel
theorem dX6_seated_0 : decode cX6_seated 0 = .ok (.iload_n 1, 1) := by decide +kernel
theorem dX6_seated_1 : decode cX6_seated 1 = .ok (.iconst (-1), 1) := by decide +kernel
theorem dX6_seated_2 : decode cX6_seated 2 = .ok (.if_icmp .eq 16, 3) := by decide +kernel
theorem dX6_seated_5 : decode cX6_seated 5 = .ok (.aload_n 0, 1) := by decide +kernel
theorem dX6_seated_6 : decode cX6_seated 6 = .ok (.iload_n 1, 1) := by decide +kernel
theorem dX6_seated_7 : decode cX6_seated 7 = .ok (.invokevirtual 197, 3) := by decide +kernel
theorem dX6_seated_10 : decode cX6_seated 10 = .ok (.ifCond .ne 8, 3) := by decide +kernel
theorem dX6_seated_13 : decode cX6_seated 13 = .ok (.aload_n 0, 1) := by decide +kernel
theorem dX6_seated_14 : decode cX6_seated 14 = .ok (.invokevirtual 202, 3) := by decide +kernel
theorem dX6_seated_17 : decode cX6_seated 17 = .ok (.ireturn, 1) := by decide +kernel
theorem dX6_seated_18 : decode cX6_seated 18 = .ok (.aload_n 0, 1) := by decide +kernel
theorem dX6_seated_19 : decode cX6_seated 19 = .ok (.invokevirtual 212, 3) := by decide +kernel
theorem dX6_seated_22 : decode cX6_seated 22 = .ok (.istore_n 2, 1) := by decide +kernel
theorem dX6_seated_23 : decode cX6_seated 23 = .ok (.iload_n 1, 1) := by decide +kernel
theorem dX6_seated_24 : decode cX6_seated 24 = .ok (.iconst (-1), 1) := by decide +kernel
theorem dX6_seated_25 : decode cX6_seated 25 = .ok (.if_icmp .ne 7, 3) := by decide +kernel
theorem dX6_seated_28 : decode cX6_seated 28 = .ok (.iload_n 2, 1) := by decide +kernel
theorem dX6_seated_29 : decode cX6_seated 29 = .ok (.goto 9, 3) := by decide +kernel
theorem dX6_seated_32 : decode cX6_seated 32 = .ok (.aload_n 0, 1) := by decide +kernel
theorem dX6_seated_33 : decode cX6_seated 33 = .ok (.getfield 36, 3) := by decide +kernel
theorem dX6_seated_36 : decode cX6_seated 36 = .ok (.iload_n 1, 1) := by decide +kernel
theorem dX6_seated_37 : decode cX6_seated 37 = .ok (.iaload, 1) := by decide +kernel
theorem dX6_seated_38 : decode cX6_seated 38 = .ok (.ireturn, 1) := by decide +kernel
theorem dX6_words_0 : decode cX6_words 0 = .ok (.aload_n 0, 1) := by decide +kernel
theorem dX6_words_1 : decode cX6_words 1 = .ok (.iload_n 1, 1) := by decide +kernel
theorem dX6_words_2 : decode cX6_words 2 = .ok (.invokevirtual 197, 3) := by decide +kernel
theorem dX6_words_5 : decode cX6_words 5 = .ok (.ifCond .ne 8, 3) := by decide +kernel
theorem dX6_words_8 : decode cX6_words 8 = .ok (.aload_n 0, 1) := by decide +kernel
theorem dX6_words_9 : decode cX6_words 9 = .ok (.invokevirtual 63, 3) := by decide +kernel
theorem dX6_words_12 : decode cX6_words 12 = .ok (.ireturn, 1) := by decide +kernel
theorem dX6_words_13 : decode cX6_words 13 = .ok (.iconst 0, 1) := by decide +kernel
theorem dX6_words_14 : decode cX6_words 14 = .ok (.istore_n 2, 1) := by decide +kernel
theorem dX6_words_15 : decode cX6_words 15 = .ok (.iload_n 2, 1) := by decide +kernel
theorem dX6_words_16 : decode cX6_words 16 = .ok (.bipush 41, 2) := by decide +kernel
theorem dX6_words_18 : decode cX6_words 18 = .ok (.if_icmp .ge 41, 3) := by decide +kernel
theorem dX6_words_21 : decode cX6_words 21 = .ok (.aload_n 0, 1) := by decide +kernel
theorem dX6_words_22 : decode cX6_words 22 = .ok (.invokevirtual 205, 3) := by decide +kernel
theorem dX6_words_25 : decode cX6_words 25 = .ok (.aload_n 0, 1) := by decide +kernel
theorem dX6_words_26 : decode cX6_words 26 = .ok (.getfield 16, 3) := by decide +kernel
theorem dX6_words_29 : decode cX6_words 29 = .ok (.bipush 29, 2) := by decide +kernel
theorem dX6_words_31 : decode cX6_words 31 = .ok (.iload_n 1, 1) := by decide +kernel
theorem dX6_words_32 : decode cX6_words 32 = .ok (.iadd, 1) := by decide +kernel
theorem dX6_words_33 : decode cX6_words 33 = .ok (.dup2, 1) := by decide +kernel
theorem dX6_words_34 : decode cX6_words 34 = .ok (.iaload, 1) := by decide +kernel
theorem dX6_words_35 : decode cX6_words 35 = .ok (.iload_n 2, 1) := by decide +kernel
theorem dX6_words_36 : decode cX6_words 36 = .ok (.iadd, 1) := by decide +kernel
theorem dX6_words_37 : decode cX6_words 37 = .ok (.iastore, 1) := by decide +kernel
theorem dX6_words_38 : decode cX6_words 38 = .ok (.aload_n 0, 1) := by decide +kernel
theorem dX6_words_39 : decode cX6_words 39 = .ok (.getfield 16, 3) := by decide +kernel
theorem dX6_words_42 : decode cX6_words 42 = .ok (.iload_n 1, 1) := by decide +kernel
theorem dX6_words_43 : decode cX6_words 43 = .ok (.invokestatic 163, 3) := by decide +kernel
theorem dX6_words_46 : decode cX6_words 46 = .ok (.bipush 12, 2) := by decide +kernel
theorem dX6_words_48 : decode cX6_words 48 = .ok (.if_icmp .ge 5, 3) := by decide +kernel
theorem dX6_words_51 : decode cX6_words 51 = .ok (.iload_n 2, 1) := by decide +kernel
theorem dX6_words_52 : decode cX6_words 52 = .ok (.ireturn, 1) := by decide +kernel
theorem dX6_words_53 : decode cX6_words 53 = .ok (.iinc 2 1, 3) := by decide +kernel
theorem dX6_words_56 : decode cX6_words 56 = .ok (.goto (-41), 3) := by decide +kernel
theorem dX6_words_59 : decode cX6_words 59 = .ok (.iconst (-1), 1) := by decide +kernel
theorem dX6_words_60 : decode cX6_words 60 = .ok (.ireturn, 1) := by decide +kernel
theorem dX6_say_0 : decode cX6_say 0 = .ok (.iconst (-1), 1) := by decide +kernel
theorem dX6_say_1 : decode cX6_say 1 = .ok (.istore_n 1, 1) := by decide +kernel
theorem dX6_say_2 : decode cX6_say 2 = .ok (.ldc 211, 2) := by decide +kernel
theorem dX6_say_4 : decode cX6_say 4 = .ok (.istore_n 2, 1) := by decide +kernel
theorem dX6_say_5 : decode cX6_say 5 = .ok (.iconst 0, 1) := by decide +kernel
theorem dX6_say_6 : decode cX6_say 6 = .ok (.istore_n 3, 1) := by decide +kernel
theorem dX6_say_7 : decode cX6_say 7 = .ok (.iload_n 3, 1) := by decide +kernel
theorem dX6_say_8 : decode cX6_say 8 = .ok (.aload_n 0, 1) := by decide +kernel
theorem dX6_say_9 : decode cX6_say 9 = .ok (.getfield 7, 3) := by decide +kernel
theorem dX6_say_12 : decode cX6_say 12 = .ok (.bipush 22, 2) := by decide +kernel
theorem dX6_say_14 : decode cX6_say 14 = .ok (.iaload, 1) := by decide +kernel
theorem dX6_say_15 : decode cX6_say 15 = .ok (.if_icmp .ge 60, 3) := by decide +kernel
theorem dX6_say_18 : decode cX6_say 18 = .ok (.aload_n 0, 1) := by decide +kernel
theorem dX6_say_19 : decode cX6_say 19 = .ok (.invokevirtual 205, 3) := by decide +kernel
theorem dX6_say_22 : decode cX6_say 22 = .ok (.aload_n 0, 1) := by decide +kernel
theorem dX6_say_23 : decode cX6_say 23 = .ok (.getfield 16, 3) := by decide +kernel
theorem dX6_say_26 : decode cX6_say 26 = .ok (.bipush 29, 2) := by decide +kernel
theorem dX6_say_28 : decode cX6_say 28 = .ok (.iload_n 3, 1) := by decide +kernel
theorem dX6_say_29 : decode cX6_say 29 = .ok (.iadd, 1) := by decide +kernel
theorem dX6_say_30 : decode cX6_say 30 = .ok (.dup2, 1) := by decide +kernel
theorem dX6_say_31 : decode cX6_say 31 = .ok (.iaload, 1) := by decide +kernel
theorem dX6_say_32 : decode cX6_say 32 = .ok (.bipush 10, 2) := by decide +kernel
theorem dX6_say_34 : decode cX6_say 34 = .ok (.iadd, 1) := by decide +kernel
theorem dX6_say_35 : decode cX6_say 35 = .ok (.iastore, 1) := by decide +kernel
theorem dX6_say_36 : decode cX6_say 36 = .ok (.aload_n 0, 1) := by decide +kernel
theorem dX6_say_37 : decode cX6_say 37 = .ok (.bipush 20, 2) := by decide +kernel
theorem dX6_say_39 : decode cX6_say 39 = .ok (.invokevirtual 208, 3) := by decide +kernel
theorem dX6_say_42 : decode cX6_say 42 = .ok (.istore 4, 2) := by decide +kernel
theorem dX6_say_44 : decode cX6_say 44 = .ok (.iload 4, 2) := by decide +kernel
theorem dX6_say_46 : decode cX6_say 46 = .ok (.iload_n 2, 1) := by decide +kernel
theorem dX6_say_47 : decode cX6_say 47 = .ok (.if_icmp .ge 7, 3) := by decide +kernel
theorem dX6_say_50 : decode cX6_say 50 = .ok (.iload_n 3, 1) := by decide +kernel
theorem dX6_say_51 : decode cX6_say 51 = .ok (.goto 4, 3) := by decide +kernel
theorem dX6_say_54 : decode cX6_say 54 = .ok (.iload_n 1, 1) := by decide +kernel
theorem dX6_say_55 : decode cX6_say 55 = .ok (.istore_n 1, 1) := by decide +kernel
theorem dX6_say_56 : decode cX6_say 56 = .ok (.iload 4, 2) := by decide +kernel
theorem dX6_say_58 : decode cX6_say 58 = .ok (.iload_n 2, 1) := by decide +kernel
theorem dX6_say_59 : decode cX6_say 59 = .ok (.if_icmp .ge 8, 3) := by decide +kernel
theorem dX6_say_62 : decode cX6_say 62 = .ok (.iload 4, 2) := by decide +kernel
theorem dX6_say_64 : decode cX6_say 64 = .ok (.goto 4, 3) := by decide +kernel
theorem dX6_say_67 : decode cX6_say 67 = .ok (.iload_n 2, 1) := by decide +kernel
theorem dX6_say_68 : decode cX6_say 68 = .ok (.istore_n 2, 1) := by decide +kernel
theorem dX6_say_69 : decode cX6_say 69 = .ok (.iinc 3 1, 3) := by decide +kernel
theorem dX6_say_72 : decode cX6_say 72 = .ok (.goto (-65), 3) := by decide +kernel
theorem dX6_say_75 : decode cX6_say 75 = .ok (.iload_n 1, 1) := by decide +kernel
theorem dX6_say_76 : decode cX6_say 76 = .ok (.ireturn, 1) := by decide +kernel
theorem dX6_note_0 : decode cX6_note 0 = .ok (.aload_n 0, 1) := by decide +kernel
theorem dX6_note_1 : decode cX6_note 1 = .ok (.iload_n 1, 1) := by decide +kernel
theorem dX6_note_2 : decode cX6_note 2 = .ok (.invokevirtual 197, 3) := by decide +kernel
theorem dX6_note_5 : decode cX6_note 5 = .ok (.ifCond .eq 79, 3) := by decide +kernel
theorem dX6_note_8 : decode cX6_note 8 = .ok (.iload_n 2, 1) := by decide +kernel
theorem dX6_note_9 : decode cX6_note 9 = .ok (.i2l, 1) := by decide +kernel
theorem dX6_note_10 : decode cX6_note 10 = .ok (.lconst 0, 1) := by decide +kernel
theorem dX6_note_11 : decode cX6_note 11 = .ok (.ldc2_w 71, 3) := by decide +kernel
theorem dX6_note_14 : decode cX6_note 14 = .ok (.invokestatic 55, 3) := by decide +kernel
theorem dX6_note_17 : decode cX6_note 17 = .ok (.ifCond .eq 67, 3) := by decide +kernel
theorem dX6_note_20 : decode cX6_note 20 = .ok (.iload_n 3, 1) := by decide +kernel
theorem dX6_note_21 : decode cX6_note 21 = .ok (.i2l, 1) := by decide +kernel
theorem dX6_note_22 : decode cX6_note 22 = .ok (.lconst 0, 1) := by decide +kernel
theorem dX6_note_23 : decode cX6_note 23 = .ok (.ldc2_w 200, 3) := by decide +kernel
theorem dX6_note_26 : decode cX6_note 26 = .ok (.invokestatic 55, 3) := by decide +kernel
theorem dX6_note_29 : decode cX6_note 29 = .ok (.ifCond .eq 55, 3) := by decide +kernel
theorem dX6_note_32 : decode cX6_note 32 = .ok (.iload 4, 2) := by decide +kernel
theorem dX6_note_34 : decode cX6_note 34 = .ok (.i2l, 1) := by decide +kernel
theorem dX6_note_35 : decode cX6_note 35 = .ok (.lconst 0, 1) := by decide +kernel
theorem dX6_note_36 : decode cX6_note 36 = .ok (.ldc2_w 69, 3) := by decide +kernel
theorem dX6_note_39 : decode cX6_note 39 = .ok (.invokestatic 55, 3) := by decide +kernel
theorem dX6_note_42 : decode cX6_note 42 = .ok (.ifCond .eq 42, 3) := by decide +kernel
theorem dX6_note_45 : decode cX6_note 45 = .ok (.iload 5, 2) := by decide +kernel
theorem dX6_note_47 : decode cX6_note 47 = .ok (.i2l, 1) := by decide +kernel
theorem dX6_note_48 : decode cX6_note 48 = .ok (.lconst 0, 1) := by decide +kernel
theorem dX6_note_49 : decode cX6_note 49 = .ok (.ldc2_w 215, 3) := by decide +kernel
theorem dX6_note_52 : decode cX6_note 52 = .ok (.invokestatic 55, 3) := by decide +kernel
theorem dX6_note_55 : decode cX6_note 55 = .ok (.ifCond .eq 29, 3) := by decide +kernel
theorem dX6_note_58 : decode cX6_note 58 = .ok (.iload 6, 2) := by decide +kernel
theorem dX6_note_60 : decode cX6_note 60 = .ok (.i2l, 1) := by decide +kernel
theorem dX6_note_61 : decode cX6_note 61 = .ok (.lconst 0, 1) := by decide +kernel
theorem dX6_note_62 : decode cX6_note 62 = .ok (.ldc2_w 217, 3) := by decide +kernel
theorem dX6_note_65 : decode cX6_note 65 = .ok (.invokestatic 55, 3) := by decide +kernel
theorem dX6_note_68 : decode cX6_note 68 = .ok (.ifCond .eq 16, 3) := by decide +kernel
theorem dX6_note_71 : decode cX6_note 71 = .ok (.iload 7, 2) := by decide +kernel
theorem dX6_note_73 : decode cX6_note 73 = .ok (.i2l, 1) := by decide +kernel
theorem dX6_note_74 : decode cX6_note 74 = .ok (.lconst 0, 1) := by decide +kernel
theorem dX6_note_75 : decode cX6_note 75 = .ok (.ldc2_w 188, 3) := by decide +kernel
theorem dX6_note_78 : decode cX6_note 78 = .ok (.invokestatic 55, 3) := by decide +kernel
theorem dX6_note_81 : decode cX6_note 81 = .ok (.ifCond .ne 8, 3) := by decide +kernel
theorem dX6_note_84 : decode cX6_note 84 = .ok (.aload_n 0, 1) := by decide +kernel
theorem dX6_note_85 : decode cX6_note 85 = .ok (.invokevirtual 63, 3) := by decide +kernel
theorem dX6_note_88 : decode cX6_note 88 = .ok (.ireturn, 1) := by decide +kernel
theorem dX6_note_89 : decode cX6_note 89 = .ok (.aload_n 0, 1) := by decide +kernel
theorem dX6_note_90 : decode cX6_note 90 = .ok (.getfield 7, 3) := by decide +kernel
theorem dX6_note_93 : decode cX6_note 93 = .ok (.bipush 35, 2) := by decide +kernel
theorem dX6_note_95 : decode cX6_note 95 = .ok (.iaload, 1) := by decide +kernel
theorem dX6_note_96 : decode cX6_note 96 = .ok (.bipush 6, 2) := by decide +kernel
theorem dX6_note_98 : decode cX6_note 98 = .ok (.if_icmp .ne 8, 3) := by decide +kernel
theorem dX6_note_101 : decode cX6_note 101 = .ok (.aload_n 0, 1) := by decide +kernel
theorem dX6_note_102 : decode cX6_note 102 = .ok (.invokevirtual 80, 3) := by decide +kernel
theorem dX6_note_105 : decode cX6_note 105 = .ok (.ireturn, 1) := by decide +kernel
theorem dX6_note_106 : decode cX6_note 106 = .ok (.bipush 36, 2) := by decide +kernel
theorem dX6_note_108 : decode cX6_note 108 = .ok (.bipush 7, 2) := by decide +kernel
theorem dX6_note_110 : decode cX6_note 110 = .ok (.aload_n 0, 1) := by decide +kernel
theorem dX6_note_111 : decode cX6_note 111 = .ok (.getfield 7, 3) := by decide +kernel
theorem dX6_note_114 : decode cX6_note 114 = .ok (.bipush 35, 2) := by decide +kernel
theorem dX6_note_116 : decode cX6_note 116 = .ok (.iaload, 1) := by decide +kernel
theorem dX6_note_117 : decode cX6_note 117 = .ok (.imul, 1) := by decide +kernel
theorem dX6_note_118 : decode cX6_note 118 = .ok (.iadd, 1) := by decide +kernel
theorem dX6_note_119 : decode cX6_note 119 = .ok (.istore 8, 2) := by decide +kernel
theorem dX6_note_121 : decode cX6_note 121 = .ok (.aload_n 0, 1) := by decide +kernel
theorem dX6_note_122 : decode cX6_note 122 = .ok (.getfield 7, 3) := by decide +kernel
theorem dX6_note_125 : decode cX6_note 125 = .ok (.iload 8, 2) := by decide +kernel
theorem dX6_note_127 : decode cX6_note 127 = .ok (.iload_n 1, 1) := by decide +kernel
theorem dX6_note_128 : decode cX6_note 128 = .ok (.iastore, 1) := by decide +kernel
theorem dX6_note_129 : decode cX6_note 129 = .ok (.aload_n 0, 1) := by decide +kernel
theorem dX6_note_130 : decode cX6_note 130 = .ok (.getfield 7, 3) := by decide +kernel
theorem dX6_note_133 : decode cX6_note 133 = .ok (.iload 8, 2) := by decide +kernel
theorem dX6_note_135 : decode cX6_note 135 = .ok (.iconst 1, 1) := by decide +kernel
theorem dX6_note_136 : decode cX6_note 136 = .ok (.iadd, 1) := by decide +kernel
theorem dX6_note_137 : decode cX6_note 137 = .ok (.iload_n 2, 1) := by decide +kernel
theorem dX6_note_138 : decode cX6_note 138 = .ok (.iastore, 1) := by decide +kernel
theorem dX6_note_139 : decode cX6_note 139 = .ok (.aload_n 0, 1) := by decide +kernel
theorem dX6_note_140 : decode cX6_note 140 = .ok (.getfield 7, 3) := by decide +kernel
theorem dX6_note_143 : decode cX6_note 143 = .ok (.iload 8, 2) := by decide +kernel
theorem dX6_note_145 : decode cX6_note 145 = .ok (.iconst 2, 1) := by decide +kernel
theorem dX6_note_146 : decode cX6_note 146 = .ok (.iadd, 1) := by decide +kernel
theorem dX6_note_147 : decode cX6_note 147 = .ok (.iload_n 3, 1) := by decide +kernel
theorem dX6_note_148 : decode cX6_note 148 = .ok (.iastore, 1) := by decide +kernel
theorem dX6_note_149 : decode cX6_note 149 = .ok (.aload_n 0, 1) := by decide +kernel
theorem dX6_note_150 : decode cX6_note 150 = .ok (.getfield 7, 3) := by decide +kernel
theorem dX6_note_153 : decode cX6_note 153 = .ok (.iload 8, 2) := by decide +kernel
theorem dX6_note_155 : decode cX6_note 155 = .ok (.iconst 3, 1) := by decide +kernel
theorem dX6_note_156 : decode cX6_note 156 = .ok (.iadd, 1) := by decide +kernel
theorem dX6_note_157 : decode cX6_note 157 = .ok (.iload 4, 2) := by decide +kernel
theorem dX6_note_159 : decode cX6_note 159 = .ok (.iastore, 1) := by decide +kernel
theorem dX6_note_160 : decode cX6_note 160 = .ok (.aload_n 0, 1) := by decide +kernel
theorem dX6_note_161 : decode cX6_note 161 = .ok (.getfield 7, 3) := by decide +kernel
theorem dX6_note_164 : decode cX6_note 164 = .ok (.iload 8, 2) := by decide +kernel
theorem dX6_note_166 : decode cX6_note 166 = .ok (.iconst 4, 1) := by decide +kernel
theorem dX6_note_167 : decode cX6_note 167 = .ok (.iadd, 1) := by decide +kernel
theorem dX6_note_168 : decode cX6_note 168 = .ok (.iload 5, 2) := by decide +kernel
theorem dX6_note_170 : decode cX6_note 170 = .ok (.iastore, 1) := by decide +kernel
theorem dX6_note_171 : decode cX6_note 171 = .ok (.aload_n 0, 1) := by decide +kernel
theorem dX6_note_172 : decode cX6_note 172 = .ok (.getfield 7, 3) := by decide +kernel
theorem dX6_note_175 : decode cX6_note 175 = .ok (.iload 8, 2) := by decide +kernel
theorem dX6_note_177 : decode cX6_note 177 = .ok (.iconst 5, 1) := by decide +kernel
theorem dX6_note_178 : decode cX6_note 178 = .ok (.iadd, 1) := by decide +kernel
theorem dX6_note_179 : decode cX6_note 179 = .ok (.iload 6, 2) := by decide +kernel
theorem dX6_note_181 : decode cX6_note 181 = .ok (.iastore, 1) := by decide +kernel
theorem dX6_note_182 : decode cX6_note 182 = .ok (.aload_n 0, 1) := by decide +kernel
theorem dX6_note_183 : decode cX6_note 183 = .ok (.getfield 7, 3) := by decide +kernel
theorem dX6_note_186 : decode cX6_note 186 = .ok (.iload 8, 2) := by decide +kernel
theorem dX6_note_188 : decode cX6_note 188 = .ok (.bipush 6, 2) := by decide +kernel
theorem dX6_note_190 : decode cX6_note 190 = .ok (.iadd, 1) := by decide +kernel
theorem dX6_note_191 : decode cX6_note 191 = .ok (.iload 7, 2) := by decide +kernel
theorem dX6_note_193 : decode cX6_note 193 = .ok (.iastore, 1) := by decide +kernel
theorem dX6_note_194 : decode cX6_note 194 = .ok (.aload_n 0, 1) := by decide +kernel
theorem dX6_note_195 : decode cX6_note 195 = .ok (.getfield 7, 3) := by decide +kernel
theorem dX6_note_198 : decode cX6_note 198 = .ok (.bipush 35, 2) := by decide +kernel
theorem dX6_note_200 : decode cX6_note 200 = .ok (.dup2, 1) := by decide +kernel
theorem dX6_note_201 : decode cX6_note 201 = .ok (.iaload, 1) := by decide +kernel
theorem dX6_note_202 : decode cX6_note 202 = .ok (.iconst 1, 1) := by decide +kernel
theorem dX6_note_203 : decode cX6_note 203 = .ok (.iadd, 1) := by decide +kernel
theorem dX6_note_204 : decode cX6_note 204 = .ok (.iastore, 1) := by decide +kernel
theorem dX6_note_205 : decode cX6_note 205 = .ok (.aload_n 0, 1) := by decide +kernel
theorem dX6_note_206 : decode cX6_note 206 = .ok (.getfield 7, 3) := by decide +kernel
theorem dX6_note_209 : decode cX6_note 209 = .ok (.bipush 35, 2) := by decide +kernel
theorem dX6_note_211 : decode cX6_note 211 = .ok (.iaload, 1) := by decide +kernel
theorem dX6_note_212 : decode cX6_note 212 = .ok (.ireturn, 1) := by decide +kernel
theorem dX6_forget_0 : decode cX6_forget 0 = .ok (.aload_n 0, 1) := by decide +kernel
theorem dX6_forget_1 : decode cX6_forget 1 = .ok (.getfield 7, 3) := by decide +kernel
theorem dX6_forget_4 : decode cX6_forget 4 = .ok (.bipush 35, 2) := by decide +kernel
theorem dX6_forget_6 : decode cX6_forget 6 = .ok (.iaload, 1) := by decide +kernel
theorem dX6_forget_7 : decode cX6_forget 7 = .ok (.istore_n 1, 1) := by decide +kernel
theorem dX6_forget_8 : decode cX6_forget 8 = .ok (.aload_n 0, 1) := by decide +kernel
theorem dX6_forget_9 : decode cX6_forget 9 = .ok (.getfield 7, 3) := by decide +kernel
theorem dX6_forget_12 : decode cX6_forget 12 = .ok (.bipush 35, 2) := by decide +kernel
theorem dX6_forget_14 : decode cX6_forget 14 = .ok (.iconst 0, 1) := by decide +kernel
theorem dX6_forget_15 : decode cX6_forget 15 = .ok (.iastore, 1) := by decide +kernel
theorem dX6_forget_16 : decode cX6_forget 16 = .ok (.iload_n 1, 1) := by decide +kernel
theorem dX6_forget_17 : decode cX6_forget 17 = .ok (.ireturn, 1) := by decide +kernel
theorem dX6_kindsOf_0 : decode cX6_kindsOf 0 = .ok (.iconst 0, 1) := by decide +kernel
theorem dX6_kindsOf_1 : decode cX6_kindsOf 1 = .ok (.istore_n 2, 1) := by decide +kernel
theorem dX6_kindsOf_2 : decode cX6_kindsOf 2 = .ok (.iconst 0, 1) := by decide +kernel
theorem dX6_kindsOf_3 : decode cX6_kindsOf 3 = .ok (.istore_n 3, 1) := by decide +kernel
theorem dX6_kindsOf_4 : decode cX6_kindsOf 4 = .ok (.iload_n 3, 1) := by decide +kernel
theorem dX6_kindsOf_5 : decode cX6_kindsOf 5 = .ok (.bipush 6, 2) := by decide +kernel
theorem dX6_kindsOf_7 : decode cX6_kindsOf 7 = .ok (.if_icmp .ge 140, 3) := by decide +kernel
theorem dX6_kindsOf_10 : decode cX6_kindsOf 10 = .ok (.iconst 1, 1) := by decide +kernel
theorem dX6_kindsOf_11 : decode cX6_kindsOf 11 = .ok (.istore 4, 2) := by decide +kernel
theorem dX6_kindsOf_13 : decode cX6_kindsOf 13 = .ok (.bipush 36, 2) := by decide +kernel
theorem dX6_kindsOf_15 : decode cX6_kindsOf 15 = .ok (.istore 5, 2) := by decide +kernel
theorem dX6_kindsOf_17 : decode cX6_kindsOf 17 = .ok (.iload 5, 2) := by decide +kernel
theorem dX6_kindsOf_19 : decode cX6_kindsOf 19 = .ok (.bipush 36, 2) := by decide +kernel
theorem dX6_kindsOf_21 : decode cX6_kindsOf 21 = .ok (.bipush 7, 2) := by decide +kernel
theorem dX6_kindsOf_23 : decode cX6_kindsOf 23 = .ok (.aload_n 0, 1) := by decide +kernel
theorem dX6_kindsOf_24 : decode cX6_kindsOf 24 = .ok (.getfield 7, 3) := by decide +kernel
theorem dX6_kindsOf_27 : decode cX6_kindsOf 27 = .ok (.bipush 35, 2) := by decide +kernel
theorem dX6_kindsOf_29 : decode cX6_kindsOf 29 = .ok (.iaload, 1) := by decide +kernel
theorem dX6_kindsOf_30 : decode cX6_kindsOf 30 = .ok (.imul, 1) := by decide +kernel
theorem dX6_kindsOf_31 : decode cX6_kindsOf 31 = .ok (.iadd, 1) := by decide +kernel
theorem dX6_kindsOf_32 : decode cX6_kindsOf 32 = .ok (.if_icmp .ge 94, 3) := by decide +kernel
theorem dX6_kindsOf_35 : decode cX6_kindsOf 35 = .ok (.iload 4, 2) := by decide +kernel
theorem dX6_kindsOf_37 : decode cX6_kindsOf 37 = .ok (.ifCond .eq 80, 3) := by decide +kernel
theorem dX6_kindsOf_40 : decode cX6_kindsOf 40 = .ok (.aload_n 0, 1) := by decide +kernel
theorem dX6_kindsOf_41 : decode cX6_kindsOf 41 = .ok (.getfield 7, 3) := by decide +kernel
theorem dX6_kindsOf_44 : decode cX6_kindsOf 44 = .ok (.iload 5, 2) := by decide +kernel
theorem dX6_kindsOf_46 : decode cX6_kindsOf 46 = .ok (.iaload, 1) := by decide +kernel
theorem dX6_kindsOf_47 : decode cX6_kindsOf 47 = .ok (.iload_n 1, 1) := by decide +kernel
theorem dX6_kindsOf_48 : decode cX6_kindsOf 48 = .ok (.if_icmp .ne 65, 3) := by decide +kernel
theorem dX6_kindsOf_51 : decode cX6_kindsOf 51 = .ok (.iload_n 3, 1) := by decide +kernel
theorem dX6_kindsOf_52 : decode cX6_kindsOf 52 = .ok (.aload_n 0, 1) := by decide +kernel
theorem dX6_kindsOf_53 : decode cX6_kindsOf 53 = .ok (.getfield 7, 3) := by decide +kernel
theorem dX6_kindsOf_56 : decode cX6_kindsOf 56 = .ok (.iload 5, 2) := by decide +kernel
theorem dX6_kindsOf_58 : decode cX6_kindsOf 58 = .ok (.iconst 1, 1) := by decide +kernel
theorem dX6_kindsOf_59 : decode cX6_kindsOf 59 = .ok (.iadd, 1) := by decide +kernel
theorem dX6_kindsOf_60 : decode cX6_kindsOf 60 = .ok (.iaload, 1) := by decide +kernel
theorem dX6_kindsOf_61 : decode cX6_kindsOf 61 = .ok (.aload_n 0, 1) := by decide +kernel
theorem dX6_kindsOf_62 : decode cX6_kindsOf 62 = .ok (.getfield 7, 3) := by decide +kernel
theorem dX6_kindsOf_65 : decode cX6_kindsOf 65 = .ok (.iload 5, 2) := by decide +kernel
theorem dX6_kindsOf_67 : decode cX6_kindsOf 67 = .ok (.iconst 2, 1) := by decide +kernel
theorem dX6_kindsOf_68 : decode cX6_kindsOf 68 = .ok (.iadd, 1) := by decide +kernel
theorem dX6_kindsOf_69 : decode cX6_kindsOf 69 = .ok (.iaload, 1) := by decide +kernel
theorem dX6_kindsOf_70 : decode cX6_kindsOf 70 = .ok (.aload_n 0, 1) := by decide +kernel
theorem dX6_kindsOf_71 : decode cX6_kindsOf 71 = .ok (.getfield 7, 3) := by decide +kernel
theorem dX6_kindsOf_74 : decode cX6_kindsOf 74 = .ok (.iload 5, 2) := by decide +kernel
theorem dX6_kindsOf_76 : decode cX6_kindsOf 76 = .ok (.iconst 3, 1) := by decide +kernel
theorem dX6_kindsOf_77 : decode cX6_kindsOf 77 = .ok (.iadd, 1) := by decide +kernel
theorem dX6_kindsOf_78 : decode cX6_kindsOf 78 = .ok (.iaload, 1) := by decide +kernel
theorem dX6_kindsOf_79 : decode cX6_kindsOf 79 = .ok (.aload_n 0, 1) := by decide +kernel
theorem dX6_kindsOf_80 : decode cX6_kindsOf 80 = .ok (.getfield 7, 3) := by decide +kernel
theorem dX6_kindsOf_83 : decode cX6_kindsOf 83 = .ok (.iload 5, 2) := by decide +kernel
theorem dX6_kindsOf_85 : decode cX6_kindsOf 85 = .ok (.iconst 4, 1) := by decide +kernel
theorem dX6_kindsOf_86 : decode cX6_kindsOf 86 = .ok (.iadd, 1) := by decide +kernel
theorem dX6_kindsOf_87 : decode cX6_kindsOf 87 = .ok (.iaload, 1) := by decide +kernel
theorem dX6_kindsOf_88 : decode cX6_kindsOf 88 = .ok (.aload_n 0, 1) := by decide +kernel
theorem dX6_kindsOf_89 : decode cX6_kindsOf 89 = .ok (.getfield 7, 3) := by decide +kernel
theorem dX6_kindsOf_92 : decode cX6_kindsOf 92 = .ok (.iload 5, 2) := by decide +kernel
theorem dX6_kindsOf_94 : decode cX6_kindsOf 94 = .ok (.iconst 5, 1) := by decide +kernel
theorem dX6_kindsOf_95 : decode cX6_kindsOf 95 = .ok (.iadd, 1) := by decide +kernel
theorem dX6_kindsOf_96 : decode cX6_kindsOf 96 = .ok (.iaload, 1) := by decide +kernel
theorem dX6_kindsOf_97 : decode cX6_kindsOf 97 = .ok (.invokestatic 159, 3) := by decide +kernel
theorem dX6_kindsOf_100 : decode cX6_kindsOf 100 = .ok (.aload_n 0, 1) := by decide +kernel
theorem dX6_kindsOf_101 : decode cX6_kindsOf 101 = .ok (.getfield 7, 3) := by decide +kernel
theorem dX6_kindsOf_104 : decode cX6_kindsOf 104 = .ok (.iload 5, 2) := by decide +kernel
theorem dX6_kindsOf_106 : decode cX6_kindsOf 106 = .ok (.bipush 6, 2) := by decide +kernel
theorem dX6_kindsOf_108 : decode cX6_kindsOf 108 = .ok (.iadd, 1) := by decide +kernel
theorem dX6_kindsOf_109 : decode cX6_kindsOf 109 = .ok (.iaload, 1) := by decide +kernel
theorem dX6_kindsOf_110 : decode cX6_kindsOf 110 = .ok (.if_icmp .ne 7, 3) := by decide +kernel
theorem dX6_kindsOf_113 : decode cX6_kindsOf 113 = .ok (.iconst 1, 1) := by decide +kernel
theorem dX6_kindsOf_114 : decode cX6_kindsOf 114 = .ok (.goto 4, 3) := by decide +kernel
theorem dX6_kindsOf_117 : decode cX6_kindsOf 117 = .ok (.iconst 0, 1) := by decide +kernel
theorem dX6_kindsOf_118 : decode cX6_kindsOf 118 = .ok (.istore 4, 2) := by decide +kernel
theorem dX6_kindsOf_120 : decode cX6_kindsOf 120 = .ok (.iinc 5 7, 3) := by decide +kernel
theorem dX6_kindsOf_123 : decode cX6_kindsOf 123 = .ok (.goto (-106), 3) := by decide +kernel
theorem dX6_kindsOf_126 : decode cX6_kindsOf 126 = .ok (.iload_n 2, 1) := by decide +kernel
theorem dX6_kindsOf_127 : decode cX6_kindsOf 127 = .ok (.iload 4, 2) := by decide +kernel
theorem dX6_kindsOf_129 : decode cX6_kindsOf 129 = .ok (.ifCond .eq 9, 3) := by decide +kernel
theorem dX6_kindsOf_132 : decode cX6_kindsOf 132 = .ok (.iconst 1, 1) := by decide +kernel
theorem dX6_kindsOf_133 : decode cX6_kindsOf 133 = .ok (.iload_n 3, 1) := by decide +kernel
theorem dX6_kindsOf_134 : decode cX6_kindsOf 134 = .ok (.ishl, 1) := by decide +kernel
theorem dX6_kindsOf_135 : decode cX6_kindsOf 135 = .ok (.goto 4, 3) := by decide +kernel
theorem dX6_kindsOf_138 : decode cX6_kindsOf 138 = .ok (.iconst 0, 1) := by decide +kernel
theorem dX6_kindsOf_139 : decode cX6_kindsOf 139 = .ok (.ior, 1) := by decide +kernel
theorem dX6_kindsOf_140 : decode cX6_kindsOf 140 = .ok (.istore_n 2, 1) := by decide +kernel
theorem dX6_kindsOf_141 : decode cX6_kindsOf 141 = .ok (.iinc 3 1, 3) := by decide +kernel
theorem dX6_kindsOf_144 : decode cX6_kindsOf 144 = .ok (.goto (-140), 3) := by decide +kernel
theorem dX6_kindsOf_147 : decode cX6_kindsOf 147 = .ok (.iload_n 2, 1) := by decide +kernel
theorem dX6_kindsOf_148 : decode cX6_kindsOf 148 = .ok (.ireturn, 1) := by decide +kernel
theorem dX6_is_0 : decode cX6_is 0 = .ok (.aload_n 0, 1) := by decide +kernel
theorem dX6_is_1 : decode cX6_is 1 = .ok (.iload_n 1, 1) := by decide +kernel
theorem dX6_is_2 : decode cX6_is 2 = .ok (.invokevirtual 197, 3) := by decide +kernel
theorem dX6_is_5 : decode cX6_is 5 = .ok (.ifCond .eq 11, 3) := by decide +kernel
theorem dX6_is_8 : decode cX6_is 8 = .ok (.aload_n 0, 1) := by decide +kernel
theorem dX6_is_9 : decode cX6_is 9 = .ok (.iload_n 1, 1) := by decide +kernel
theorem dX6_is_10 : decode cX6_is 10 = .ok (.invokevirtual 219, 3) := by decide +kernel
theorem dX6_is_13 : decode cX6_is 13 = .ok (.goto 7, 3) := by decide +kernel
theorem dX6_is_16 : decode cX6_is 16 = .ok (.aload_n 0, 1) := by decide +kernel
theorem dX6_is_17 : decode cX6_is 17 = .ok (.invokevirtual 63, 3) := by decide +kernel
theorem dX6_is_20 : decode cX6_is 20 = .ok (.ireturn, 1) := by decide +kernel
theorem dX6_alike_0 : decode cX6_alike 0 = .ok (.iconst 0, 1) := by decide +kernel
theorem dX6_alike_1 : decode cX6_alike 1 = .ok (.istore 7, 2) := by decide +kernel
theorem dX6_alike_3 : decode cX6_alike 3 = .ok (.iconst 0, 1) := by decide +kernel
theorem dX6_alike_4 : decode cX6_alike 4 = .ok (.istore 8, 2) := by decide +kernel
theorem dX6_alike_6 : decode cX6_alike 6 = .ok (.iload 8, 2) := by decide +kernel
theorem dX6_alike_8 : decode cX6_alike 8 = .ok (.bipush 6, 2) := by decide +kernel
theorem dX6_alike_10 : decode cX6_alike 10 = .ok (.if_icmp .ge 101, 3) := by decide +kernel
theorem dX6_alike_13 : decode cX6_alike 13 = .ok (.iconst 0, 1) := by decide +kernel
theorem dX6_alike_14 : decode cX6_alike 14 = .ok (.istore 9, 2) := by decide +kernel
theorem dX6_alike_16 : decode cX6_alike 16 = .ok (.iconst 0, 1) := by decide +kernel
theorem dX6_alike_17 : decode cX6_alike 17 = .ok (.istore 10, 2) := by decide +kernel
theorem dX6_alike_19 : decode cX6_alike 19 = .ok (.iload 10, 2) := by decide +kernel
theorem dX6_alike_21 : decode cX6_alike 21 = .ok (.bipush 6, 2) := by decide +kernel
theorem dX6_alike_23 : decode cX6_alike 23 = .ok (.if_icmp .ge 66, 3) := by decide +kernel
theorem dX6_alike_26 : decode cX6_alike 26 = .ok (.iload 9, 2) := by decide +kernel
theorem dX6_alike_28 : decode cX6_alike 28 = .ok (.iload_n 1, 1) := by decide +kernel
theorem dX6_alike_29 : decode cX6_alike 29 = .ok (.iload 8, 2) := by decide +kernel
theorem dX6_alike_31 : decode cX6_alike 31 = .ok (.invokestatic 180, 3) := by decide +kernel
theorem dX6_alike_34 : decode cX6_alike 34 = .ok (.ifCond .eq 45, 3) := by decide +kernel
theorem dX6_alike_37 : decode cX6_alike 37 = .ok (.iload_n 1, 1) := by decide +kernel
theorem dX6_alike_38 : decode cX6_alike 38 = .ok (.iload 10, 2) := by decide +kernel
theorem dX6_alike_40 : decode cX6_alike 40 = .ok (.invokestatic 180, 3) := by decide +kernel
theorem dX6_alike_43 : decode cX6_alike 43 = .ok (.ifCond .eq 36, 3) := by decide +kernel
theorem dX6_alike_46 : decode cX6_alike 46 = .ok (.iload 8, 2) := by decide +kernel
theorem dX6_alike_48 : decode cX6_alike 48 = .ok (.iload_n 2, 1) := by decide +kernel
theorem dX6_alike_49 : decode cX6_alike 49 = .ok (.iload_n 3, 1) := by decide +kernel
theorem dX6_alike_50 : decode cX6_alike 50 = .ok (.iload 4, 2) := by decide +kernel
theorem dX6_alike_52 : decode cX6_alike 52 = .ok (.iload 5, 2) := by decide +kernel
theorem dX6_alike_54 : decode cX6_alike 54 = .ok (.iload 6, 2) := by decide +kernel
theorem dX6_alike_56 : decode cX6_alike 56 = .ok (.invokestatic 159, 3) := by decide +kernel
theorem dX6_alike_59 : decode cX6_alike 59 = .ok (.iload 10, 2) := by decide +kernel
theorem dX6_alike_61 : decode cX6_alike 61 = .ok (.iload_n 2, 1) := by decide +kernel
theorem dX6_alike_62 : decode cX6_alike 62 = .ok (.iload_n 3, 1) := by decide +kernel
theorem dX6_alike_63 : decode cX6_alike 63 = .ok (.iload 4, 2) := by decide +kernel
theorem dX6_alike_65 : decode cX6_alike 65 = .ok (.iload 5, 2) := by decide +kernel
theorem dX6_alike_67 : decode cX6_alike 67 = .ok (.iload 6, 2) := by decide +kernel
theorem dX6_alike_69 : decode cX6_alike 69 = .ok (.invokestatic 159, 3) := by decide +kernel
theorem dX6_alike_72 : decode cX6_alike 72 = .ok (.if_icmp .ne 7, 3) := by decide +kernel
theorem dX6_alike_75 : decode cX6_alike 75 = .ok (.iconst 1, 1) := by decide +kernel
theorem dX6_alike_76 : decode cX6_alike 76 = .ok (.goto 4, 3) := by decide +kernel
theorem dX6_alike_79 : decode cX6_alike 79 = .ok (.iconst 0, 1) := by decide +kernel
theorem dX6_alike_80 : decode cX6_alike 80 = .ok (.iadd, 1) := by decide +kernel
theorem dX6_alike_81 : decode cX6_alike 81 = .ok (.istore 9, 2) := by decide +kernel
theorem dX6_alike_83 : decode cX6_alike 83 = .ok (.iinc 10 1, 3) := by decide +kernel
theorem dX6_alike_86 : decode cX6_alike 86 = .ok (.goto (-67), 3) := by decide +kernel
theorem dX6_alike_89 : decode cX6_alike 89 = .ok (.iload 9, 2) := by decide +kernel
theorem dX6_alike_91 : decode cX6_alike 91 = .ok (.iload 7, 2) := by decide +kernel
theorem dX6_alike_93 : decode cX6_alike 93 = .ok (.if_icmp .le 8, 3) := by decide +kernel
theorem dX6_alike_96 : decode cX6_alike 96 = .ok (.iload 9, 2) := by decide +kernel
theorem dX6_alike_98 : decode cX6_alike 98 = .ok (.goto 5, 3) := by decide +kernel
theorem dX6_alike_101 : decode cX6_alike 101 = .ok (.iload 7, 2) := by decide +kernel
theorem dX6_alike_103 : decode cX6_alike 103 = .ok (.istore 7, 2) := by decide +kernel
theorem dX6_alike_105 : decode cX6_alike 105 = .ok (.iinc 8 1, 3) := by decide +kernel
theorem dX6_alike_108 : decode cX6_alike 108 = .ok (.goto (-102), 3) := by decide +kernel
theorem dX6_alike_111 : decode cX6_alike 111 = .ok (.iload 7, 2) := by decide +kernel
theorem dX6_alike_113 : decode cX6_alike 113 = .ok (.ireturn, 1) := by decide +kernel
theorem dX6_look_0 : decode cX6_look 0 = .ok (.aload_n 0, 1) := by decide +kernel
theorem dX6_look_1 : decode cX6_look 1 = .ok (.iload_n 1, 1) := by decide +kernel
theorem dX6_look_2 : decode cX6_look 2 = .ok (.invokevirtual 197, 3) := by decide +kernel
theorem dX6_look_5 : decode cX6_look 5 = .ok (.ifCond .ne 8, 3) := by decide +kernel
theorem dX6_look_8 : decode cX6_look 8 = .ok (.aload_n 0, 1) := by decide +kernel
theorem dX6_look_9 : decode cX6_look 9 = .ok (.invokevirtual 63, 3) := by decide +kernel
theorem dX6_look_12 : decode cX6_look 12 = .ok (.ireturn, 1) := by decide +kernel
theorem dX6_look_13 : decode cX6_look 13 = .ok (.aload_n 0, 1) := by decide +kernel
theorem dX6_look_14 : decode cX6_look 14 = .ok (.iload_n 1, 1) := by decide +kernel
theorem dX6_look_15 : decode cX6_look 15 = .ok (.invokevirtual 219, 3) := by decide +kernel
theorem dX6_look_18 : decode cX6_look 18 = .ok (.istore_n 2, 1) := by decide +kernel
theorem dX6_look_19 : decode cX6_look 19 = .ok (.iload_n 2, 1) := by decide +kernel
theorem dX6_look_20 : decode cX6_look 20 = .ok (.ifCond .ne 5, 3) := by decide +kernel
theorem dX6_look_23 : decode cX6_look 23 = .ok (.iconst (-1), 1) := by decide +kernel
theorem dX6_look_24 : decode cX6_look 24 = .ok (.ireturn, 1) := by decide +kernel
theorem dX6_look_25 : decode cX6_look 25 = .ok (.iconst 0, 1) := by decide +kernel
theorem dX6_look_26 : decode cX6_look 26 = .ok (.istore_n 3, 1) := by decide +kernel
theorem dX6_look_27 : decode cX6_look 27 = .ok (.ldc 211, 2) := by decide +kernel
theorem dX6_look_29 : decode cX6_look 29 = .ok (.istore 4, 2) := by decide +kernel
theorem dX6_look_31 : decode cX6_look 31 = .ok (.iconst 0, 1) := by decide +kernel
theorem dX6_look_32 : decode cX6_look 32 = .ok (.istore 5, 2) := by decide +kernel
theorem dX6_look_34 : decode cX6_look 34 = .ok (.iload 5, 2) := by decide +kernel
theorem dX6_look_36 : decode cX6_look 36 = .ok (.bipush 27, 2) := by decide +kernel
theorem dX6_look_38 : decode cX6_look 38 = .ok (.if_icmp .ge 100, 3) := by decide +kernel
theorem dX6_look_41 : decode cX6_look 41 = .ok (.aload_n 0, 1) := by decide +kernel
theorem dX6_look_42 : decode cX6_look 42 = .ok (.iload_n 2, 1) := by decide +kernel
theorem dX6_look_43 : decode cX6_look 43 = .ok (.aload_n 0, 1) := by decide +kernel
theorem dX6_look_44 : decode cX6_look 44 = .ok (.getfield 7, 3) := by decide +kernel
theorem dX6_look_47 : decode cX6_look 47 = .ok (.bipush 6, 2) := by decide +kernel
theorem dX6_look_49 : decode cX6_look 49 = .ok (.iload_n 1, 1) := by decide +kernel
theorem dX6_look_50 : decode cX6_look 50 = .ok (.iadd, 1) := by decide +kernel
theorem dX6_look_51 : decode cX6_look 51 = .ok (.iaload, 1) := by decide +kernel
theorem dX6_look_52 : decode cX6_look 52 = .ok (.iload 5, 2) := by decide +kernel
theorem dX6_look_54 : decode cX6_look 54 = .ok (.iconst 3, 1) := by decide +kernel
theorem dX6_look_55 : decode cX6_look 55 = .ok (.idiv, 1) := by decide +kernel
theorem dX6_look_56 : decode cX6_look 56 = .ok (.iconst 3, 1) := by decide +kernel
theorem dX6_look_57 : decode cX6_look 57 = .ok (.irem, 1) := by decide +kernel
theorem dX6_look_58 : decode cX6_look 58 = .ok (.aload_n 0, 1) := by decide +kernel
theorem dX6_look_59 : decode cX6_look 59 = .ok (.getfield 7, 3) := by decide +kernel
theorem dX6_look_62 : decode cX6_look 62 = .ok (.bipush 29, 2) := by decide +kernel
theorem dX6_look_64 : decode cX6_look 64 = .ok (.iload_n 1, 1) := by decide +kernel
theorem dX6_look_65 : decode cX6_look 65 = .ok (.iadd, 1) := by decide +kernel
theorem dX6_look_66 : decode cX6_look 66 = .ok (.iaload, 1) := by decide +kernel
theorem dX6_look_67 : decode cX6_look 67 = .ok (.iload 5, 2) := by decide +kernel
theorem dX6_look_69 : decode cX6_look 69 = .ok (.iconst 3, 1) := by decide +kernel
theorem dX6_look_70 : decode cX6_look 70 = .ok (.irem, 1) := by decide +kernel
theorem dX6_look_71 : decode cX6_look 71 = .ok (.iload 5, 2) := by decide +kernel
theorem dX6_look_73 : decode cX6_look 73 = .ok (.bipush 9, 2) := by decide +kernel
theorem dX6_look_75 : decode cX6_look 75 = .ok (.idiv, 1) := by decide +kernel
theorem dX6_look_76 : decode cX6_look 76 = .ok (.invokevirtual 222, 3) := by decide +kernel
theorem dX6_look_79 : decode cX6_look 79 = .ok (.istore 6, 2) := by decide +kernel
theorem dX6_look_81 : decode cX6_look 81 = .ok (.iload 6, 2) := by decide +kernel
theorem dX6_look_83 : decode cX6_look 83 = .ok (.iload 4, 2) := by decide +kernel
theorem dX6_look_85 : decode cX6_look 85 = .ok (.if_icmp .ge 29, 3) := by decide +kernel
theorem dX6_look_88 : decode cX6_look 88 = .ok (.bipush 100, 2) := by decide +kernel
theorem dX6_look_90 : decode cX6_look 90 = .ok (.iload 5, 2) := by decide +kernel
theorem dX6_look_92 : decode cX6_look 92 = .ok (.bipush 9, 2) := by decide +kernel
theorem dX6_look_94 : decode cX6_look 94 = .ok (.idiv, 1) := by decide +kernel
theorem dX6_look_95 : decode cX6_look 95 = .ok (.imul, 1) := by decide +kernel
theorem dX6_look_96 : decode cX6_look 96 = .ok (.bipush 10, 2) := by decide +kernel
theorem dX6_look_98 : decode cX6_look 98 = .ok (.iload 5, 2) := by decide +kernel
theorem dX6_look_100 : decode cX6_look 100 = .ok (.iconst 3, 1) := by decide +kernel
theorem dX6_look_101 : decode cX6_look 101 = .ok (.idiv, 1) := by decide +kernel
theorem dX6_look_102 : decode cX6_look 102 = .ok (.iconst 3, 1) := by decide +kernel
theorem dX6_look_103 : decode cX6_look 103 = .ok (.irem, 1) := by decide +kernel
theorem dX6_look_104 : decode cX6_look 104 = .ok (.imul, 1) := by decide +kernel
theorem dX6_look_105 : decode cX6_look 105 = .ok (.iadd, 1) := by decide +kernel
theorem dX6_look_106 : decode cX6_look 106 = .ok (.iload 5, 2) := by decide +kernel
theorem dX6_look_108 : decode cX6_look 108 = .ok (.iconst 3, 1) := by decide +kernel
theorem dX6_look_109 : decode cX6_look 109 = .ok (.irem, 1) := by decide +kernel
theorem dX6_look_110 : decode cX6_look 110 = .ok (.iadd, 1) := by decide +kernel
theorem dX6_look_111 : decode cX6_look 111 = .ok (.goto 4, 3) := by decide +kernel
theorem dX6_look_114 : decode cX6_look 114 = .ok (.iload_n 3, 1) := by decide +kernel
theorem dX6_look_115 : decode cX6_look 115 = .ok (.istore_n 3, 1) := by decide +kernel
theorem dX6_look_116 : decode cX6_look 116 = .ok (.iload 6, 2) := by decide +kernel
theorem dX6_look_118 : decode cX6_look 118 = .ok (.iload 4, 2) := by decide +kernel
theorem dX6_look_120 : decode cX6_look 120 = .ok (.if_icmp .ge 8, 3) := by decide +kernel
theorem dX6_look_123 : decode cX6_look 123 = .ok (.iload 6, 2) := by decide +kernel
theorem dX6_look_125 : decode cX6_look 125 = .ok (.goto 5, 3) := by decide +kernel
theorem dX6_look_128 : decode cX6_look 128 = .ok (.iload 4, 2) := by decide +kernel
theorem dX6_look_130 : decode cX6_look 130 = .ok (.istore 4, 2) := by decide +kernel
theorem dX6_look_132 : decode cX6_look 132 = .ok (.iinc 5 1, 3) := by decide +kernel
theorem dX6_look_135 : decode cX6_look 135 = .ok (.goto (-101), 3) := by decide +kernel
theorem dX6_look_138 : decode cX6_look 138 = .ok (.iload_n 3, 1) := by decide +kernel
theorem dX6_look_139 : decode cX6_look 139 = .ok (.ireturn, 1) := by decide +kernel
theorem dX6_who_0 : decode cX6_who 0 = .ok (.aload_n 0, 1) := by decide +kernel
theorem dX6_who_1 : decode cX6_who 1 = .ok (.iload_n 1, 1) := by decide +kernel
theorem dX6_who_2 : decode cX6_who 2 = .ok (.invokevirtual 197, 3) := by decide +kernel
theorem dX6_who_5 : decode cX6_who 5 = .ok (.ifCond .ne 8, 3) := by decide +kernel
theorem dX6_who_8 : decode cX6_who 8 = .ok (.aload_n 0, 1) := by decide +kernel
theorem dX6_who_9 : decode cX6_who 9 = .ok (.invokevirtual 63, 3) := by decide +kernel
theorem dX6_who_12 : decode cX6_who 12 = .ok (.ireturn, 1) := by decide +kernel
theorem dX6_who_13 : decode cX6_who 13 = .ok (.iconst 0, 1) := by decide +kernel
theorem dX6_who_14 : decode cX6_who 14 = .ok (.istore_n 2, 1) := by decide +kernel
theorem dX6_who_15 : decode cX6_who 15 = .ok (.iconst 0, 1) := by decide +kernel
theorem dX6_who_16 : decode cX6_who 16 = .ok (.istore_n 3, 1) := by decide +kernel
theorem dX6_who_17 : decode cX6_who 17 = .ok (.iload_n 3, 1) := by decide +kernel
theorem dX6_who_18 : decode cX6_who 18 = .ok (.aload_n 0, 1) := by decide +kernel
theorem dX6_who_19 : decode cX6_who 19 = .ok (.getfield 7, 3) := by decide +kernel
theorem dX6_who_22 : decode cX6_who 22 = .ok (.bipush 22, 2) := by decide +kernel
theorem dX6_who_24 : decode cX6_who 24 = .ok (.iaload, 1) := by decide +kernel
theorem dX6_who_25 : decode cX6_who 25 = .ok (.if_icmp .ge 31, 3) := by decide +kernel
theorem dX6_who_28 : decode cX6_who 28 = .ok (.iload_n 2, 1) := by decide +kernel
theorem dX6_who_29 : decode cX6_who 29 = .ok (.aload_n 0, 1) := by decide +kernel
theorem dX6_who_30 : decode cX6_who 30 = .ok (.getfield 7, 3) := by decide +kernel
theorem dX6_who_33 : decode cX6_who 33 = .ok (.iload_n 3, 1) := by decide +kernel
theorem dX6_who_34 : decode cX6_who 34 = .ok (.invokestatic 170, 3) := by decide +kernel
theorem dX6_who_37 : decode cX6_who 37 = .ok (.iload_n 1, 1) := by decide +kernel
theorem dX6_who_38 : decode cX6_who 38 = .ok (.if_icmp .ne 9, 3) := by decide +kernel
theorem dX6_who_41 : decode cX6_who 41 = .ok (.iconst 1, 1) := by decide +kernel
theorem dX6_who_42 : decode cX6_who 42 = .ok (.iload_n 3, 1) := by decide +kernel
theorem dX6_who_43 : decode cX6_who 43 = .ok (.ishl, 1) := by decide +kernel
theorem dX6_who_44 : decode cX6_who 44 = .ok (.goto 4, 3) := by decide +kernel
theorem dX6_who_47 : decode cX6_who 47 = .ok (.iconst 0, 1) := by decide +kernel
theorem dX6_who_48 : decode cX6_who 48 = .ok (.ior, 1) := by decide +kernel
theorem dX6_who_49 : decode cX6_who 49 = .ok (.istore_n 2, 1) := by decide +kernel
theorem dX6_who_50 : decode cX6_who 50 = .ok (.iinc 3 1, 3) := by decide +kernel
theorem dX6_who_53 : decode cX6_who 53 = .ok (.goto (-36), 3) := by decide +kernel
theorem dX6_who_56 : decode cX6_who 56 = .ok (.iload_n 2, 1) := by decide +kernel
theorem dX6_who_57 : decode cX6_who 57 = .ok (.ireturn, 1) := by decide +kernel
theorem dX6_gets_0 : decode cX6_gets 0 = .ok (.aload_n 0, 1) := by decide +kernel
theorem dX6_gets_1 : decode cX6_gets 1 = .ok (.getfield 7, 3) := by decide +kernel
theorem dX6_gets_4 : decode cX6_gets 4 = .ok (.invokestatic 176, 3) := by decide +kernel
theorem dX6_gets_7 : decode cX6_gets 7 = .ok (.iload_n 2, 1) := by decide +kernel
theorem dX6_gets_8 : decode cX6_gets 8 = .ok (.iconst (-1), 1) := by decide +kernel
theorem dX6_gets_9 : decode cX6_gets 9 = .ok (.ixor, 1) := by decide +kernel
theorem dX6_gets_10 : decode cX6_gets 10 = .ok (.iand, 1) := by decide +kernel
theorem dX6_gets_11 : decode cX6_gets 11 = .ok (.istore_n 3, 1) := by decide +kernel
theorem dX6_gets_12 : decode cX6_gets 12 = .ok (.iload_n 2, 1) := by decide +kernel
theorem dX6_gets_13 : decode cX6_gets 13 = .ok (.iload_n 1, 1) := by decide +kernel
theorem dX6_gets_14 : decode cX6_gets 14 = .ok (.invokestatic 180, 3) := by decide +kernel
theorem dX6_gets_17 : decode cX6_gets 17 = .ok (.ifCond .eq 7, 3) := by decide +kernel
theorem dX6_gets_20 : decode cX6_gets 20 = .ok (.iconst 0, 1) := by decide +kernel
theorem dX6_gets_21 : decode cX6_gets 21 = .ok (.goto 4, 3) := by decide +kernel
theorem dX6_gets_24 : decode cX6_gets 24 = .ok (.iconst 1, 1) := by decide +kernel
theorem dX6_gets_25 : decode cX6_gets 25 = .ok (.istore 4, 2) := by decide +kernel
theorem dX6_gets_27 : decode cX6_gets 27 = .ok (.iconst 0, 1) := by decide +kernel
theorem dX6_gets_28 : decode cX6_gets 28 = .ok (.istore 5, 2) := by decide +kernel
theorem dX6_gets_30 : decode cX6_gets 30 = .ok (.iload 5, 2) := by decide +kernel
theorem dX6_gets_32 : decode cX6_gets 32 = .ok (.aload_n 0, 1) := by decide +kernel
theorem dX6_gets_33 : decode cX6_gets 33 = .ok (.getfield 7, 3) := by decide +kernel
theorem dX6_gets_36 : decode cX6_gets 36 = .ok (.bipush 22, 2) := by decide +kernel
theorem dX6_gets_38 : decode cX6_gets 38 = .ok (.iaload, 1) := by decide +kernel
theorem dX6_gets_39 : decode cX6_gets 39 = .ok (.if_icmp .ge 41, 3) := by decide +kernel
theorem dX6_gets_42 : decode cX6_gets 42 = .ok (.iload 4, 2) := by decide +kernel
theorem dX6_gets_44 : decode cX6_gets 44 = .ok (.iload_n 3, 1) := by decide +kernel
theorem dX6_gets_45 : decode cX6_gets 45 = .ok (.iload 5, 2) := by decide +kernel
theorem dX6_gets_47 : decode cX6_gets 47 = .ok (.invokestatic 180, 3) := by decide +kernel
theorem dX6_gets_50 : decode cX6_gets 50 = .ok (.ifCond .eq 20, 3) := by decide +kernel
theorem dX6_gets_53 : decode cX6_gets 53 = .ok (.aload_n 0, 1) := by decide +kernel
theorem dX6_gets_54 : decode cX6_gets 54 = .ok (.getfield 7, 3) := by decide +kernel
theorem dX6_gets_57 : decode cX6_gets 57 = .ok (.iload 5, 2) := by decide +kernel
theorem dX6_gets_59 : decode cX6_gets 59 = .ok (.invokestatic 170, 3) := by decide +kernel
theorem dX6_gets_62 : decode cX6_gets 62 = .ok (.iload_n 1, 1) := by decide +kernel
theorem dX6_gets_63 : decode cX6_gets 63 = .ok (.if_icmp .ne 7, 3) := by decide +kernel
theorem dX6_gets_66 : decode cX6_gets 66 = .ok (.iconst 2, 1) := by decide +kernel
theorem dX6_gets_67 : decode cX6_gets 67 = .ok (.goto 4, 3) := by decide +kernel
theorem dX6_gets_70 : decode cX6_gets 70 = .ok (.iconst 0, 1) := by decide +kernel
theorem dX6_gets_71 : decode cX6_gets 71 = .ok (.isub, 1) := by decide +kernel
theorem dX6_gets_72 : decode cX6_gets 72 = .ok (.istore 4, 2) := by decide +kernel
theorem dX6_gets_74 : decode cX6_gets 74 = .ok (.iinc 5 1, 3) := by decide +kernel
theorem dX6_gets_77 : decode cX6_gets 77 = .ok (.goto (-47), 3) := by decide +kernel
theorem dX6_gets_80 : decode cX6_gets 80 = .ok (.iload 4, 2) := by decide +kernel
theorem dX6_gets_82 : decode cX6_gets 82 = .ok (.ireturn, 1) := by decide +kernel
theorem dX6_rings_0 : decode cX6_rings 0 = .ok (.aload_n 0, 1) := by decide +kernel
theorem dX6_rings_1 : decode cX6_rings 1 = .ok (.iload_n 1, 1) := by decide +kernel
theorem dX6_rings_2 : decode cX6_rings 2 = .ok (.invokevirtual 197, 3) := by decide +kernel
theorem dX6_rings_5 : decode cX6_rings 5 = .ok (.ifCond .eq 16, 3) := by decide +kernel
theorem dX6_rings_8 : decode cX6_rings 8 = .ok (.aload_n 0, 1) := by decide +kernel
theorem dX6_rings_9 : decode cX6_rings 9 = .ok (.iload_n 2, 1) := by decide +kernel
theorem dX6_rings_10 : decode cX6_rings 10 = .ok (.invokevirtual 197, 3) := by decide +kernel
theorem dX6_rings_13 : decode cX6_rings 13 = .ok (.ifCond .eq 8, 3) := by decide +kernel
theorem dX6_rings_16 : decode cX6_rings 16 = .ok (.iload_n 1, 1) := by decide +kernel
theorem dX6_rings_17 : decode cX6_rings 17 = .ok (.iload_n 2, 1) := by decide +kernel
theorem dX6_rings_18 : decode cX6_rings 18 = .ok (.if_icmp .ne 8, 3) := by decide +kernel
theorem dX6_rings_21 : decode cX6_rings 21 = .ok (.aload_n 0, 1) := by decide +kernel
theorem dX6_rings_22 : decode cX6_rings 22 = .ok (.invokevirtual 63, 3) := by decide +kernel
theorem dX6_rings_25 : decode cX6_rings 25 = .ok (.ireturn, 1) := by decide +kernel
theorem dX6_rings_26 : decode cX6_rings 26 = .ok (.iconst 0, 1) := by decide +kernel
theorem dX6_rings_27 : decode cX6_rings 27 = .ok (.istore_n 3, 1) := by decide +kernel
theorem dX6_rings_28 : decode cX6_rings 28 = .ok (.iconst 0, 1) := by decide +kernel
theorem dX6_rings_29 : decode cX6_rings 29 = .ok (.istore 4, 2) := by decide +kernel
theorem dX6_rings_31 : decode cX6_rings 31 = .ok (.iload 4, 2) := by decide +kernel
theorem dX6_rings_33 : decode cX6_rings 33 = .ok (.iconst 4, 1) := by decide +kernel
theorem dX6_rings_34 : decode cX6_rings 34 = .ok (.if_icmp .ge 109, 3) := by decide +kernel
theorem dX6_rings_37 : decode cX6_rings 37 = .ok (.iload 4, 2) := by decide +kernel
theorem dX6_rings_39 : decode cX6_rings 39 = .ok (.iconst 0, 1) := by decide +kernel
theorem dX6_rings_40 : decode cX6_rings 40 = .ok (.invokestatic 180, 3) := by decide +kernel
theorem dX6_rings_43 : decode cX6_rings 43 = .ok (.ifCond .eq 7, 3) := by decide +kernel
theorem dX6_rings_46 : decode cX6_rings 46 = .ok (.iconst 0, 1) := by decide +kernel
theorem dX6_rings_47 : decode cX6_rings 47 = .ok (.goto 6, 3) := by decide +kernel
theorem dX6_rings_50 : decode cX6_rings 50 = .ok (.iconst 1, 1) := by decide +kernel
theorem dX6_rings_51 : decode cX6_rings 51 = .ok (.iload_n 1, 1) := by decide +kernel
theorem dX6_rings_52 : decode cX6_rings 52 = .ok (.ishl, 1) := by decide +kernel
theorem dX6_rings_53 : decode cX6_rings 53 = .ok (.iload 4, 2) := by decide +kernel
theorem dX6_rings_55 : decode cX6_rings 55 = .ok (.iconst 1, 1) := by decide +kernel
theorem dX6_rings_56 : decode cX6_rings 56 = .ok (.invokestatic 180, 3) := by decide +kernel
theorem dX6_rings_59 : decode cX6_rings 59 = .ok (.ifCond .eq 7, 3) := by decide +kernel
theorem dX6_rings_62 : decode cX6_rings 62 = .ok (.iconst 0, 1) := by decide +kernel
theorem dX6_rings_63 : decode cX6_rings 63 = .ok (.goto 6, 3) := by decide +kernel
theorem dX6_rings_66 : decode cX6_rings 66 = .ok (.iconst 1, 1) := by decide +kernel
theorem dX6_rings_67 : decode cX6_rings 67 = .ok (.iload_n 2, 1) := by decide +kernel
theorem dX6_rings_68 : decode cX6_rings 68 = .ok (.ishl, 1) := by decide +kernel
theorem dX6_rings_69 : decode cX6_rings 69 = .ok (.ior, 1) := by decide +kernel
theorem dX6_rings_70 : decode cX6_rings 70 = .ok (.istore 5, 2) := by decide +kernel
theorem dX6_rings_72 : decode cX6_rings 72 = .ok (.aload_n 0, 1) := by decide +kernel
theorem dX6_rings_73 : decode cX6_rings 73 = .ok (.iload_n 1, 1) := by decide +kernel
theorem dX6_rings_74 : decode cX6_rings 74 = .ok (.iload 5, 2) := by decide +kernel
theorem dX6_rings_76 : decode cX6_rings 76 = .ok (.invokevirtual 225, 3) := by decide +kernel
theorem dX6_rings_79 : decode cX6_rings 79 = .ok (.aload_n 0, 1) := by decide +kernel
theorem dX6_rings_80 : decode cX6_rings 80 = .ok (.iload_n 1, 1) := by decide +kernel
theorem dX6_rings_81 : decode cX6_rings 81 = .ok (.iload 5, 2) := by decide +kernel
theorem dX6_rings_83 : decode cX6_rings 83 = .ok (.iconst 1, 1) := by decide +kernel
theorem dX6_rings_84 : decode cX6_rings 84 = .ok (.iload_n 1, 1) := by decide +kernel
theorem dX6_rings_85 : decode cX6_rings 85 = .ok (.ishl, 1) := by decide +kernel
theorem dX6_rings_86 : decode cX6_rings 86 = .ok (.ixor, 1) := by decide +kernel
theorem dX6_rings_87 : decode cX6_rings 87 = .ok (.invokevirtual 225, 3) := by decide +kernel
theorem dX6_rings_90 : decode cX6_rings 90 = .ok (.if_icmp .lt 28, 3) := by decide +kernel
theorem dX6_rings_93 : decode cX6_rings 93 = .ok (.aload_n 0, 1) := by decide +kernel
theorem dX6_rings_94 : decode cX6_rings 94 = .ok (.iload_n 2, 1) := by decide +kernel
theorem dX6_rings_95 : decode cX6_rings 95 = .ok (.iload 5, 2) := by decide +kernel
theorem dX6_rings_97 : decode cX6_rings 97 = .ok (.invokevirtual 225, 3) := by decide +kernel
theorem dX6_rings_100 : decode cX6_rings 100 = .ok (.aload_n 0, 1) := by decide +kernel
theorem dX6_rings_101 : decode cX6_rings 101 = .ok (.iload_n 2, 1) := by decide +kernel
theorem dX6_rings_102 : decode cX6_rings 102 = .ok (.iload 5, 2) := by decide +kernel
theorem dX6_rings_104 : decode cX6_rings 104 = .ok (.iconst 1, 1) := by decide +kernel
theorem dX6_rings_105 : decode cX6_rings 105 = .ok (.iload_n 2, 1) := by decide +kernel
theorem dX6_rings_106 : decode cX6_rings 106 = .ok (.ishl, 1) := by decide +kernel
theorem dX6_rings_107 : decode cX6_rings 107 = .ok (.ixor, 1) := by decide +kernel
theorem dX6_rings_108 : decode cX6_rings 108 = .ok (.invokevirtual 225, 3) := by decide +kernel
theorem dX6_rings_111 : decode cX6_rings 111 = .ok (.if_icmp .lt 7, 3) := by decide +kernel
theorem dX6_rings_114 : decode cX6_rings 114 = .ok (.iconst 1, 1) := by decide +kernel
theorem dX6_rings_115 : decode cX6_rings 115 = .ok (.goto 4, 3) := by decide +kernel
theorem dX6_rings_118 : decode cX6_rings 118 = .ok (.iconst 0, 1) := by decide +kernel
theorem dX6_rings_119 : decode cX6_rings 119 = .ok (.istore 6, 2) := by decide +kernel
theorem dX6_rings_121 : decode cX6_rings 121 = .ok (.iload_n 3, 1) := by decide +kernel
theorem dX6_rings_122 : decode cX6_rings 122 = .ok (.iload 6, 2) := by decide +kernel
theorem dX6_rings_124 : decode cX6_rings 124 = .ok (.ifCond .eq 10, 3) := by decide +kernel
theorem dX6_rings_127 : decode cX6_rings 127 = .ok (.iconst 1, 1) := by decide +kernel
theorem dX6_rings_128 : decode cX6_rings 128 = .ok (.iload 4, 2) := by decide +kernel
theorem dX6_rings_130 : decode cX6_rings 130 = .ok (.ishl, 1) := by decide +kernel
theorem dX6_rings_131 : decode cX6_rings 131 = .ok (.goto 4, 3) := by decide +kernel
theorem dX6_rings_134 : decode cX6_rings 134 = .ok (.iconst 0, 1) := by decide +kernel
theorem dX6_rings_135 : decode cX6_rings 135 = .ok (.ior, 1) := by decide +kernel
theorem dX6_rings_136 : decode cX6_rings 136 = .ok (.istore_n 3, 1) := by decide +kernel
theorem dX6_rings_137 : decode cX6_rings 137 = .ok (.iinc 4 1, 3) := by decide +kernel
theorem dX6_rings_140 : decode cX6_rings 140 = .ok (.goto (-109), 3) := by decide +kernel
theorem dX6_rings_143 : decode cX6_rings 143 = .ok (.iload_n 3, 1) := by decide +kernel
theorem dX6_rings_144 : decode cX6_rings 144 = .ok (.ireturn, 1) := by decide +kernel
theorem dX6_eyes_0 : decode cX6_eyes 0 = .ok (.iload_n 1, 1) := by decide +kernel
theorem dX6_eyes_1 : decode cX6_eyes 1 = .ok (.i2l, 1) := by decide +kernel
theorem dX6_eyes_2 : decode cX6_eyes 2 = .ok (.lconst 0, 1) := by decide +kernel
theorem dX6_eyes_3 : decode cX6_eyes 3 = .ok (.ldc2_w 228, 3) := by decide +kernel
theorem dX6_eyes_6 : decode cX6_eyes 6 = .ok (.invokestatic 55, 3) := by decide +kernel
theorem dX6_eyes_9 : decode cX6_eyes 9 = .ok (.ifCond .ne 8, 3) := by decide +kernel
theorem dX6_eyes_12 : decode cX6_eyes 12 = .ok (.aload_n 0, 1) := by decide +kernel
theorem dX6_eyes_13 : decode cX6_eyes 13 = .ok (.invokevirtual 63, 3) := by decide +kernel
theorem dX6_eyes_16 : decode cX6_eyes 16 = .ok (.ireturn, 1) := by decide +kernel
theorem dX6_eyes_17 : decode cX6_eyes 17 = .ok (.aload_n 0, 1) := by decide +kernel
theorem dX6_eyes_18 : decode cX6_eyes 18 = .ok (.getfield 7, 3) := by decide +kernel
theorem dX6_eyes_21 : decode cX6_eyes 21 = .ok (.invokestatic 176, 3) := by decide +kernel
theorem dX6_eyes_24 : decode cX6_eyes 24 = .ok (.invokestatic 184, 3) := by decide +kernel
theorem dX6_eyes_27 : decode cX6_eyes 27 = .ok (.i2l, 1) := by decide +kernel
theorem dX6_eyes_28 : decode cX6_eyes 28 = .ok (.bipush 10, 2) := by decide +kernel
theorem dX6_eyes_30 : decode cX6_eyes 30 = .ok (.iload_n 1, 1) := by decide +kernel
theorem dX6_eyes_31 : decode cX6_eyes 31 = .ok (.isub, 1) := by decide +kernel
theorem dX6_eyes_32 : decode cX6_eyes 32 = .ok (.i2l, 1) := by decide +kernel
theorem dX6_eyes_33 : decode cX6_eyes 33 = .ok (.lmul, 1) := by decide +kernel
theorem dX6_eyes_34 : decode cX6_eyes 34 = .ok (.lstore_n 2, 1) := by decide +kernel
theorem dX6_eyes_35 : decode cX6_eyes 35 = .ok (.lload_n 2, 1) := by decide +kernel
theorem dX6_eyes_36 : decode cX6_eyes 36 = .ok (.lstore 4, 2) := by decide +kernel
theorem dX6_eyes_38 : decode cX6_eyes 38 = .ok (.ldc2_w 228, 3) := by decide +kernel
theorem dX6_eyes_41 : decode cX6_eyes 41 = .ok (.lstore 6, 2) := by decide +kernel
theorem dX6_eyes_43 : decode cX6_eyes 43 = .ok (.lload 6, 2) := by decide +kernel
theorem dX6_eyes_45 : decode cX6_eyes 45 = .ok (.lconst 0, 1) := by decide +kernel
theorem dX6_eyes_46 : decode cX6_eyes 46 = .ok (.lcmp, 1) := by decide +kernel
theorem dX6_eyes_47 : decode cX6_eyes 47 = .ok (.ifCond .eq 21, 3) := by decide +kernel
theorem dX6_eyes_50 : decode cX6_eyes 50 = .ok (.lload 4, 2) := by decide +kernel
theorem dX6_eyes_52 : decode cX6_eyes 52 = .ok (.lload 6, 2) := by decide +kernel
theorem dX6_eyes_54 : decode cX6_eyes 54 = .ok (.lrem, 1) := by decide +kernel
theorem dX6_eyes_55 : decode cX6_eyes 55 = .ok (.lstore 8, 2) := by decide +kernel
theorem dX6_eyes_57 : decode cX6_eyes 57 = .ok (.lload 6, 2) := by decide +kernel
theorem dX6_eyes_59 : decode cX6_eyes 59 = .ok (.lstore 4, 2) := by decide +kernel
theorem dX6_eyes_61 : decode cX6_eyes 61 = .ok (.lload 8, 2) := by decide +kernel
theorem dX6_eyes_63 : decode cX6_eyes 63 = .ok (.lstore 6, 2) := by decide +kernel
theorem dX6_eyes_65 : decode cX6_eyes 65 = .ok (.goto (-22), 3) := by decide +kernel
theorem dX6_eyes_68 : decode cX6_eyes 68 = .ok (.aload_n 0, 1) := by decide +kernel
theorem dX6_eyes_69 : decode cX6_eyes 69 = .ok (.lload_n 2, 1) := by decide +kernel
theorem dX6_eyes_70 : decode cX6_eyes 70 = .ok (.lload 4, 2) := by decide +kernel
theorem dX6_eyes_72 : decode cX6_eyes 72 = .ok (.ldiv, 1) := by decide +kernel
theorem dX6_eyes_73 : decode cX6_eyes 73 = .ok (.putfield 230, 3) := by decide +kernel
theorem dX6_eyes_76 : decode cX6_eyes 76 = .ok (.aload_n 0, 1) := by decide +kernel
theorem dX6_eyes_77 : decode cX6_eyes 77 = .ok (.ldc2_w 228, 3) := by decide +kernel
theorem dX6_eyes_80 : decode cX6_eyes 80 = .ok (.lload 4, 2) := by decide +kernel
theorem dX6_eyes_82 : decode cX6_eyes 82 = .ok (.ldiv, 1) := by decide +kernel
theorem dX6_eyes_83 : decode cX6_eyes 83 = .ok (.putfield 29, 3) := by decide +kernel
theorem dX6_eyes_86 : decode cX6_eyes 86 = .ok (.iconst 1, 1) := by decide +kernel
theorem dX6_eyes_87 : decode cX6_eyes 87 = .ok (.ireturn, 1) := by decide +kernel
theorem dX6_weeks_0 : decode cX6_weeks 0 = .ok (.iload_n 1, 1) := by decide +kernel
theorem dX6_weeks_1 : decode cX6_weeks 1 = .ok (.i2l, 1) := by decide +kernel
theorem dX6_weeks_2 : decode cX6_weeks 2 = .ok (.lconst 0, 1) := by decide +kernel
theorem dX6_weeks_3 : decode cX6_weeks 3 = .ok (.ldc2_w 233, 3) := by decide +kernel
theorem dX6_weeks_6 : decode cX6_weeks 6 = .ok (.invokestatic 55, 3) := by decide +kernel
theorem dX6_weeks_9 : decode cX6_weeks 9 = .ok (.ifCond .eq 15, 3) := by decide +kernel
theorem dX6_weeks_12 : decode cX6_weeks 12 = .ok (.iload_n 2, 1) := by decide +kernel
theorem dX6_weeks_13 : decode cX6_weeks 13 = .ok (.i2l, 1) := by decide +kernel
theorem dX6_weeks_14 : decode cX6_weeks 14 = .ok (.lconst 0, 1) := by decide +kernel
theorem dX6_weeks_15 : decode cX6_weeks 15 = .ok (.ldc2_w 188, 3) := by decide +kernel
theorem dX6_weeks_18 : decode cX6_weeks 18 = .ok (.invokestatic 55, 3) := by decide +kernel
theorem dX6_weeks_21 : decode cX6_weeks 21 = .ok (.ifCond .ne 8, 3) := by decide +kernel
theorem dX6_weeks_24 : decode cX6_weeks 24 = .ok (.aload_n 0, 1) := by decide +kernel
theorem dX6_weeks_25 : decode cX6_weeks 25 = .ok (.invokevirtual 63, 3) := by decide +kernel
theorem dX6_weeks_28 : decode cX6_weeks 28 = .ok (.ireturn, 1) := by decide +kernel
theorem dX6_weeks_29 : decode cX6_weeks 29 = .ok (.iload_n 1, 1) := by decide +kernel
theorem dX6_weeks_30 : decode cX6_weeks 30 = .ok (.i2l, 1) := by decide +kernel
theorem dX6_weeks_31 : decode cX6_weeks 31 = .ok (.lstore_n 3, 1) := by decide +kernel
theorem dX6_weeks_32 : decode cX6_weeks 32 = .ok (.iconst 0, 1) := by decide +kernel
theorem dX6_weeks_33 : decode cX6_weeks 33 = .ok (.istore 5, 2) := by decide +kernel
theorem dX6_weeks_35 : decode cX6_weeks 35 = .ok (.iconst 0, 1) := by decide +kernel
theorem dX6_weeks_36 : decode cX6_weeks 36 = .ok (.istore 6, 2) := by decide +kernel
theorem dX6_weeks_38 : decode cX6_weeks 38 = .ok (.iload 6, 2) := by decide +kernel
theorem dX6_weeks_40 : decode cX6_weeks 40 = .ok (.iload_n 2, 1) := by decide +kernel
theorem dX6_weeks_41 : decode cX6_weeks 41 = .ok (.if_icmp .ge 78, 3) := by decide +kernel
theorem dX6_weeks_44 : decode cX6_weeks 44 = .ok (.aload_n 0, 1) := by decide +kernel
theorem dX6_weeks_45 : decode cX6_weeks 45 = .ok (.invokevirtual 205, 3) := by decide +kernel
theorem dX6_weeks_48 : decode cX6_weeks 48 = .ok (.iconst 0, 1) := by decide +kernel
theorem dX6_weeks_49 : decode cX6_weeks 49 = .ok (.istore 7, 2) := by decide +kernel
theorem dX6_weeks_51 : decode cX6_weeks 51 = .ok (.iload 7, 2) := by decide +kernel
theorem dX6_weeks_53 : decode cX6_weeks 53 = .ok (.aload_n 0, 1) := by decide +kernel
theorem dX6_weeks_54 : decode cX6_weeks 54 = .ok (.getfield 7, 3) := by decide +kernel
theorem dX6_weeks_57 : decode cX6_weeks 57 = .ok (.bipush 22, 2) := by decide +kernel
theorem dX6_weeks_59 : decode cX6_weeks 59 = .ok (.iaload, 1) := by decide +kernel
theorem dX6_weeks_60 : decode cX6_weeks 60 = .ok (.if_icmp .ge 43, 3) := by decide +kernel
theorem dX6_weeks_63 : decode cX6_weeks 63 = .ok (.lload_n 3, 1) := by decide +kernel
theorem dX6_weeks_64 : decode cX6_weeks 64 = .ok (.ldc2_w 235, 3) := by decide +kernel
theorem dX6_weeks_67 : decode cX6_weeks 67 = .ok (.lmul, 1) := by decide +kernel
theorem dX6_weeks_68 : decode cX6_weeks 68 = .ok (.ldc2_w 237, 3) := by decide +kernel
theorem dX6_weeks_71 : decode cX6_weeks 71 = .ok (.ladd, 1) := by decide +kernel
theorem dX6_weeks_72 : decode cX6_weeks 72 = .ok (.ldc2_w 239, 3) := by decide +kernel
theorem dX6_weeks_75 : decode cX6_weeks 75 = .ok (.lrem, 1) := by decide +kernel
theorem dX6_weeks_76 : decode cX6_weeks 76 = .ok (.lstore_n 3, 1) := by decide +kernel
theorem dX6_weeks_77 : decode cX6_weeks 77 = .ok (.aload_n 0, 1) := by decide +kernel
theorem dX6_weeks_78 : decode cX6_weeks 78 = .ok (.getfield 16, 3) := by decide +kernel
theorem dX6_weeks_81 : decode cX6_weeks 81 = .ok (.bipush 6, 2) := by decide +kernel
theorem dX6_weeks_83 : decode cX6_weeks 83 = .ok (.iload 7, 2) := by decide +kernel
theorem dX6_weeks_85 : decode cX6_weeks 85 = .ok (.iadd, 1) := by decide +kernel
theorem dX6_weeks_86 : decode cX6_weeks 86 = .ok (.lload_n 3, 1) := by decide +kernel
theorem dX6_weeks_87 : decode cX6_weeks 87 = .ok (.ldc2_w 241, 3) := by decide +kernel
theorem dX6_weeks_90 : decode cX6_weeks 90 = .ok (.ldiv, 1) := by decide +kernel
theorem dX6_weeks_91 : decode cX6_weeks 91 = .ok (.ldc2_w 243, 3) := by decide +kernel
theorem dX6_weeks_94 : decode cX6_weeks 94 = .ok (.lrem, 1) := by decide +kernel
theorem dX6_weeks_95 : decode cX6_weeks 95 = .ok (.l2i, 1) := by decide +kernel
theorem dX6_weeks_96 : decode cX6_weeks 96 = .ok (.iastore, 1) := by decide +kernel
theorem dX6_weeks_97 : decode cX6_weeks 97 = .ok (.iinc 7 1, 3) := by decide +kernel
theorem dX6_weeks_100 : decode cX6_weeks 100 = .ok (.goto (-49), 3) := by decide +kernel
theorem dX6_weeks_103 : decode cX6_weeks 103 = .ok (.iload 5, 2) := by decide +kernel
theorem dX6_weeks_105 : decode cX6_weeks 105 = .ok (.aload_n 0, 1) := by decide +kernel
theorem dX6_weeks_106 : decode cX6_weeks 106 = .ok (.iconst 3, 1) := by decide +kernel
theorem dX6_weeks_107 : decode cX6_weeks 107 = .ok (.invokevirtual 208, 3) := by decide +kernel
theorem dX6_weeks_110 : decode cX6_weeks 110 = .ok (.iadd, 1) := by decide +kernel
theorem dX6_weeks_111 : decode cX6_weeks 111 = .ok (.istore 5, 2) := by decide +kernel
theorem dX6_weeks_113 : decode cX6_weeks 113 = .ok (.iinc 6 1, 3) := by decide +kernel
theorem dX6_weeks_116 : decode cX6_weeks 116 = .ok (.goto (-78), 3) := by decide +kernel
theorem dX6_weeks_119 : decode cX6_weeks 119 = .ok (.iload 5, 2) := by decide +kernel
theorem dX6_weeks_121 : decode cX6_weeks 121 = .ok (.ireturn, 1) := by decide +kernel
theorem dX6_part_0 : decode cX6_part 0 = .ok (.iload_n 1, 1) := by decide +kernel
theorem dX6_part_1 : decode cX6_part 1 = .ok (.i2l, 1) := by decide +kernel
theorem dX6_part_2 : decode cX6_part 2 = .ok (.lconst 0, 1) := by decide +kernel
theorem dX6_part_3 : decode cX6_part 3 = .ok (.lconst 1, 1) := by decide +kernel
theorem dX6_part_4 : decode cX6_part 4 = .ok (.invokestatic 55, 3) := by decide +kernel
theorem dX6_part_7 : decode cX6_part 7 = .ok (.ifCond .ne 9, 3) := by decide +kernel
theorem dX6_part_10 : decode cX6_part 10 = .ok (.aload_n 0, 1) := by decide +kernel
theorem dX6_part_11 : decode cX6_part 11 = .ok (.invokevirtual 63, 3) := by decide +kernel
theorem dX6_part_14 : decode cX6_part 14 = .ok (.i2l, 1) := by decide +kernel
theorem dX6_part_15 : decode cX6_part 15 = .ok (.lreturn, 1) := by decide +kernel
theorem dX6_part_16 : decode cX6_part 16 = .ok (.iload_n 1, 1) := by decide +kernel
theorem dX6_part_17 : decode cX6_part 17 = .ok (.ifCond .ne 10, 3) := by decide +kernel
theorem dX6_part_20 : decode cX6_part 20 = .ok (.aload_n 0, 1) := by decide +kernel
theorem dX6_part_21 : decode cX6_part 21 = .ok (.getfield 230, 3) := by decide +kernel
theorem dX6_part_24 : decode cX6_part 24 = .ok (.goto 7, 3) := by decide +kernel
theorem dX6_part_27 : decode cX6_part 27 = .ok (.aload_n 0, 1) := by decide +kernel
theorem dX6_part_28 : decode cX6_part 28 = .ok (.getfield 29, 3) := by decide +kernel
theorem dX6_part_31 : decode cX6_part 31 = .ok (.lreturn, 1) := by decide +kernel
theorem dX6_image_0 : decode cX6_image 0 = .ok (.iload_n 1, 1) := by decide +kernel
theorem dX6_image_1 : decode cX6_image 1 = .ok (.i2l, 1) := by decide +kernel
theorem dX6_image_2 : decode cX6_image 2 = .ok (.lconst 0, 1) := by decide +kernel
theorem dX6_image_3 : decode cX6_image 3 = .ok (.lconst 1, 1) := by decide +kernel
theorem dX6_image_4 : decode cX6_image 4 = .ok (.invokestatic 55, 3) := by decide +kernel
theorem dX6_image_7 : decode cX6_image 7 = .ok (.ifCond .ne 8, 3) := by decide +kernel
theorem dX6_image_10 : decode cX6_image 10 = .ok (.aload_n 0, 1) := by decide +kernel
theorem dX6_image_11 : decode cX6_image 11 = .ok (.invokevirtual 63, 3) := by decide +kernel
theorem dX6_image_14 : decode cX6_image 14 = .ok (.ireturn, 1) := by decide +kernel
theorem dX6_image_15 : decode cX6_image 15 = .ok (.aload_n 0, 1) := by decide +kernel
theorem dX6_image_16 : decode cX6_image 16 = .ok (.getfield 7, 3) := by decide +kernel
theorem dX6_image_19 : decode cX6_image 19 = .ok (.iconst 0, 1) := by decide +kernel
theorem dX6_image_20 : decode cX6_image 20 = .ok (.aload_n 0, 1) := by decide +kernel
theorem dX6_image_21 : decode cX6_image 21 = .ok (.getfield 19, 3) := by decide +kernel
theorem dX6_image_24 : decode cX6_image 24 = .ok (.sipush 255, 3) := by decide +kernel
theorem dX6_image_27 : decode cX6_image 27 = .ok (.iload_n 1, 1) := by decide +kernel
theorem dX6_image_28 : decode cX6_image 28 = .ok (.imul, 1) := by decide +kernel
theorem dX6_image_29 : decode cX6_image 29 = .ok (.sipush 255, 3) := by decide +kernel
theorem dX6_image_32 : decode cX6_image 32 = .ok (.invokestatic 152, 3) := by decide +kernel
theorem dX6_image_35 : decode cX6_image 35 = .ok (.aload_n 0, 1) := by decide +kernel
theorem dX6_image_36 : decode cX6_image 36 = .ok (.getfield 22, 3) := by decide +kernel
theorem dX6_image_39 : decode cX6_image 39 = .ok (.iload_n 1, 1) := by decide +kernel
theorem dX6_image_40 : decode cX6_image 40 = .ok (.iconst 1, 1) := by decide +kernel
theorem dX6_image_41 : decode cX6_image 41 = .ok (.bastore, 1) := by decide +kernel
theorem dX6_image_42 : decode cX6_image 42 = .ok (.iconst 1, 1) := by decide +kernel
theorem dX6_image_43 : decode cX6_image 43 = .ok (.ireturn, 1) := by decide +kernel
theorem dX6_from_0 : decode cX6_from 0 = .ok (.iload_n 1, 1) := by decide +kernel
theorem dX6_from_1 : decode cX6_from 1 = .ok (.i2l, 1) := by decide +kernel
theorem dX6_from_2 : decode cX6_from 2 = .ok (.lconst 0, 1) := by decide +kernel
theorem dX6_from_3 : decode cX6_from 3 = .ok (.lconst 1, 1) := by decide +kernel
theorem dX6_from_4 : decode cX6_from 4 = .ok (.invokestatic 55, 3) := by decide +kernel
theorem dX6_from_7 : decode cX6_from 7 = .ok (.ifCond .ne 8, 3) := by decide +kernel
theorem dX6_from_10 : decode cX6_from 10 = .ok (.aload_n 0, 1) := by decide +kernel
theorem dX6_from_11 : decode cX6_from 11 = .ok (.invokevirtual 63, 3) := by decide +kernel
theorem dX6_from_14 : decode cX6_from 14 = .ok (.ireturn, 1) := by decide +kernel
theorem dX6_from_15 : decode cX6_from 15 = .ok (.aload_n 0, 1) := by decide +kernel
theorem dX6_from_16 : decode cX6_from 16 = .ok (.getfield 22, 3) := by decide +kernel
theorem dX6_from_19 : decode cX6_from 19 = .ok (.iload_n 1, 1) := by decide +kernel
theorem dX6_from_20 : decode cX6_from 20 = .ok (.baload, 1) := by decide +kernel
theorem dX6_from_21 : decode cX6_from 21 = .ok (.ifCond .ne 8, 3) := by decide +kernel
theorem dX6_from_24 : decode cX6_from 24 = .ok (.aload_n 0, 1) := by decide +kernel
theorem dX6_from_25 : decode cX6_from 25 = .ok (.invokevirtual 77, 3) := by decide +kernel
theorem dX6_from_28 : decode cX6_from 28 = .ok (.ireturn, 1) := by decide +kernel
theorem dX6_from_29 : decode cX6_from 29 = .ok (.aload_n 0, 1) := by decide +kernel
theorem dX6_from_30 : decode cX6_from 30 = .ok (.getfield 19, 3) := by decide +kernel
theorem dX6_from_33 : decode cX6_from 33 = .ok (.sipush 255, 3) := by decide +kernel
theorem dX6_from_36 : decode cX6_from 36 = .ok (.iload_n 1, 1) := by decide +kernel
theorem dX6_from_37 : decode cX6_from 37 = .ok (.imul, 1) := by decide +kernel
theorem dX6_from_38 : decode cX6_from 38 = .ok (.aload_n 0, 1) := by decide +kernel
theorem dX6_from_39 : decode cX6_from 39 = .ok (.getfield 7, 3) := by decide +kernel
theorem dX6_from_42 : decode cX6_from 42 = .ok (.iconst 0, 1) := by decide +kernel
theorem dX6_from_43 : decode cX6_from 43 = .ok (.sipush 255, 3) := by decide +kernel
theorem dX6_from_46 : decode cX6_from 46 = .ok (.invokestatic 152, 3) := by decide +kernel
theorem dX6_from_49 : decode cX6_from 49 = .ok (.iconst 1, 1) := by decide +kernel
theorem dX6_from_50 : decode cX6_from 50 = .ok (.ireturn, 1) := by decide +kernel
theorem dX6_status_0 : decode cX6_status 0 = .ok (.iload_n 1, 1) := by decide +kernel
theorem dX6_status_1 : decode cX6_status 1 = .ok (.tableswitch 42 0 2 #[27, 32, 37], 27) := by decide +kernel
theorem dX6_status_28 : decode cX6_status 28 = .ok (.aload_n 0, 1) := by decide +kernel
theorem dX6_status_29 : decode cX6_status 29 = .ok (.getfield 43, 3) := by decide +kernel
theorem dX6_status_32 : decode cX6_status 32 = .ok (.ireturn, 1) := by decide +kernel
theorem dX6_status_33 : decode cX6_status 33 = .ok (.aload_n 0, 1) := by decide +kernel
theorem dX6_status_34 : decode cX6_status 34 = .ok (.getfield 47, 3) := by decide +kernel
theorem dX6_status_37 : decode cX6_status 37 = .ok (.ireturn, 1) := by decide +kernel
theorem dX6_status_38 : decode cX6_status 38 = .ok (.aload_n 0, 1) := by decide +kernel
theorem dX6_status_39 : decode cX6_status 39 = .ok (.getfield 50, 3) := by decide +kernel
theorem dX6_status_42 : decode cX6_status 42 = .ok (.ireturn, 1) := by decide +kernel
theorem dX6_status_43 : decode cX6_status 43 = .ok (.aload_n 0, 1) := by decide +kernel
theorem dX6_status_44 : decode cX6_status 44 = .ok (.dup, 1) := by decide +kernel
theorem dX6_status_45 : decode cX6_status 45 = .ok (.getfield 43, 3) := by decide +kernel
theorem dX6_status_48 : decode cX6_status 48 = .ok (.iconst 1, 1) := by decide +kernel
theorem dX6_status_49 : decode cX6_status 49 = .ok (.iadd, 1) := by decide +kernel
theorem dX6_status_50 : decode cX6_status 50 = .ok (.putfield 43, 3) := by decide +kernel
theorem dX6_status_53 : decode cX6_status 53 = .ok (.iconst (-1), 1) := by decide +kernel
theorem dX6_status_54 : decode cX6_status 54 = .ok (.ireturn, 1) := by decide +kernel
theorem dX6_counted_0 : decode cX6_counted 0 = .ok (.iload_n 1, 1) := by decide +kernel
theorem dX6_counted_1 : decode cX6_counted 1 = .ok (.tableswitch 99 0 6 #[43, 51, 59, 67, 75, 83, 91], 43) := by decide +kernel
theorem dX6_counted_44 : decode cX6_counted 44 = .ok (.aload_n 0, 1) := by decide +kernel
theorem dX6_counted_45 : decode cX6_counted 45 = .ok (.getfield 7, 3) := by decide +kernel
theorem dX6_counted_48 : decode cX6_counted 48 = .ok (.bipush 22, 2) := by decide +kernel
theorem dX6_counted_50 : decode cX6_counted 50 = .ok (.iaload, 1) := by decide +kernel
theorem dX6_counted_51 : decode cX6_counted 51 = .ok (.ireturn, 1) := by decide +kernel
theorem dX6_counted_52 : decode cX6_counted 52 = .ok (.aload_n 0, 1) := by decide +kernel
theorem dX6_counted_53 : decode cX6_counted 53 = .ok (.getfield 7, 3) := by decide +kernel
theorem dX6_counted_56 : decode cX6_counted 56 = .ok (.bipush 21, 2) := by decide +kernel
theorem dX6_counted_58 : decode cX6_counted 58 = .ok (.iaload, 1) := by decide +kernel
theorem dX6_counted_59 : decode cX6_counted 59 = .ok (.ireturn, 1) := by decide +kernel
theorem dX6_counted_60 : decode cX6_counted 60 = .ok (.aload_n 0, 1) := by decide +kernel
theorem dX6_counted_61 : decode cX6_counted 61 = .ok (.getfield 7, 3) := by decide +kernel
theorem dX6_counted_64 : decode cX6_counted 64 = .ok (.bipush 18, 2) := by decide +kernel
theorem dX6_counted_66 : decode cX6_counted 66 = .ok (.iaload, 1) := by decide +kernel
theorem dX6_counted_67 : decode cX6_counted 67 = .ok (.ireturn, 1) := by decide +kernel
theorem dX6_counted_68 : decode cX6_counted 68 = .ok (.aload_n 0, 1) := by decide +kernel
theorem dX6_counted_69 : decode cX6_counted 69 = .ok (.getfield 7, 3) := by decide +kernel
theorem dX6_counted_72 : decode cX6_counted 72 = .ok (.bipush 19, 2) := by decide +kernel
theorem dX6_counted_74 : decode cX6_counted 74 = .ok (.iaload, 1) := by decide +kernel
theorem dX6_counted_75 : decode cX6_counted 75 = .ok (.ireturn, 1) := by decide +kernel
theorem dX6_counted_76 : decode cX6_counted 76 = .ok (.aload_n 0, 1) := by decide +kernel
theorem dX6_counted_77 : decode cX6_counted 77 = .ok (.getfield 7, 3) := by decide +kernel
theorem dX6_counted_80 : decode cX6_counted 80 = .ok (.bipush 20, 2) := by decide +kernel
theorem dX6_counted_82 : decode cX6_counted 82 = .ok (.iaload, 1) := by decide +kernel
theorem dX6_counted_83 : decode cX6_counted 83 = .ok (.ireturn, 1) := by decide +kernel
theorem dX6_counted_84 : decode cX6_counted 84 = .ok (.aload_n 0, 1) := by decide +kernel
theorem dX6_counted_85 : decode cX6_counted 85 = .ok (.getfield 7, 3) := by decide +kernel
theorem dX6_counted_88 : decode cX6_counted 88 = .ok (.bipush 35, 2) := by decide +kernel
theorem dX6_counted_90 : decode cX6_counted 90 = .ok (.iaload, 1) := by decide +kernel
theorem dX6_counted_91 : decode cX6_counted 91 = .ok (.ireturn, 1) := by decide +kernel
theorem dX6_counted_92 : decode cX6_counted 92 = .ok (.aload_n 0, 1) := by decide +kernel
theorem dX6_counted_93 : decode cX6_counted 93 = .ok (.getfield 7, 3) := by decide +kernel
theorem dX6_counted_96 : decode cX6_counted 96 = .ok (.bipush 78, 2) := by decide +kernel
theorem dX6_counted_98 : decode cX6_counted 98 = .ok (.iaload, 1) := by decide +kernel
theorem dX6_counted_99 : decode cX6_counted 99 = .ok (.ireturn, 1) := by decide +kernel
theorem dX6_counted_100 : decode cX6_counted 100 = .ok (.aload_n 0, 1) := by decide +kernel
theorem dX6_counted_101 : decode cX6_counted 101 = .ok (.getfield 89, 3) := by decide +kernel
theorem dX6_counted_104 : decode cX6_counted 104 = .ok (.ireturn, 1) := by decide +kernel
theorem dX6_count_0 : decode cX6_count 0 = .ok (.iload_n 1, 1) := by decide +kernel
theorem dX6_count_1 : decode cX6_count 1 = .ok (.i2l, 1) := by decide +kernel
theorem dX6_count_2 : decode cX6_count 2 = .ok (.lconst 0, 1) := by decide +kernel
theorem dX6_count_3 : decode cX6_count 3 = .ok (.ldc2_w 53, 3) := by decide +kernel
theorem dX6_count_6 : decode cX6_count 6 = .ok (.invokestatic 55, 3) := by decide +kernel
theorem dX6_count_9 : decode cX6_count 9 = .ok (.ifCond .eq 11, 3) := by decide +kernel
theorem dX6_count_12 : decode cX6_count 12 = .ok (.aload_n 0, 1) := by decide +kernel
theorem dX6_count_13 : decode cX6_count 13 = .ok (.iload_n 1, 1) := by decide +kernel
theorem dX6_count_14 : decode cX6_count 14 = .ok (.invokevirtual 245, 3) := by decide +kernel
theorem dX6_count_17 : decode cX6_count 17 = .ok (.goto 7, 3) := by decide +kernel
theorem dX6_count_20 : decode cX6_count 20 = .ok (.aload_n 0, 1) := by decide +kernel
theorem dX6_count_21 : decode cX6_count 21 = .ok (.invokevirtual 63, 3) := by decide +kernel
theorem dX6_count_24 : decode cX6_count 24 = .ok (.ireturn, 1) := by decide +kernel
theorem dX6_digest_0 : decode cX6_digest 0 = .ok (.ldc2_w 248, 3) := by decide +kernel
theorem dX6_digest_3 : decode cX6_digest 3 = .ok (.lstore_n 1, 1) := by decide +kernel
theorem dX6_digest_4 : decode cX6_digest 4 = .ok (.iconst 0, 1) := by decide +kernel
theorem dX6_digest_5 : decode cX6_digest 5 = .ok (.istore_n 3, 1) := by decide +kernel
theorem dX6_digest_6 : decode cX6_digest 6 = .ok (.iload_n 3, 1) := by decide +kernel
theorem dX6_digest_7 : decode cX6_digest 7 = .ok (.bipush 8, 2) := by decide +kernel
theorem dX6_digest_9 : decode cX6_digest 9 = .ok (.if_icmp .ge 22, 3) := by decide +kernel
theorem dX6_digest_12 : decode cX6_digest 12 = .ok (.ldc2_w 243, 3) := by decide +kernel
theorem dX6_digest_15 : decode cX6_digest 15 = .ok (.lload_n 1, 1) := by decide +kernel
theorem dX6_digest_16 : decode cX6_digest 16 = .ok (.lmul, 1) := by decide +kernel
theorem dX6_digest_17 : decode cX6_digest 17 = .ok (.aload_n 0, 1) := by decide +kernel
theorem dX6_digest_18 : decode cX6_digest 18 = .ok (.iload_n 3, 1) := by decide +kernel
theorem dX6_digest_19 : decode cX6_digest 19 = .ok (.invokevirtual 245, 3) := by decide +kernel
theorem dX6_digest_22 : decode cX6_digest 22 = .ok (.i2l, 1) := by decide +kernel
theorem dX6_digest_23 : decode cX6_digest 23 = .ok (.ladd, 1) := by decide +kernel
theorem dX6_digest_24 : decode cX6_digest 24 = .ok (.lstore_n 1, 1) := by decide +kernel
theorem dX6_digest_25 : decode cX6_digest 25 = .ok (.iinc 3 1, 3) := by decide +kernel
theorem dX6_digest_28 : decode cX6_digest 28 = .ok (.goto (-22), 3) := by decide +kernel
theorem dX6_digest_31 : decode cX6_digest 31 = .ok (.iconst 0, 1) := by decide +kernel
theorem dX6_digest_32 : decode cX6_digest 32 = .ok (.istore_n 3, 1) := by decide +kernel
theorem dX6_digest_33 : decode cX6_digest 33 = .ok (.iload_n 3, 1) := by decide +kernel
theorem dX6_digest_34 : decode cX6_digest 34 = .ok (.aload_n 0, 1) := by decide +kernel
theorem dX6_digest_35 : decode cX6_digest 35 = .ok (.getfield 7, 3) := by decide +kernel
theorem dX6_digest_38 : decode cX6_digest 38 = .ok (.bipush 22, 2) := by decide +kernel
theorem dX6_digest_40 : decode cX6_digest 40 = .ok (.iaload, 1) := by decide +kernel
theorem dX6_digest_41 : decode cX6_digest 41 = .ok (.if_icmp .ge 93, 3) := by decide +kernel
theorem dX6_digest_44 : decode cX6_digest 44 = .ok (.ldc2_w 243, 3) := by decide +kernel
theorem dX6_digest_47 : decode cX6_digest 47 = .ok (.lload_n 1, 1) := by decide +kernel
theorem dX6_digest_48 : decode cX6_digest 48 = .ok (.lmul, 1) := by decide +kernel
theorem dX6_digest_49 : decode cX6_digest 49 = .ok (.aload_n 0, 1) := by decide +kernel
theorem dX6_digest_50 : decode cX6_digest 50 = .ok (.getfield 7, 3) := by decide +kernel
theorem dX6_digest_53 : decode cX6_digest 53 = .ok (.bipush 23, 2) := by decide +kernel
theorem dX6_digest_55 : decode cX6_digest 55 = .ok (.iload_n 3, 1) := by decide +kernel
theorem dX6_digest_56 : decode cX6_digest 56 = .ok (.iadd, 1) := by decide +kernel
theorem dX6_digest_57 : decode cX6_digest 57 = .ok (.iaload, 1) := by decide +kernel
theorem dX6_digest_58 : decode cX6_digest 58 = .ok (.i2l, 1) := by decide +kernel
theorem dX6_digest_59 : decode cX6_digest 59 = .ok (.ladd, 1) := by decide +kernel
theorem dX6_digest_60 : decode cX6_digest 60 = .ok (.lstore_n 1, 1) := by decide +kernel
theorem dX6_digest_61 : decode cX6_digest 61 = .ok (.ldc2_w 243, 3) := by decide +kernel
theorem dX6_digest_64 : decode cX6_digest 64 = .ok (.lload_n 1, 1) := by decide +kernel
theorem dX6_digest_65 : decode cX6_digest 65 = .ok (.lmul, 1) := by decide +kernel
theorem dX6_digest_66 : decode cX6_digest 66 = .ok (.aload_n 0, 1) := by decide +kernel
theorem dX6_digest_67 : decode cX6_digest 67 = .ok (.getfield 7, 3) := by decide +kernel
theorem dX6_digest_70 : decode cX6_digest 70 = .ok (.iconst 0, 1) := by decide +kernel
theorem dX6_digest_71 : decode cX6_digest 71 = .ok (.iload_n 3, 1) := by decide +kernel
theorem dX6_digest_72 : decode cX6_digest 72 = .ok (.iadd, 1) := by decide +kernel
theorem dX6_digest_73 : decode cX6_digest 73 = .ok (.iaload, 1) := by decide +kernel
theorem dX6_digest_74 : decode cX6_digest 74 = .ok (.i2l, 1) := by decide +kernel
theorem dX6_digest_75 : decode cX6_digest 75 = .ok (.ladd, 1) := by decide +kernel
theorem dX6_digest_76 : decode cX6_digest 76 = .ok (.lstore_n 1, 1) := by decide +kernel
theorem dX6_digest_77 : decode cX6_digest 77 = .ok (.ldc2_w 243, 3) := by decide +kernel
theorem dX6_digest_80 : decode cX6_digest 80 = .ok (.lload_n 1, 1) := by decide +kernel
theorem dX6_digest_81 : decode cX6_digest 81 = .ok (.lmul, 1) := by decide +kernel
theorem dX6_digest_82 : decode cX6_digest 82 = .ok (.aload_n 0, 1) := by decide +kernel
theorem dX6_digest_83 : decode cX6_digest 83 = .ok (.getfield 7, 3) := by decide +kernel
theorem dX6_digest_86 : decode cX6_digest 86 = .ok (.bipush 29, 2) := by decide +kernel
theorem dX6_digest_88 : decode cX6_digest 88 = .ok (.iload_n 3, 1) := by decide +kernel
theorem dX6_digest_89 : decode cX6_digest 89 = .ok (.iadd, 1) := by decide +kernel
theorem dX6_digest_90 : decode cX6_digest 90 = .ok (.iaload, 1) := by decide +kernel
theorem dX6_digest_91 : decode cX6_digest 91 = .ok (.i2l, 1) := by decide +kernel
theorem dX6_digest_92 : decode cX6_digest 92 = .ok (.ladd, 1) := by decide +kernel
theorem dX6_digest_93 : decode cX6_digest 93 = .ok (.lstore_n 1, 1) := by decide +kernel
theorem dX6_digest_94 : decode cX6_digest 94 = .ok (.ldc2_w 243, 3) := by decide +kernel
theorem dX6_digest_97 : decode cX6_digest 97 = .ok (.lload_n 1, 1) := by decide +kernel
theorem dX6_digest_98 : decode cX6_digest 98 = .ok (.lmul, 1) := by decide +kernel
theorem dX6_digest_99 : decode cX6_digest 99 = .ok (.aload_n 0, 1) := by decide +kernel
theorem dX6_digest_100 : decode cX6_digest 100 = .ok (.getfield 7, 3) := by decide +kernel
theorem dX6_digest_103 : decode cX6_digest 103 = .ok (.bipush 6, 2) := by decide +kernel
theorem dX6_digest_105 : decode cX6_digest 105 = .ok (.iload_n 3, 1) := by decide +kernel
theorem dX6_digest_106 : decode cX6_digest 106 = .ok (.iadd, 1) := by decide +kernel
theorem dX6_digest_107 : decode cX6_digest 107 = .ok (.iaload, 1) := by decide +kernel
theorem dX6_digest_108 : decode cX6_digest 108 = .ok (.i2l, 1) := by decide +kernel
theorem dX6_digest_109 : decode cX6_digest 109 = .ok (.ladd, 1) := by decide +kernel
theorem dX6_digest_110 : decode cX6_digest 110 = .ok (.lstore_n 1, 1) := by decide +kernel
theorem dX6_digest_111 : decode cX6_digest 111 = .ok (.ldc2_w 243, 3) := by decide +kernel
theorem dX6_digest_114 : decode cX6_digest 114 = .ok (.lload_n 1, 1) := by decide +kernel
theorem dX6_digest_115 : decode cX6_digest 115 = .ok (.lmul, 1) := by decide +kernel
theorem dX6_digest_116 : decode cX6_digest 116 = .ok (.aload_n 0, 1) := by decide +kernel
theorem dX6_digest_117 : decode cX6_digest 117 = .ok (.getfield 7, 3) := by decide +kernel
theorem dX6_digest_120 : decode cX6_digest 120 = .ok (.bipush 12, 2) := by decide +kernel
theorem dX6_digest_122 : decode cX6_digest 122 = .ok (.iload_n 3, 1) := by decide +kernel
theorem dX6_digest_123 : decode cX6_digest 123 = .ok (.iadd, 1) := by decide +kernel
theorem dX6_digest_124 : decode cX6_digest 124 = .ok (.iaload, 1) := by decide +kernel
theorem dX6_digest_125 : decode cX6_digest 125 = .ok (.i2l, 1) := by decide +kernel
theorem dX6_digest_126 : decode cX6_digest 126 = .ok (.ladd, 1) := by decide +kernel
theorem dX6_digest_127 : decode cX6_digest 127 = .ok (.lstore_n 1, 1) := by decide +kernel
theorem dX6_digest_128 : decode cX6_digest 128 = .ok (.iinc 3 1, 3) := by decide +kernel

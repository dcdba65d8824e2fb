theorem dX6_step_199 : decode cX6_step 199 = .ok (.getfield 115, 3) := by decide +kernel
theorem dX6_step_202 : decode cX6_step 202 = .ok (.iconst 2, 1) := by decide +kernel
theorem dX6_step_203 : decode cX6_step 203 = .ok (.if_icmp .ne 72, 3) := by decide +kernel
theorem dX6_step_206 : decode cX6_step 206 = .ok (.aload_n 0, 1) := by decide +kernel
theorem dX6_step_207 : decode cX6_step 207 = .ok (.invokevirtual 95, 3) := by decide +kernel
theorem dX6_step_210 : decode cX6_step 210 = .ok (.i2l, 1) := by decide +kernel
theorem dX6_step_211 : decode cX6_step 211 = .ok (.ldc2_w 111, 3) := by decide +kernel
theorem dX6_step_214 : decode cX6_step 214 = .ok (.ldc2_w 113, 3) := by decide +kernel
theorem dX6_step_217 : decode cX6_step 217 = .ok (.invokestatic 55, 3) := by decide +kernel
theorem dX6_step_220 : decode cX6_step 220 = .ok (.ifCond .eq 55, 3) := by decide +kernel
theorem dX6_step_223 : decode cX6_step 223 = .ok (.aload_n 0, 1) := by decide +kernel
theorem dX6_step_224 : decode cX6_step 224 = .ok (.aload_n 0, 1) := by decide +kernel
theorem dX6_step_225 : decode cX6_step 225 = .ok (.getfield 92, 3) := by decide +kernel
theorem dX6_step_228 : decode cX6_step 228 = .ok (.aload_n 0, 1) := by decide +kernel
theorem dX6_step_229 : decode cX6_step 229 = .ok (.getfield 98, 3) := by decide +kernel
theorem dX6_step_232 : decode cX6_step 232 = .ok (.isub, 1) := by decide +kernel
theorem dX6_step_233 : decode cX6_step 233 = .ok (.iconst 2, 1) := by decide +kernel
theorem dX6_step_234 : decode cX6_step 234 = .ok (.if_icmp .ge 21, 3) := by decide +kernel
theorem dX6_step_237 : decode cX6_step 237 = .ok (.bipush 10, 2) := by decide +kernel
theorem dX6_step_239 : decode cX6_step 239 = .ok (.aload_n 0, 1) := by decide +kernel
theorem dX6_step_240 : decode cX6_step 240 = .ok (.getfield 104, 3) := by decide +kernel
theorem dX6_step_243 : decode cX6_step 243 = .ok (.imul, 1) := by decide +kernel
theorem dX6_step_244 : decode cX6_step 244 = .ok (.aload_n 0, 1) := by decide +kernel
theorem dX6_step_245 : decode cX6_step 245 = .ok (.invokevirtual 95, 3) := by decide +kernel
theorem dX6_step_248 : decode cX6_step 248 = .ok (.iadd, 1) := by decide +kernel
theorem dX6_step_249 : decode cX6_step 249 = .ok (.bipush 48, 2) := by decide +kernel
theorem dX6_step_251 : decode cX6_step 251 = .ok (.isub, 1) := by decide +kernel
theorem dX6_step_252 : decode cX6_step 252 = .ok (.goto 7, 3) := by decide +kernel
theorem dX6_step_255 : decode cX6_step 255 = .ok (.aload_n 0, 1) := by decide +kernel
theorem dX6_step_256 : decode cX6_step 256 = .ok (.getfield 104, 3) := by decide +kernel
theorem dX6_step_259 : decode cX6_step 259 = .ok (.putfield 104, 3) := by decide +kernel
theorem dX6_step_262 : decode cX6_step 262 = .ok (.aload_n 0, 1) := by decide +kernel
theorem dX6_step_263 : decode cX6_step 263 = .ok (.dup, 1) := by decide +kernel
theorem dX6_step_264 : decode cX6_step 264 = .ok (.getfield 92, 3) := by decide +kernel
theorem dX6_step_267 : decode cX6_step 267 = .ok (.iconst 1, 1) := by decide +kernel
theorem dX6_step_268 : decode cX6_step 268 = .ok (.iadd, 1) := by decide +kernel
theorem dX6_step_269 : decode cX6_step 269 = .ok (.putfield 92, 3) := by decide +kernel
theorem dX6_step_272 : decode cX6_step 272 = .ok (.goto (-74), 3) := by decide +kernel
theorem dX6_step_275 : decode cX6_step 275 = .ok (.aload_n 0, 1) := by decide +kernel
theorem dX6_step_276 : decode cX6_step 276 = .ok (.aload_n 0, 1) := by decide +kernel
theorem dX6_step_277 : decode cX6_step 277 = .ok (.getfield 115, 3) := by decide +kernel
theorem dX6_step_280 : decode cX6_step 280 = .ok (.iconst 2, 1) := by decide +kernel
theorem dX6_step_281 : decode cX6_step 281 = .ok (.if_icmp .ne 20, 3) := by decide +kernel
theorem dX6_step_284 : decode cX6_step 284 = .ok (.aload_n 0, 1) := by decide +kernel
theorem dX6_step_285 : decode cX6_step 285 = .ok (.getfield 92, 3) := by decide +kernel
theorem dX6_step_288 : decode cX6_step 288 = .ok (.aload_n 0, 1) := by decide +kernel
theorem dX6_step_289 : decode cX6_step 289 = .ok (.getfield 98, 3) := by decide +kernel
theorem dX6_step_292 : decode cX6_step 292 = .ok (.isub, 1) := by decide +kernel
theorem dX6_step_293 : decode cX6_step 293 = .ok (.iconst 2, 1) := by decide +kernel
theorem dX6_step_294 : decode cX6_step 294 = .ok (.if_icmp .le 7, 3) := by decide +kernel
theorem dX6_step_297 : decode cX6_step 297 = .ok (.iconst 4, 1) := by decide +kernel
theorem dX6_step_298 : decode cX6_step 298 = .ok (.goto 7, 3) := by decide +kernel
theorem dX6_step_301 : decode cX6_step 301 = .ok (.aload_n 0, 1) := by decide +kernel
theorem dX6_step_302 : decode cX6_step 302 = .ok (.getfield 115, 3) := by decide +kernel
theorem dX6_step_305 : decode cX6_step 305 = .ok (.putfield 115, 3) := by decide +kernel
theorem dX6_step_308 : decode cX6_step 308 = .ok (.return_, 1) := by decide +kernel
theorem dX6_number_0 : decode cX6_number 0 = .ok (.aload_n 0, 1) := by decide +kernel
theorem dX6_number_1 : decode cX6_number 1 = .ok (.invokevirtual 122, 3) := by decide +kernel
theorem dX6_number_4 : decode cX6_number 4 = .ok (.aload_n 0, 1) := by decide +kernel
theorem dX6_number_5 : decode cX6_number 5 = .ok (.getfield 115, 3) := by decide +kernel
theorem dX6_number_8 : decode cX6_number 8 = .ok (.iconst 2, 1) := by decide +kernel
theorem dX6_number_9 : decode cX6_number 9 = .ok (.if_icmp .ne 15, 3) := by decide +kernel
theorem dX6_number_12 : decode cX6_number 12 = .ok (.aload_n 0, 1) := by decide +kernel
theorem dX6_number_13 : decode cX6_number 13 = .ok (.getfield 104, 3) := by decide +kernel
theorem dX6_number_16 : decode cX6_number 16 = .ok (.iload_n 1, 1) := by decide +kernel
theorem dX6_number_17 : decode cX6_number 17 = .ok (.if_icmp .gt 7, 3) := by decide +kernel
theorem dX6_number_20 : decode cX6_number 20 = .ok (.iconst 1, 1) := by decide +kernel
theorem dX6_number_21 : decode cX6_number 21 = .ok (.goto 4, 3) := by decide +kernel
theorem dX6_number_24 : decode cX6_number 24 = .ok (.iconst 0, 1) := by decide +kernel
theorem dX6_number_25 : decode cX6_number 25 = .ok (.ireturn, 1) := by decide +kernel
theorem dX6_readsTable_0 : decode cX6_readsTable 0 = .ok (.aload_n 0, 1) := by decide +kernel
theorem dX6_readsTable_1 : decode cX6_readsTable 1 = .ok (.bipush 7, 2) := by decide +kernel
theorem dX6_readsTable_3 : decode cX6_readsTable 3 = .ok (.invokevirtual 125, 3) := by decide +kernel
theorem dX6_readsTable_6 : decode cX6_readsTable 6 = .ok (.ifCond .ne 5, 3) := by decide +kernel
theorem dX6_readsTable_9 : decode cX6_readsTable 9 = .ok (.iconst 0, 1) := by decide +kernel
theorem dX6_readsTable_10 : decode cX6_readsTable 10 = .ok (.ireturn, 1) := by decide +kernel
theorem dX6_readsTable_11 : decode cX6_readsTable 11 = .ok (.aload_n 0, 1) := by decide +kernel
theorem dX6_readsTable_12 : decode cX6_readsTable 12 = .ok (.getfield 13, 3) := by decide +kernel
theorem dX6_readsTable_15 : decode cX6_readsTable 15 = .ok (.bipush 20, 2) := by decide +kernel
theorem dX6_readsTable_17 : decode cX6_readsTable 17 = .ok (.aload_n 0, 1) := by decide +kernel
theorem dX6_readsTable_18 : decode cX6_readsTable 18 = .ok (.getfield 104, 3) := by decide +kernel
theorem dX6_readsTable_21 : decode cX6_readsTable 21 = .ok (.iastore, 1) := by decide +kernel
theorem dX6_readsTable_22 : decode cX6_readsTable 22 = .ok (.iconst 1, 1) := by decide +kernel
theorem dX6_readsTable_23 : decode cX6_readsTable 23 = .ok (.ireturn, 1) := by decide +kernel
theorem dX6_readsChild_0 : decode cX6_readsChild 0 = .ok (.aload_n 0, 1) := by decide +kernel
theorem dX6_readsChild_1 : decode cX6_readsChild 1 = .ok (.getfield 13, 3) := by decide +kernel
theorem dX6_readsChild_4 : decode cX6_readsChild 4 = .ok (.bipush 22, 2) := by decide +kernel
theorem dX6_readsChild_6 : decode cX6_readsChild 6 = .ok (.iaload, 1) := by decide +kernel
theorem dX6_readsChild_7 : decode cX6_readsChild 7 = .ok (.bipush 6, 2) := by decide +kernel
theorem dX6_readsChild_9 : decode cX6_readsChild 9 = .ok (.if_icmp .eq 11, 3) := by decide +kernel
theorem dX6_readsChild_12 : decode cX6_readsChild 12 = .ok (.aload_n 0, 1) := by decide +kernel
theorem dX6_readsChild_13 : decode cX6_readsChild 13 = .ok (.iconst 5, 1) := by decide +kernel
theorem dX6_readsChild_14 : decode cX6_readsChild 14 = .ok (.invokevirtual 125, 3) := by decide +kernel
theorem dX6_readsChild_17 : decode cX6_readsChild 17 = .ok (.ifCond .ne 5, 3) := by decide +kernel
theorem dX6_readsChild_20 : decode cX6_readsChild 20 = .ok (.iconst 0, 1) := by decide +kernel
theorem dX6_readsChild_21 : decode cX6_readsChild 21 = .ok (.ireturn, 1) := by decide +kernel
theorem dX6_readsChild_22 : decode cX6_readsChild 22 = .ok (.aload_n 0, 1) := by decide +kernel
theorem dX6_readsChild_23 : decode cX6_readsChild 23 = .ok (.getfield 104, 3) := by decide +kernel
theorem dX6_readsChild_26 : decode cX6_readsChild 26 = .ok (.istore_n 1, 1) := by decide +kernel
theorem dX6_readsChild_27 : decode cX6_readsChild 27 = .ok (.aload_n 0, 1) := by decide +kernel
theorem dX6_readsChild_28 : decode cX6_readsChild 28 = .ok (.bipush 7, 2) := by decide +kernel
theorem dX6_readsChild_30 : decode cX6_readsChild 30 = .ok (.invokevirtual 125, 3) := by decide +kernel
theorem dX6_readsChild_33 : decode cX6_readsChild 33 = .ok (.ifCond .eq 18, 3) := by decide +kernel
theorem dX6_readsChild_36 : decode cX6_readsChild 36 = .ok (.aload_n 0, 1) := by decide +kernel
theorem dX6_readsChild_37 : decode cX6_readsChild 37 = .ok (.getfield 13, 3) := by decide +kernel
theorem dX6_readsChild_40 : decode cX6_readsChild 40 = .ok (.aload_n 0, 1) := by decide +kernel
theorem dX6_readsChild_41 : decode cX6_readsChild 41 = .ok (.getfield 104, 3) := by decide +kernel
theorem dX6_readsChild_44 : decode cX6_readsChild 44 = .ok (.invokestatic 73, 3) := by decide +kernel
theorem dX6_readsChild_47 : decode cX6_readsChild 47 = .ok (.iconst (-1), 1) := by decide +kernel
theorem dX6_readsChild_48 : decode cX6_readsChild 48 = .ok (.if_icmp .eq 5, 3) := by decide +kernel
theorem dX6_readsChild_51 : decode cX6_readsChild 51 = .ok (.iconst 0, 1) := by decide +kernel
theorem dX6_readsChild_52 : decode cX6_readsChild 52 = .ok (.ireturn, 1) := by decide +kernel
theorem dX6_readsChild_53 : decode cX6_readsChild 53 = .ok (.aload_n 0, 1) := by decide +kernel
theorem dX6_readsChild_54 : decode cX6_readsChild 54 = .ok (.getfield 104, 3) := by decide +kernel
theorem dX6_readsChild_57 : decode cX6_readsChild 57 = .ok (.istore_n 2, 1) := by decide +kernel
theorem dX6_readsChild_58 : decode cX6_readsChild 58 = .ok (.aload_n 0, 1) := by decide +kernel
theorem dX6_readsChild_59 : decode cX6_readsChild 59 = .ok (.bipush 20, 2) := by decide +kernel
theorem dX6_readsChild_61 : decode cX6_readsChild 61 = .ok (.invokevirtual 125, 3) := by decide +kernel
theorem dX6_readsChild_64 : decode cX6_readsChild 64 = .ok (.ifCond .ne 5, 3) := by decide +kernel
theorem dX6_readsChild_67 : decode cX6_readsChild 67 = .ok (.iconst 0, 1) := by decide +kernel
theorem dX6_readsChild_68 : decode cX6_readsChild 68 = .ok (.ireturn, 1) := by decide +kernel
theorem dX6_readsChild_69 : decode cX6_readsChild 69 = .ok (.aload_n 0, 1) := by decide +kernel
theorem dX6_readsChild_70 : decode cX6_readsChild 70 = .ok (.getfield 104, 3) := by decide +kernel
theorem dX6_readsChild_73 : decode cX6_readsChild 73 = .ok (.istore_n 3, 1) := by decide +kernel
theorem dX6_readsChild_74 : decode cX6_readsChild 74 = .ok (.aload_n 0, 1) := by decide +kernel
theorem dX6_readsChild_75 : decode cX6_readsChild 75 = .ok (.bipush 30, 2) := by decide +kernel
theorem dX6_readsChild_77 : decode cX6_readsChild 77 = .ok (.invokevirtual 125, 3) := by decide +kernel
theorem dX6_readsChild_80 : decode cX6_readsChild 80 = .ok (.ifCond .ne 5, 3) := by decide +kernel
theorem dX6_readsChild_83 : decode cX6_readsChild 83 = .ok (.iconst 0, 1) := by decide +kernel
theorem dX6_readsChild_84 : decode cX6_readsChild 84 = .ok (.ireturn, 1) := by decide +kernel
theorem dX6_readsChild_85 : decode cX6_readsChild 85 = .ok (.aload_n 0, 1) := by decide +kernel
theorem dX6_readsChild_86 : decode cX6_readsChild 86 = .ok (.getfield 13, 3) := by decide +kernel
theorem dX6_readsChild_89 : decode cX6_readsChild 89 = .ok (.iload_n 1, 1) := by decide +kernel
theorem dX6_readsChild_90 : decode cX6_readsChild 90 = .ok (.iload_n 2, 1) := by decide +kernel
theorem dX6_readsChild_91 : decode cX6_readsChild 91 = .ok (.iload_n 3, 1) := by decide +kernel
theorem dX6_readsChild_92 : decode cX6_readsChild 92 = .ok (.aload_n 0, 1) := by decide +kernel
theorem dX6_readsChild_93 : decode cX6_readsChild 93 = .ok (.getfield 104, 3) := by decide +kernel
theorem dX6_readsChild_96 : decode cX6_readsChild 96 = .ok (.invokestatic 83, 3) := by decide +kernel
theorem dX6_readsChild_99 : decode cX6_readsChild 99 = .ok (.iconst 1, 1) := by decide +kernel
theorem dX6_readsChild_100 : decode cX6_readsChild 100 = .ok (.ireturn, 1) := by decide +kernel
theorem dX6_lesser_0 : decode cX6_lesser 0 = .ok (.iload_n 0, 1) := by decide +kernel
theorem dX6_lesser_1 : decode cX6_lesser 1 = .ok (.iload_n 1, 1) := by decide +kernel
theorem dX6_lesser_2 : decode cX6_lesser 2 = .ok (.if_icmp .le 9, 3) := by decide +kernel
theorem dX6_lesser_5 : decode cX6_lesser 5 = .ok (.iload_n 0, 1) := by decide +kernel
theorem dX6_lesser_6 : decode cX6_lesser 6 = .ok (.iload_n 1, 1) := by decide +kernel
theorem dX6_lesser_7 : decode cX6_lesser 7 = .ok (.isub, 1) := by decide +kernel
theorem dX6_lesser_8 : decode cX6_lesser 8 = .ok (.goto 4, 3) := by decide +kernel
theorem dX6_lesser_11 : decode cX6_lesser 11 = .ok (.iconst 0, 1) := by decide +kernel
theorem dX6_lesser_12 : decode cX6_lesser 12 = .ok (.ireturn, 1) := by decide +kernel
theorem dX6_readsCarrot_0 : decode cX6_readsCarrot 0 = .ok (.aload_n 0, 1) := by decide +kernel
theorem dX6_readsCarrot_1 : decode cX6_readsCarrot 1 = .ok (.invokevirtual 122, 3) := by decide +kernel
theorem dX6_readsCarrot_4 : decode cX6_readsCarrot 4 = .ok (.aload_n 0, 1) := by decide +kernel
theorem dX6_readsCarrot_5 : decode cX6_readsCarrot 5 = .ok (.getfield 115, 3) := by decide +kernel
theorem dX6_readsCarrot_8 : decode cX6_readsCarrot 8 = .ok (.iconst 2, 1) := by decide +kernel
theorem dX6_readsCarrot_9 : decode cX6_readsCarrot 9 = .ok (.if_icmp .ne 17, 3) := by decide +kernel
theorem dX6_readsCarrot_12 : decode cX6_readsCarrot 12 = .ok (.aload_n 0, 1) := by decide +kernel
theorem dX6_readsCarrot_13 : decode cX6_readsCarrot 13 = .ok (.getfield 104, 3) := by decide +kernel
theorem dX6_readsCarrot_16 : decode cX6_readsCarrot 16 = .ok (.aload_n 0, 1) := by decide +kernel
theorem dX6_readsCarrot_17 : decode cX6_readsCarrot 17 = .ok (.getfield 13, 3) := by decide +kernel
theorem dX6_readsCarrot_20 : decode cX6_readsCarrot 20 = .ok (.bipush 22, 2) := by decide +kernel
theorem dX6_readsCarrot_22 : decode cX6_readsCarrot 22 = .ok (.iaload, 1) := by decide +kernel
theorem dX6_readsCarrot_23 : decode cX6_readsCarrot 23 = .ok (.if_icmp .lt 5, 3) := by decide +kernel
theorem dX6_readsCarrot_26 : decode cX6_readsCarrot 26 = .ok (.iconst 0, 1) := by decide +kernel
theorem dX6_readsCarrot_27 : decode cX6_readsCarrot 27 = .ok (.ireturn, 1) := by decide +kernel
theorem dX6_readsCarrot_28 : decode cX6_readsCarrot 28 = .ok (.aload_n 0, 1) := by decide +kernel
theorem dX6_readsCarrot_29 : decode cX6_readsCarrot 29 = .ok (.getfield 13, 3) := by decide +kernel
theorem dX6_readsCarrot_32 : decode cX6_readsCarrot 32 = .ok (.bipush 6, 2) := by decide +kernel
theorem dX6_readsCarrot_34 : decode cX6_readsCarrot 34 = .ok (.aload_n 0, 1) := by decide +kernel
theorem dX6_readsCarrot_35 : decode cX6_readsCarrot 35 = .ok (.getfield 104, 3) := by decide +kernel
theorem dX6_readsCarrot_38 : decode cX6_readsCarrot 38 = .ok (.iadd, 1) := by decide +kernel
theorem dX6_readsCarrot_39 : decode cX6_readsCarrot 39 = .ok (.aload_n 0, 1) := by decide +kernel
theorem dX6_readsCarrot_40 : decode cX6_readsCarrot 40 = .ok (.getfield 13, 3) := by decide +kernel
theorem dX6_readsCarrot_43 : decode cX6_readsCarrot 43 = .ok (.bipush 6, 2) := by decide +kernel
theorem dX6_readsCarrot_45 : decode cX6_readsCarrot 45 = .ok (.aload_n 0, 1) := by decide +kernel
theorem dX6_readsCarrot_46 : decode cX6_readsCarrot 46 = .ok (.getfield 104, 3) := by decide +kernel
theorem dX6_readsCarrot_49 : decode cX6_readsCarrot 49 = .ok (.iadd, 1) := by decide +kernel
theorem dX6_readsCarrot_50 : decode cX6_readsCarrot 50 = .ok (.iaload, 1) := by decide +kernel
theorem dX6_readsCarrot_51 : decode cX6_readsCarrot 51 = .ok (.bipush 10, 2) := by decide +kernel
theorem dX6_readsCarrot_53 : decode cX6_readsCarrot 53 = .ok (.invokestatic 128, 3) := by decide +kernel
theorem dX6_readsCarrot_56 : decode cX6_readsCarrot 56 = .ok (.iastore, 1) := by decide +kernel
theorem dX6_readsCarrot_57 : decode cX6_readsCarrot 57 = .ok (.iconst 1, 1) := by decide +kernel
theorem dX6_readsCarrot_58 : decode cX6_readsCarrot 58 = .ok (.ireturn, 1) := by decide +kernel
theorem dX6_readsItem_0 : decode cX6_readsItem 0 = .ok (.aload_n 0, 1) := by decide +kernel
theorem dX6_readsItem_1 : decode cX6_readsItem 1 = .ok (.getfield 115, 3) := by decide +kernel
theorem dX6_readsItem_4 : decode cX6_readsItem 4 = .ok (.iconst 1, 1) := by decide +kernel
theorem dX6_readsItem_5 : decode cX6_readsItem 5 = .ok (.if_icmp .eq 5, 3) := by decide +kernel
theorem dX6_readsItem_8 : decode cX6_readsItem 8 = .ok (.iconst 0, 1) := by decide +kernel
theorem dX6_readsItem_9 : decode cX6_readsItem 9 = .ok (.ireturn, 1) := by decide +kernel
theorem dX6_readsItem_10 : decode cX6_readsItem 10 = .ok (.aload_n 0, 1) := by decide +kernel
theorem dX6_readsItem_11 : decode cX6_readsItem 11 = .ok (.getfield 101, 3) := by decide +kernel
theorem dX6_readsItem_14 : decode cX6_readsItem 14 = .ok (.lstore_n 2, 1) := by decide +kernel
theorem dX6_readsItem_15 : decode cX6_readsItem 15 = .ok (.lload_n 2, 1) := by decide +kernel
theorem dX6_readsItem_16 : decode cX6_readsItem 16 = .ok (.ldc2_w 132, 3) := by decide +kernel
theorem dX6_readsItem_19 : decode cX6_readsItem 19 = .ok (.lcmp, 1) := by decide +kernel
theorem dX6_readsItem_20 : decode cX6_readsItem 20 = .ok (.ifCond .ne 20, 3) := by decide +kernel
theorem dX6_readsItem_23 : decode cX6_readsItem 23 = .ok (.iload_n 1, 1) := by decide +kernel
theorem dX6_readsItem_24 : decode cX6_readsItem 24 = .ok (.ifCond .eq 14, 3) := by decide +kernel
theorem dX6_readsItem_27 : decode cX6_readsItem 27 = .ok (.aload_n 0, 1) := by decide +kernel
theorem dX6_readsItem_28 : decode cX6_readsItem 28 = .ok (.invokevirtual 134, 3) := by decide +kernel
theorem dX6_readsItem_31 : decode cX6_readsItem 31 = .ok (.ifCond .eq 7, 3) := by decide +kernel
theorem dX6_readsItem_34 : decode cX6_readsItem 34 = .ok (.iconst 1, 1) := by decide +kernel
theorem dX6_readsItem_35 : decode cX6_readsItem 35 = .ok (.goto 4, 3) := by decide +kernel
theorem dX6_readsItem_38 : decode cX6_readsItem 38 = .ok (.iconst 0, 1) := by decide +kernel
theorem dX6_readsItem_39 : decode cX6_readsItem 39 = .ok (.ireturn, 1) := by decide +kernel
theorem dX6_readsItem_40 : decode cX6_readsItem 40 = .ok (.iload_n 1, 1) := by decide +kernel
theorem dX6_readsItem_41 : decode cX6_readsItem 41 = .ok (.ifCond .eq 5, 3) := by decide +kernel
theorem dX6_readsItem_44 : decode cX6_readsItem 44 = .ok (.iconst 0, 1) := by decide +kernel
theorem dX6_readsItem_45 : decode cX6_readsItem 45 = .ok (.ireturn, 1) := by decide +kernel
theorem dX6_readsItem_46 : decode cX6_readsItem 46 = .ok (.lload_n 2, 1) := by decide +kernel
theorem dX6_readsItem_47 : decode cX6_readsItem 47 = .ok (.ldc2_w 138, 3) := by decide +kernel
theorem dX6_readsItem_50 : decode cX6_readsItem 50 = .ok (.lcmp, 1) := by decide +kernel
theorem dX6_readsItem_51 : decode cX6_readsItem 51 = .ok (.ifCond .ne 10, 3) := by decide +kernel
theorem dX6_readsItem_54 : decode cX6_readsItem 54 = .ok (.aload_n 0, 1) := by decide +kernel
theorem dX6_readsItem_55 : decode cX6_readsItem 55 = .ok (.invokevirtual 140, 3) := by decide +kernel
theorem dX6_readsItem_58 : decode cX6_readsItem 58 = .ok (.goto 23, 3) := by decide +kernel
theorem dX6_readsItem_61 : decode cX6_readsItem 61 = .ok (.lload_n 2, 1) := by decide +kernel
theorem dX6_readsItem_62 : decode cX6_readsItem 62 = .ok (.ldc2_w 143, 3) := by decide +kernel
theorem dX6_readsItem_65 : decode cX6_readsItem 65 = .ok (.lcmp, 1) := by decide +kernel
theorem dX6_readsItem_66 : decode cX6_readsItem 66 = .ok (.ifCond .ne 14, 3) := by decide +kernel
theorem dX6_readsItem_69 : decode cX6_readsItem 69 = .ok (.aload_n 0, 1) := by decide +kernel
theorem dX6_readsItem_70 : decode cX6_readsItem 70 = .ok (.invokevirtual 145, 3) := by decide +kernel
theorem dX6_readsItem_73 : decode cX6_readsItem 73 = .ok (.ifCond .eq 7, 3) := by decide +kernel
theorem dX6_readsItem_76 : decode cX6_readsItem 76 = .ok (.iconst 1, 1) := by decide +kernel
theorem dX6_readsItem_77 : decode cX6_readsItem 77 = .ok (.goto 4, 3) := by decide +kernel
theorem dX6_readsItem_80 : decode cX6_readsItem 80 = .ok (.iconst 0, 1) := by decide +kernel
theorem dX6_readsItem_81 : decode cX6_readsItem 81 = .ok (.ireturn, 1) := by decide +kernel
theorem dX6_read_0 : decode cX6_read 0 = .ok (.aload_n 0, 1) := by decide +kernel
theorem dX6_read_1 : decode cX6_read 1 = .ok (.getfield 13, 3) := by decide +kernel
theorem dX6_read_4 : decode cX6_read 4 = .ok (.iconst 0, 1) := by decide +kernel
theorem dX6_read_5 : decode cX6_read 5 = .ok (.invokestatic 39, 3) := by decide +kernel
theorem dX6_read_8 : decode cX6_read 8 = .ok (.aload_n 0, 1) := by decide +kernel
theorem dX6_read_9 : decode cX6_read 9 = .ok (.iconst 0, 1) := by decide +kernel
theorem dX6_read_10 : decode cX6_read 10 = .ok (.putfield 92, 3) := by decide +kernel
theorem dX6_read_13 : decode cX6_read 13 = .ok (.iconst 0, 1) := by decide +kernel
theorem dX6_read_14 : decode cX6_read 14 = .ok (.istore_n 1, 1) := by decide +kernel
theorem dX6_read_15 : decode cX6_read 15 = .ok (.aload_n 0, 1) := by decide +kernel
theorem dX6_read_16 : decode cX6_read 16 = .ok (.invokevirtual 122, 3) := by decide +kernel
theorem dX6_read_19 : decode cX6_read 19 = .ok (.iload_n 1, 1) := by decide +kernel
theorem dX6_read_20 : decode cX6_read 20 = .ok (.ifCond .eq 10, 3) := by decide +kernel
theorem dX6_read_23 : decode cX6_read 23 = .ok (.aload_n 0, 1) := by decide +kernel
theorem dX6_read_24 : decode cX6_read 24 = .ok (.getfield 115, 3) := by decide +kernel
theorem dX6_read_27 : decode cX6_read 27 = .ok (.ifCond .eq 57, 3) := by decide +kernel
theorem dX6_read_30 : decode cX6_read 30 = .ok (.aload_n 0, 1) := by decide +kernel
theorem dX6_read_31 : decode cX6_read 31 = .ok (.iload_n 1, 1) := by decide +kernel
theorem dX6_read_32 : decode cX6_read 32 = .ok (.ifCond .ne 7, 3) := by decide +kernel
theorem dX6_read_35 : decode cX6_read 35 = .ok (.iconst 1, 1) := by decide +kernel
theorem dX6_read_36 : decode cX6_read 36 = .ok (.goto 4, 3) := by decide +kernel
theorem dX6_read_39 : decode cX6_read 39 = .ok (.iconst 0, 1) := by decide +kernel
theorem dX6_read_40 : decode cX6_read 40 = .ok (.invokevirtual 148, 3) := by decide +kernel
theorem dX6_read_43 : decode cX6_read 43 = .ok (.ifCond .ne 11, 3) := by decide +kernel
theorem dX6_read_46 : decode cX6_read 46 = .ok (.bipush (-10), 2) := by decide +kernel
theorem dX6_read_48 : decode cX6_read 48 = .ok (.aload_n 0, 1) := by decide +kernel
theorem dX6_read_49 : decode cX6_read 49 = .ok (.getfield 98, 3) := by decide +kernel
theorem dX6_read_52 : decode cX6_read 52 = .ok (.isub, 1) := by decide +kernel
theorem dX6_read_53 : decode cX6_read 53 = .ok (.ireturn, 1) := by decide +kernel
theorem dX6_read_54 : decode cX6_read 54 = .ok (.aload_n 0, 1) := by decide +kernel
theorem dX6_read_55 : decode cX6_read 55 = .ok (.invokevirtual 122, 3) := by decide +kernel
theorem dX6_read_58 : decode cX6_read 58 = .ok (.aload_n 0, 1) := by decide +kernel
theorem dX6_read_59 : decode cX6_read 59 = .ok (.getfield 115, 3) := by decide +kernel
theorem dX6_read_62 : decode cX6_read 62 = .ok (.iconst 3, 1) := by decide +kernel
theorem dX6_read_63 : decode cX6_read 63 = .ok (.if_icmp .eq 11, 3) := by decide +kernel
theorem dX6_read_66 : decode cX6_read 66 = .ok (.bipush (-10), 2) := by decide +kernel
theorem dX6_read_68 : decode cX6_read 68 = .ok (.aload_n 0, 1) := by decide +kernel
theorem dX6_read_69 : decode cX6_read 69 = .ok (.getfield 98, 3) := by decide +kernel
theorem dX6_read_72 : decode cX6_read 72 = .ok (.isub, 1) := by decide +kernel
theorem dX6_read_73 : decode cX6_read 73 = .ok (.ireturn, 1) := by decide +kernel
theorem dX6_read_74 : decode cX6_read 74 = .ok (.iinc 1 1, 3) := by decide +kernel
theorem dX6_read_77 : decode cX6_read 77 = .ok (.aload_n 0, 1) := by decide +kernel
theorem dX6_read_78 : decode cX6_read 78 = .ok (.invokevirtual 122, 3) := by decide +kernel
theorem dX6_read_81 : decode cX6_read 81 = .ok (.goto (-62), 3) := by decide +kernel
theorem dX6_read_84 : decode cX6_read 84 = .ok (.aload_n 0, 1) := by decide +kernel
theorem dX6_read_85 : decode cX6_read 85 = .ok (.getfield 13, 3) := by decide +kernel
theorem dX6_read_88 : decode cX6_read 88 = .ok (.iconst 0, 1) := by decide +kernel
theorem dX6_read_89 : decode cX6_read 89 = .ok (.aload_n 0, 1) := by decide +kernel
theorem dX6_read_90 : decode cX6_read 90 = .ok (.getfield 7, 3) := by decide +kernel
theorem dX6_read_93 : decode cX6_read 93 = .ok (.iconst 0, 1) := by decide +kernel
theorem dX6_read_94 : decode cX6_read 94 = .ok (.sipush 255, 3) := by decide +kernel
theorem dX6_read_97 : decode cX6_read 97 = .ok (.invokestatic 152, 3) := by decide +kernel
theorem dX6_read_100 : decode cX6_read 100 = .ok (.iload_n 1, 1) := by decide +kernel
theorem dX6_read_101 : decode cX6_read 101 = .ok (.ireturn, 1) := by decide +kernel
theorem dX6_nearAs_0 : decode cX6_nearAs 0 = .ok (.iload_n 1, 1) := by decide +kernel
theorem dX6_nearAs_1 : decode cX6_nearAs 1 = .ok (.iconst 3, 1) := by decide +kernel
theorem dX6_nearAs_2 : decode cX6_nearAs 2 = .ok (.iload_n 2, 1) := by decide +kernel
theorem dX6_nearAs_3 : decode cX6_nearAs 3 = .ok (.imul, 1) := by decide +kernel
theorem dX6_nearAs_4 : decode cX6_nearAs 4 = .ok (.iadd, 1) := by decide +kernel
theorem dX6_nearAs_5 : decode cX6_nearAs 5 = .ok (.iload_n 3, 1) := by decide +kernel
theorem dX6_nearAs_6 : decode cX6_nearAs 6 = .ok (.iconst 2, 1) := by decide +kernel
theorem dX6_nearAs_7 : decode cX6_nearAs 7 = .ok (.idiv, 1) := by decide +kernel
theorem dX6_nearAs_8 : decode cX6_nearAs 8 = .ok (.isub, 1) := by decide +kernel
theorem dX6_nearAs_9 : decode cX6_nearAs 9 = .ok (.istore 6, 2) := by decide +kernel
theorem dX6_nearAs_11 : decode cX6_nearAs 11 = .ok (.iload 6, 2) := by decide +kernel
theorem dX6_nearAs_13 : decode cX6_nearAs 13 = .ok (.ifCond .ge 7, 3) := by decide +kernel
theorem dX6_nearAs_16 : decode cX6_nearAs 16 = .ok (.iconst 0, 1) := by decide +kernel
theorem dX6_nearAs_17 : decode cX6_nearAs 17 = .ok (.goto 5, 3) := by decide +kernel
theorem dX6_nearAs_20 : decode cX6_nearAs 20 = .ok (.iload 6, 2) := by decide +kernel
theorem dX6_nearAs_22 : decode cX6_nearAs 22 = .ok (.istore 6, 2) := by decide +kernel
theorem dX6_nearAs_24 : decode cX6_nearAs 24 = .ok (.iload 6, 2) := by decide +kernel
theorem dX6_nearAs_26 : decode cX6_nearAs 26 = .ok (.iload_n 3, 1) := by decide +kernel
theorem dX6_nearAs_27 : decode cX6_nearAs 27 = .ok (.iconst 2, 1) := by decide +kernel
theorem dX6_nearAs_28 : decode cX6_nearAs 28 = .ok (.idiv, 1) := by decide +kernel
theorem dX6_nearAs_29 : decode cX6_nearAs 29 = .ok (.invokestatic 128, 3) := by decide +kernel
theorem dX6_nearAs_32 : decode cX6_nearAs 32 = .ok (.istore 7, 2) := by decide +kernel
theorem dX6_nearAs_34 : decode cX6_nearAs 34 = .ok (.iload_n 0, 1) := by decide +kernel
theorem dX6_nearAs_35 : decode cX6_nearAs 35 = .ok (.tableswitch 67 1 5 #[33, 38, 41, 49, 62], 33) := by decide +kernel
theorem dX6_nearAs_68 : decode cX6_nearAs 68 = .ok (.iload 6, 2) := by decide +kernel
theorem dX6_nearAs_70 : decode cX6_nearAs 70 = .ok (.iconst 4, 1) := by decide +kernel
theorem dX6_nearAs_71 : decode cX6_nearAs 71 = .ok (.iadd, 1) := by decide +kernel
theorem dX6_nearAs_72 : decode cX6_nearAs 72 = .ok (.ireturn, 1) := by decide +kernel
theorem dX6_nearAs_73 : decode cX6_nearAs 73 = .ok (.iload 7, 2) := by decide +kernel
theorem dX6_nearAs_75 : decode cX6_nearAs 75 = .ok (.ireturn, 1) := by decide +kernel
theorem dX6_nearAs_76 : decode cX6_nearAs 76 = .ok (.iload 6, 2) := by decide +kernel
theorem dX6_nearAs_78 : decode cX6_nearAs 78 = .ok (.iconst 3, 1) := by decide +kernel
theorem dX6_nearAs_79 : decode cX6_nearAs 79 = .ok (.iload 5, 2) := by decide +kernel
theorem dX6_nearAs_81 : decode cX6_nearAs 81 = .ok (.imul, 1) := by decide +kernel
theorem dX6_nearAs_82 : decode cX6_nearAs 82 = .ok (.iadd, 1) := by decide +kernel
theorem dX6_nearAs_83 : decode cX6_nearAs 83 = .ok (.ireturn, 1) := by decide +kernel
theorem dX6_nearAs_84 : decode cX6_nearAs 84 = .ok (.iload 6, 2) := by decide +kernel
theorem dX6_nearAs_86 : decode cX6_nearAs 86 = .ok (.iconst 3, 1) := by decide +kernel
theorem dX6_nearAs_87 : decode cX6_nearAs 87 = .ok (.iload 5, 2) := by decide +kernel
theorem dX6_nearAs_89 : decode cX6_nearAs 89 = .ok (.imul, 1) := by decide +kernel
theorem dX6_nearAs_90 : decode cX6_nearAs 90 = .ok (.iadd, 1) := by decide +kernel
theorem dX6_nearAs_91 : decode cX6_nearAs 91 = .ok (.iconst 2, 1) := by decide +kernel
theorem dX6_nearAs_92 : decode cX6_nearAs 92 = .ok (.iload 4, 2) := by decide +kernel
theorem dX6_nearAs_94 : decode cX6_nearAs 94 = .ok (.imul, 1) := by decide +kernel
theorem dX6_nearAs_95 : decode cX6_nearAs 95 = .ok (.iadd, 1) := by decide +kernel
theorem dX6_nearAs_96 : decode cX6_nearAs 96 = .ok (.ireturn, 1) := by decide +kernel
theorem dX6_nearAs_97 : decode cX6_nearAs 97 = .ok (.iload 7, 2) := by decide +kernel
theorem dX6_nearAs_99 : decode cX6_nearAs 99 = .ok (.iconst 2, 1) := by decide +kernel
theorem dX6_nearAs_100 : decode cX6_nearAs 100 = .ok (.idiv, 1) := by decide +kernel
theorem dX6_nearAs_101 : decode cX6_nearAs 101 = .ok (.ireturn, 1) := by decide +kernel
theorem dX6_nearAs_102 : decode cX6_nearAs 102 = .ok (.iload 6, 2) := by decide +kernel
theorem dX6_nearAs_104 : decode cX6_nearAs 104 = .ok (.ireturn, 1) := by decide +kernel
theorem dX6_tight_0 : decode cX6_tight 0 = .ok (.aload_n 0, 1) := by decide +kernel
theorem dX6_tight_1 : decode cX6_tight 1 = .ok (.aload_n 0, 1) := by decide +kernel
theorem dX6_tight_2 : decode cX6_tight 2 = .ok (.iconst 0, 1) := by decide +kernel
theorem dX6_tight_3 : decode cX6_tight 3 = .ok (.iload_n 1, 1) := by decide +kernel
theorem dX6_tight_4 : decode cX6_tight 4 = .ok (.iadd, 1) := by decide +kernel
theorem dX6_tight_5 : decode cX6_tight 5 = .ok (.iaload, 1) := by decide +kernel
theorem dX6_tight_6 : decode cX6_tight 6 = .ok (.iconst 1, 1) := by decide +kernel
theorem dX6_tight_7 : decode cX6_tight 7 = .ok (.iadd, 1) := by decide +kernel
theorem dX6_tight_8 : decode cX6_tight 8 = .ok (.bipush 8, 2) := by decide +kernel
theorem dX6_tight_10 : decode cX6_tight 10 = .ok (.irem, 1) := by decide +kernel
theorem dX6_tight_11 : decode cX6_tight 11 = .ok (.invokestatic 73, 3) := by decide +kernel
theorem dX6_tight_14 : decode cX6_tight 14 = .ok (.istore_n 2, 1) := by decide +kernel
theorem dX6_tight_15 : decode cX6_tight 15 = .ok (.aload_n 0, 1) := by decide +kernel
theorem dX6_tight_16 : decode cX6_tight 16 = .ok (.aload_n 0, 1) := by decide +kernel
theorem dX6_tight_17 : decode cX6_tight 17 = .ok (.iconst 0, 1) := by decide +kernel
theorem dX6_tight_18 : decode cX6_tight 18 = .ok (.iload_n 1, 1) := by decide +kernel
theorem dX6_tight_19 : decode cX6_tight 19 = .ok (.iadd, 1) := by decide +kernel
theorem dX6_tight_20 : decode cX6_tight 20 = .ok (.iaload, 1) := by decide +kernel
theorem dX6_tight_21 : decode cX6_tight 21 = .ok (.bipush 7, 2) := by decide +kernel
theorem dX6_tight_23 : decode cX6_tight 23 = .ok (.iadd, 1) := by decide +kernel
theorem dX6_tight_24 : decode cX6_tight 24 = .ok (.bipush 8, 2) := by decide +kernel
theorem dX6_tight_26 : decode cX6_tight 26 = .ok (.irem, 1) := by decide +kernel
theorem dX6_tight_27 : decode cX6_tight 27 = .ok (.invokestatic 73, 3) := by decide +kernel
theorem dX6_tight_30 : decode cX6_tight 30 = .ok (.istore_n 3, 1) := by decide +kernel
theorem dX6_tight_31 : decode cX6_tight 31 = .ok (.iload_n 2, 1) := by decide +kernel
theorem dX6_tight_32 : decode cX6_tight 32 = .ok (.iconst (-1), 1) := by decide +kernel
theorem dX6_tight_33 : decode cX6_tight 33 = .ok (.if_icmp .ne 7, 3) := by decide +kernel
theorem dX6_tight_36 : decode cX6_tight 36 = .ok (.iconst 0, 1) := by decide +kernel
theorem dX6_tight_37 : decode cX6_tight 37 = .ok (.goto 4, 3) := by decide +kernel
theorem dX6_tight_40 : decode cX6_tight 40 = .ok (.iconst 1, 1) := by decide +kernel
theorem dX6_tight_41 : decode cX6_tight 41 = .ok (.iload_n 3, 1) := by decide +kernel
theorem dX6_tight_42 : decode cX6_tight 42 = .ok (.iconst (-1), 1) := by decide +kernel
theorem dX6_tight_43 : decode cX6_tight 43 = .ok (.if_icmp .ne 7, 3) := by decide +kernel
theorem dX6_tight_46 : decode cX6_tight 46 = .ok (.iconst 0, 1) := by decide +kernel
theorem dX6_tight_47 : decode cX6_tight 47 = .ok (.goto 4, 3) := by decide +kernel
theorem dX6_tight_50 : decode cX6_tight 50 = .ok (.iconst 1, 1) := by decide +kernel
theorem dX6_tight_51 : decode cX6_tight 51 = .ok (.iadd, 1) := by decide +kernel
theorem dX6_tight_52 : decode cX6_tight 52 = .ok (.ireturn, 1) := by decide +kernel
theorem dX6_nearOf_0 : decode cX6_nearOf 0 = .ok (.aload_n 0, 1) := by decide +kernel
theorem dX6_nearOf_1 : decode cX6_nearOf 1 = .ok (.bipush 23, 2) := by decide +kernel
theorem dX6_nearOf_3 : decode cX6_nearOf 3 = .ok (.iload_n 1, 1) := by decide +kernel
theorem dX6_nearOf_4 : decode cX6_nearOf 4 = .ok (.iadd, 1) := by decide +kernel
theorem dX6_nearOf_5 : decode cX6_nearOf 5 = .ok (.iaload, 1) := by decide +kernel
theorem dX6_nearOf_6 : decode cX6_nearOf 6 = .ok (.aload_n 0, 1) := by decide +kernel
theorem dX6_nearOf_7 : decode cX6_nearOf 7 = .ok (.bipush 6, 2) := by decide +kernel
theorem dX6_nearOf_9 : decode cX6_nearOf 9 = .ok (.iload_n 1, 1) := by decide +kernel
theorem dX6_nearOf_10 : decode cX6_nearOf 10 = .ok (.iadd, 1) := by decide +kernel
theorem dX6_nearOf_11 : decode cX6_nearOf 11 = .ok (.iaload, 1) := by decide +kernel
theorem dX6_nearOf_12 : decode cX6_nearOf 12 = .ok (.aload_n 0, 1) := by decide +kernel
theorem dX6_nearOf_13 : decode cX6_nearOf 13 = .ok (.iload_n 1, 1) := by decide +kernel
theorem dX6_nearOf_14 : decode cX6_nearOf 14 = .ok (.invokestatic 156, 3) := by decide +kernel
theorem dX6_nearOf_17 : decode cX6_nearOf 17 = .ok (.aload_n 0, 1) := by decide +kernel
theorem dX6_nearOf_18 : decode cX6_nearOf 18 = .ok (.bipush 29, 2) := by decide +kernel
theorem dX6_nearOf_20 : decode cX6_nearOf 20 = .ok (.iload_n 1, 1) := by decide +kernel
theorem dX6_nearOf_21 : decode cX6_nearOf 21 = .ok (.iadd, 1) := by decide +kernel
theorem dX6_nearOf_22 : decode cX6_nearOf 22 = .ok (.iaload, 1) := by decide +kernel
theorem dX6_nearOf_23 : decode cX6_nearOf 23 = .ok (.aload_n 0, 1) := by decide +kernel
theorem dX6_nearOf_24 : decode cX6_nearOf 24 = .ok (.bipush 12, 2) := by decide +kernel
theorem dX6_nearOf_26 : decode cX6_nearOf 26 = .ok (.iload_n 1, 1) := by decide +kernel
theorem dX6_nearOf_27 : decode cX6_nearOf 27 = .ok (.iadd, 1) := by decide +kernel
theorem dX6_nearOf_28 : decode cX6_nearOf 28 = .ok (.iaload, 1) := by decide +kernel
theorem dX6_nearOf_29 : decode cX6_nearOf 29 = .ok (.aload_n 0, 1) := by decide +kernel
theorem dX6_nearOf_30 : decode cX6_nearOf 30 = .ok (.bipush 19, 2) := by decide +kernel
theorem dX6_nearOf_32 : decode cX6_nearOf 32 = .ok (.iaload, 1) := by decide +kernel
theorem dX6_nearOf_33 : decode cX6_nearOf 33 = .ok (.invokestatic 159, 3) := by decide +kernel
theorem dX6_nearOf_36 : decode cX6_nearOf 36 = .ok (.ireturn, 1) := by decide +kernel
theorem dX6_whom_0 : decode cX6_whom 0 = .ok (.aload_n 0, 1) := by decide +kernel
theorem dX6_whom_1 : decode cX6_whom 1 = .ok (.aload_n 0, 1) := by decide +kernel
theorem dX6_whom_2 : decode cX6_whom 2 = .ok (.iconst 0, 1) := by decide +kernel
theorem dX6_whom_3 : decode cX6_whom 3 = .ok (.iload_n 1, 1) := by decide +kernel
theorem dX6_whom_4 : decode cX6_whom 4 = .ok (.iadd, 1) := by decide +kernel
theorem dX6_whom_5 : decode cX6_whom 5 = .ok (.iaload, 1) := by decide +kernel
theorem dX6_whom_6 : decode cX6_whom 6 = .ok (.iconst 1, 1) := by decide +kernel
theorem dX6_whom_7 : decode cX6_whom 7 = .ok (.iadd, 1) := by decide +kernel
theorem dX6_whom_8 : decode cX6_whom 8 = .ok (.bipush 8, 2) := by decide +kernel
theorem dX6_whom_10 : decode cX6_whom 10 = .ok (.irem, 1) := by decide +kernel
theorem dX6_whom_11 : decode cX6_whom 11 = .ok (.invokestatic 73, 3) := by decide +kernel
theorem dX6_whom_14 : decode cX6_whom 14 = .ok (.istore_n 2, 1) := by decide +kernel
theorem dX6_whom_15 : decode cX6_whom 15 = .ok (.iload_n 2, 1) := by decide +kernel
theorem dX6_whom_16 : decode cX6_whom 16 = .ok (.iconst (-1), 1) := by decide +kernel
theorem dX6_whom_17 : decode cX6_whom 17 = .ok (.if_icmp .ne 21, 3) := by decide +kernel
theorem dX6_whom_20 : decode cX6_whom 20 = .ok (.aload_n 0, 1) := by decide +kernel
theorem dX6_whom_21 : decode cX6_whom 21 = .ok (.aload_n 0, 1) := by decide +kernel
theorem dX6_whom_22 : decode cX6_whom 22 = .ok (.iconst 0, 1) := by decide +kernel
theorem dX6_whom_23 : decode cX6_whom 23 = .ok (.iload_n 1, 1) := by decide +kernel
theorem dX6_whom_24 : decode cX6_whom 24 = .ok (.iadd, 1) := by decide +kernel
theorem dX6_whom_25 : decode cX6_whom 25 = .ok (.iaload, 1) := by decide +kernel
theorem dX6_whom_26 : decode cX6_whom 26 = .ok (.bipush 7, 2) := by decide +kernel
theorem dX6_whom_28 : decode cX6_whom 28 = .ok (.iadd, 1) := by decide +kernel
theorem dX6_whom_29 : decode cX6_whom 29 = .ok (.bipush 8, 2) := by decide +kernel
theorem dX6_whom_31 : decode cX6_whom 31 = .ok (.irem, 1) := by decide +kernel
theorem dX6_whom_32 : decode cX6_whom 32 = .ok (.invokestatic 73, 3) := by decide +kernel
theorem dX6_whom_35 : decode cX6_whom 35 = .ok (.goto 4, 3) := by decide +kernel
theorem dX6_whom_38 : decode cX6_whom 38 = .ok (.iload_n 2, 1) := by decide +kernel
theorem dX6_whom_39 : decode cX6_whom 39 = .ok (.ireturn, 1) := by decide +kernel
theorem dX6_isGuarded_0 : decode cX6_isGuarded 0 = .ok (.aload_n 0, 1) := by decide +kernel
theorem dX6_isGuarded_1 : decode cX6_isGuarded 1 = .ok (.iconst 0, 1) := by decide +kernel
theorem dX6_isGuarded_2 : decode cX6_isGuarded 2 = .ok (.iload_n 1, 1) := by decide +kernel
theorem dX6_isGuarded_3 : decode cX6_isGuarded 3 = .ok (.iadd, 1) := by decide +kernel
theorem dX6_isGuarded_4 : decode cX6_isGuarded 4 = .ok (.iaload, 1) := by decide +kernel
theorem dX6_isGuarded_5 : decode cX6_isGuarded 5 = .ok (.bipush 8, 2) := by decide +kernel
theorem dX6_isGuarded_7 : decode cX6_isGuarded 7 = .ok (.iadd, 1) := by decide +kernel
theorem dX6_isGuarded_8 : decode cX6_isGuarded 8 = .ok (.aload_n 0, 1) := by decide +kernel
theorem dX6_isGuarded_9 : decode cX6_isGuarded 9 = .ok (.bipush 20, 2) := by decide +kernel
theorem dX6_isGuarded_11 : decode cX6_isGuarded 11 = .ok (.iaload, 1) := by decide +kernel
theorem dX6_isGuarded_12 : decode cX6_isGuarded 12 = .ok (.isub, 1) := by decide +kernel
theorem dX6_isGuarded_13 : decode cX6_isGuarded 13 = .ok (.bipush 8, 2) := by decide +kernel
theorem dX6_isGuarded_15 : decode cX6_isGuarded 15 = .ok (.irem, 1) := by decide +kernel
theorem dX6_isGuarded_16 : decode cX6_isGuarded 16 = .ok (.istore_n 2, 1) := by decide +kernel
theorem dX6_isGuarded_17 : decode cX6_isGuarded 17 = .ok (.iload_n 2, 1) := by decide +kernel
theorem dX6_isGuarded_18 : decode cX6_isGuarded 18 = .ok (.ifCond .eq 14, 3) := by decide +kernel
theorem dX6_isGuarded_21 : decode cX6_isGuarded 21 = .ok (.iload_n 2, 1) := by decide +kernel
theorem dX6_isGuarded_22 : decode cX6_isGuarded 22 = .ok (.iconst 1, 1) := by decide +kernel
theorem dX6_isGuarded_23 : decode cX6_isGuarded 23 = .ok (.if_icmp .eq 9, 3) := by decide +kernel
theorem dX6_isGuarded_26 : decode cX6_isGuarded 26 = .ok (.iload_n 2, 1) := by decide +kernel
theorem dX6_isGuarded_27 : decode cX6_isGuarded 27 = .ok (.bipush 7, 2) := by decide +kernel
theorem dX6_isGuarded_29 : decode cX6_isGuarded 29 = .ok (.if_icmp .ne 7, 3) := by decide +kernel
theorem dX6_isGuarded_32 : decode cX6_isGuarded 32 = .ok (.iconst 1, 1) := by decide +kernel
theorem dX6_isGuarded_33 : decode cX6_isGuarded 33 = .ok (.goto 4, 3) := by decide +kernel
theorem dX6_isGuarded_36 : decode cX6_isGuarded 36 = .ok (.iconst 0, 1) := by decide +kernel
theorem dX6_isGuarded_37 : decode cX6_isGuarded 37 = .ok (.ireturn, 1) := by decide +kernel
theorem dX6_bites_0 : decode cX6_bites 0 = .ok (.aload_n 0, 1) := by decide +kernel
theorem dX6_bites_1 : decode cX6_bites 1 = .ok (.iload_n 1, 1) := by decide +kernel
theorem dX6_bites_2 : decode cX6_bites 2 = .ok (.invokestatic 163, 3) := by decide +kernel
theorem dX6_bites_5 : decode cX6_bites 5 = .ok (.bipush 11, 2) := by decide +kernel
theorem dX6_bites_7 : decode cX6_bites 7 = .ok (.if_icmp .le 24, 3) := by decide +kernel
theorem dX6_bites_10 : decode cX6_bites 10 = .ok (.aload_n 0, 1) := by decide +kernel
theorem dX6_bites_11 : decode cX6_bites 11 = .ok (.iload_n 1, 1) := by decide +kernel
theorem dX6_bites_12 : decode cX6_bites 12 = .ok (.invokestatic 166, 3) := by decide +kernel
theorem dX6_bites_15 : decode cX6_bites 15 = .ok (.ifCond .ne 16, 3) := by decide +kernel
theorem dX6_bites_18 : decode cX6_bites 18 = .ok (.aload_n 0, 1) := by decide +kernel
theorem dX6_bites_19 : decode cX6_bites 19 = .ok (.iload_n 1, 1) := by decide +kernel
theorem dX6_bites_20 : decode cX6_bites 20 = .ok (.invokestatic 170, 3) := by decide +kernel
theorem dX6_bites_23 : decode cX6_bites 23 = .ok (.iconst (-1), 1) := by decide +kernel
theorem dX6_bites_24 : decode cX6_bites 24 = .ok (.if_icmp .eq 7, 3) := by decide +kernel
theorem dX6_bites_27 : decode cX6_bites 27 = .ok (.iconst 1, 1) := by decide +kernel
theorem dX6_bites_28 : decode cX6_bites 28 = .ok (.goto 4, 3) := by decide +kernel
theorem dX6_bites_31 : decode cX6_bites 31 = .ok (.iconst 0, 1) := by decide +kernel
theorem dX6_bites_32 : decode cX6_bites 32 = .ok (.ireturn, 1) := by decide +kernel
theorem dX6_biters_0 : decode cX6_biters 0 = .ok (.iconst 0, 1) := by decide +kernel
theorem dX6_biters_1 : decode cX6_biters 1 = .ok (.istore_n 1, 1) := by decide +kernel
theorem dX6_biters_2 : decode cX6_biters 2 = .ok (.iconst 0, 1) := by decide +kernel
theorem dX6_biters_3 : decode cX6_biters 3 = .ok (.istore_n 2, 1) := by decide +kernel
theorem dX6_biters_4 : decode cX6_biters 4 = .ok (.iload_n 2, 1) := by decide +kernel
theorem dX6_biters_5 : decode cX6_biters 5 = .ok (.aload_n 0, 1) := by decide +kernel
theorem dX6_biters_6 : decode cX6_biters 6 = .ok (.bipush 22, 2) := by decide +kernel
theorem dX6_biters_8 : decode cX6_biters 8 = .ok (.iaload, 1) := by decide +kernel
theorem dX6_biters_9 : decode cX6_biters 9 = .ok (.if_icmp .ge 27, 3) := by decide +kernel
theorem dX6_biters_12 : decode cX6_biters 12 = .ok (.iload_n 1, 1) := by decide +kernel
theorem dX6_biters_13 : decode cX6_biters 13 = .ok (.aload_n 0, 1) := by decide +kernel
theorem dX6_biters_14 : decode cX6_biters 14 = .ok (.iload_n 2, 1) := by decide +kernel
theorem dX6_biters_15 : decode cX6_biters 15 = .ok (.invokestatic 173, 3) := by decide +kernel
theorem dX6_biters_18 : decode cX6_biters 18 = .ok (.ifCond .eq 9, 3) := by decide +kernel
theorem dX6_biters_21 : decode cX6_biters 21 = .ok (.iconst 1, 1) := by decide +kernel
theorem dX6_biters_22 : decode cX6_biters 22 = .ok (.iload_n 2, 1) := by decide +kernel
theorem dX6_biters_23 : decode cX6_biters 23 = .ok (.ishl, 1) := by decide +kernel
theorem dX6_biters_24 : decode cX6_biters 24 = .ok (.goto 4, 3) := by decide +kernel
theorem dX6_biters_27 : decode cX6_biters 27 = .ok (.iconst 0, 1) := by decide +kernel
theorem dX6_biters_28 : decode cX6_biters 28 = .ok (.ior, 1) := by decide +kernel
theorem dX6_biters_29 : decode cX6_biters 29 = .ok (.istore_n 1, 1) := by decide +kernel
theorem dX6_biters_30 : decode cX6_biters 30 = .ok (.iinc 2 1, 3) := by decide +kernel
theorem dX6_biters_33 : decode cX6_biters 33 = .ok (.goto (-29), 3) := by decide +kernel
theorem dX6_biters_36 : decode cX6_biters 36 = .ok (.iload_n 1, 1) := by decide +kernel
theorem dX6_biters_37 : decode cX6_biters 37 = .ok (.ireturn, 1) := by decide +kernel
theorem dX6_goes_0 : decode cX6_goes 0 = .ok (.aload_n 0, 1) := by decide +kernel
theorem dX6_goes_1 : decode cX6_goes 1 = .ok (.invokestatic 176, 3) := by decide +kernel
theorem dX6_goes_4 : decode cX6_goes 4 = .ok (.istore_n 1, 1) := by decide +kernel
theorem dX6_goes_5 : decode cX6_goes 5 = .ok (.iconst 0, 1) := by decide +kernel
theorem dX6_goes_6 : decode cX6_goes 6 = .ok (.istore_n 2, 1) := by decide +kernel
theorem dX6_goes_7 : decode cX6_goes 7 = .ok (.iload_n 2, 1) := by decide +kernel
theorem dX6_goes_8 : decode cX6_goes 8 = .ok (.aload_n 0, 1) := by decide +kernel
theorem dX6_goes_9 : decode cX6_goes 9 = .ok (.bipush 22, 2) := by decide +kernel
theorem dX6_goes_11 : decode cX6_goes 11 = .ok (.iaload, 1) := by decide +kernel
theorem dX6_goes_12 : decode cX6_goes 12 = .ok (.if_icmp .ge 73, 3) := by decide +kernel
theorem dX6_goes_15 : decode cX6_goes 15 = .ok (.iload_n 1, 1) := by decide +kernel
theorem dX6_goes_16 : decode cX6_goes 16 = .ok (.iload_n 2, 1) := by decide +kernel
theorem dX6_goes_17 : decode cX6_goes 17 = .ok (.invokestatic 180, 3) := by decide +kernel
theorem dX6_goes_20 : decode cX6_goes 20 = .ok (.ifCond .eq 34, 3) := by decide +kernel
theorem dX6_goes_23 : decode cX6_goes 23 = .ok (.aload_n 0, 1) := by decide +kernel
theorem dX6_goes_24 : decode cX6_goes 24 = .ok (.bipush 12, 2) := by decide +kernel
theorem dX6_goes_26 : decode cX6_goes 26 = .ok (.aload_n 0, 1) := by decide +kernel
theorem dX6_goes_27 : decode cX6_goes 27 = .ok (.iload_n 2, 1) := by decide +kernel
theorem dX6_goes_28 : decode cX6_goes 28 = .ok (.invokestatic 170, 3) := by decide +kernel
theorem dX6_goes_31 : decode cX6_goes 31 = .ok (.iadd, 1) := by decide +kernel
theorem dX6_goes_32 : decode cX6_goes 32 = .ok (.dup2, 1) := by decide +kernel
theorem dX6_goes_33 : decode cX6_goes 33 = .ok (.iaload, 1) := by decide +kernel
theorem dX6_goes_34 : decode cX6_goes 34 = .ok (.iconst 1, 1) := by decide +kernel
theorem dX6_goes_35 : decode cX6_goes 35 = .ok (.iadd, 1) := by decide +kernel
theorem dX6_goes_36 : decode cX6_goes 36 = .ok (.iastore, 1) := by decide +kernel
theorem dX6_goes_37 : decode cX6_goes 37 = .ok (.aload_n 0, 1) := by decide +kernel
theorem dX6_goes_38 : decode cX6_goes 38 = .ok (.bipush 6, 2) := by decide +kernel
theorem dX6_goes_40 : decode cX6_goes 40 = .ok (.iload_n 2, 1) := by decide +kernel
theorem dX6_goes_41 : decode cX6_goes 41 = .ok (.iadd, 1) := by decide +kernel
theorem dX6_goes_42 : decode cX6_goes 42 = .ok (.aload_n 0, 1) := by decide +kernel
theorem dX6_goes_43 : decode cX6_goes 43 = .ok (.bipush 6, 2) := by decide +kernel
theorem dX6_goes_45 : decode cX6_goes 45 = .ok (.iload_n 2, 1) := by decide +kernel
theorem dX6_goes_46 : decode cX6_goes 46 = .ok (.iadd, 1) := by decide +kernel
theorem dX6_goes_47 : decode cX6_goes 47 = .ok (.iaload, 1) := by decide +kernel
theorem dX6_goes_48 : decode cX6_goes 48 = .ok (.bipush 8, 2) := by decide +kernel
theorem dX6_goes_50 : decode cX6_goes 50 = .ok (.invokestatic 128, 3) := by decide +kernel
theorem dX6_goes_53 : decode cX6_goes 53 = .ok (.iastore, 1) := by decide +kernel
theorem dX6_goes_54 : decode cX6_goes 54 = .ok (.aload_n 0, 1) := by decide +kernel
theorem dX6_goes_55 : decode cX6_goes 55 = .ok (.bipush 6, 2) := by decide +kernel
theorem dX6_goes_57 : decode cX6_goes 57 = .ok (.iload_n 2, 1) := by decide +kernel
theorem dX6_goes_58 : decode cX6_goes 58 = .ok (.iadd, 1) := by decide +kernel
theorem dX6_goes_59 : decode cX6_goes 59 = .ok (.dup2, 1) := by decide +kernel
theorem dX6_goes_60 : decode cX6_goes 60 = .ok (.iaload, 1) := by decide +kernel
theorem dX6_goes_61 : decode cX6_goes 61 = .ok (.aload_n 0, 1) := by decide +kernel
theorem dX6_goes_62 : decode cX6_goes 62 = .ok (.bipush 6, 2) := by decide +kernel
theorem dX6_goes_64 : decode cX6_goes 64 = .ok (.iload_n 2, 1) := by decide +kernel
theorem dX6_goes_65 : decode cX6_goes 65 = .ok (.iadd, 1) := by decide +kernel
theorem dX6_goes_66 : decode cX6_goes 66 = .ok (.iaload, 1) := by decide +kernel
theorem dX6_goes_67 : decode cX6_goes 67 = .ok (.bipush 30, 2) := by decide +kernel
theorem dX6_goes_69 : decode cX6_goes 69 = .ok (.if_icmp .ge 7, 3) := by decide +kernel
theorem dX6_goes_72 : decode cX6_goes 72 = .ok (.iconst 1, 1) := by decide +kernel
theorem dX6_goes_73 : decode cX6_goes 73 = .ok (.goto 4, 3) := by decide +kernel
theorem dX6_goes_76 : decode cX6_goes 76 = .ok (.iconst 0, 1) := by decide +kernel
theorem dX6_goes_77 : decode cX6_goes 77 = .ok (.iadd, 1) := by decide +kernel
theorem dX6_goes_78 : decode cX6_goes 78 = .ok (.iastore, 1) := by decide +kernel
theorem dX6_goes_79 : decode cX6_goes 79 = .ok (.iinc 2 1, 3) := by decide +kernel
theorem dX6_goes_82 : decode cX6_goes 82 = .ok (.goto (-75), 3) := by decide +kernel
theorem dX6_goes_85 : decode cX6_goes 85 = .ok (.aload_n 0, 1) := by decide +kernel
theorem dX6_goes_86 : decode cX6_goes 86 = .ok (.bipush 19, 2) := by decide +kernel
theorem dX6_goes_88 : decode cX6_goes 88 = .ok (.iload_n 1, 1) := by decide +kernel
theorem dX6_goes_89 : decode cX6_goes 89 = .ok (.invokestatic 184, 3) := by decide +kernel
theorem dX6_goes_92 : decode cX6_goes 92 = .ok (.iastore, 1) := by decide +kernel
theorem dX6_goes_93 : decode cX6_goes 93 = .ok (.aload_n 0, 1) := by decide +kernel
theorem dX6_goes_94 : decode cX6_goes 94 = .ok (.bipush 18, 2) := by decide +kernel
theorem dX6_goes_96 : decode cX6_goes 96 = .ok (.dup2, 1) := by decide +kernel
theorem dX6_goes_97 : decode cX6_goes 97 = .ok (.iaload, 1) := by decide +kernel
theorem dX6_goes_98 : decode cX6_goes 98 = .ok (.aload_n 0, 1) := by decide +kernel
theorem dX6_goes_99 : decode cX6_goes 99 = .ok (.bipush 19, 2) := by decide +kernel
theorem dX6_goes_101 : decode cX6_goes 101 = .ok (.iaload, 1) := by decide +kernel
theorem dX6_goes_102 : decode cX6_goes 102 = .ok (.iadd, 1) := by decide +kernel
theorem dX6_goes_103 : decode cX6_goes 103 = .ok (.iastore, 1) := by decide +kernel
theorem dX6_goes_104 : decode cX6_goes 104 = .ok (.aload_n 0, 1) := by decide +kernel
theorem dX6_goes_105 : decode cX6_goes 105 = .ok (.bipush 21, 2) := by decide +kernel
theorem dX6_goes_107 : decode cX6_goes 107 = .ok (.dup2, 1) := by decide +kernel
theorem dX6_goes_108 : decode cX6_goes 108 = .ok (.iaload, 1) := by decide +kernel
theorem dX6_goes_109 : decode cX6_goes 109 = .ok (.iconst 1, 1) := by decide +kernel
theorem dX6_goes_110 : decode cX6_goes 110 = .ok (.iadd, 1) := by decide +kernel
theorem dX6_goes_111 : decode cX6_goes 111 = .ok (.iastore, 1) := by decide +kernel
theorem dX6_goes_112 : decode cX6_goes 112 = .ok (.return_, 1) := by decide +kernel
theorem dX6_remember_0 : decode cX6_remember 0 = .ok (.aload_n 0, 1) := by decide +kernel
theorem dX6_remember_1 : decode cX6_remember 1 = .ok (.getfield 7, 3) := by decide +kernel
theorem dX6_remember_4 : decode cX6_remember 4 = .ok (.bipush 78, 2) := by decide +kernel
theorem dX6_remember_6 : decode cX6_remember 6 = .ok (.iaload, 1) := by decide +kernel
theorem dX6_remember_7 : decode cX6_remember 7 = .ok (.bipush 8, 2) := by decide +kernel
theorem dX6_remember_9 : decode cX6_remember 9 = .ok (.if_icmp .ne 50, 3) := by decide +kernel
theorem dX6_remember_12 : decode cX6_remember 12 = .ok (.iconst 0, 1) := by decide +kernel
theorem dX6_remember_13 : decode cX6_remember 13 = .ok (.istore_n 1, 1) := by decide +kernel
theorem dX6_remember_14 : decode cX6_remember 14 = .ok (.iload_n 1, 1) := by decide +kernel
theorem dX6_remember_15 : decode cX6_remember 15 = .ok (.sipush 154, 3) := by decide +kernel
theorem dX6_remember_18 : decode cX6_remember 18 = .ok (.if_icmp .ge 30, 3) := by decide +kernel
theorem dX6_remember_21 : decode cX6_remember 21 = .ok (.aload_n 0, 1) := by decide +kernel
theorem dX6_remember_22 : decode cX6_remember 22 = .ok (.getfield 7, 3) := by decide +kernel
theorem dX6_remember_25 : decode cX6_remember 25 = .ok (.bipush 79, 2) := by decide +kernel
theorem dX6_remember_27 : decode cX6_remember 27 = .ok (.iload_n 1, 1) := by decide +kernel
theorem dX6_remember_28 : decode cX6_remember 28 = .ok (.iadd, 1) := by decide +kernel
theorem dX6_remember_29 : decode cX6_remember 29 = .ok (.aload_n 0, 1) := by decide +kernel
theorem dX6_remember_30 : decode cX6_remember 30 = .ok (.getfield 7, 3) := by decide +kernel
theorem dX6_remember_33 : decode cX6_remember 33 = .ok (.bipush 79, 2) := by decide +kernel
theorem dX6_remember_35 : decode cX6_remember 35 = .ok (.iload_n 1, 1) := by decide +kernel
theorem dX6_remember_36 : decode cX6_remember 36 = .ok (.iadd, 1) := by decide +kernel
theorem dX6_remember_37 : decode cX6_remember 37 = .ok (.bipush 22, 2) := by decide +kernel
theorem dX6_remember_39 : decode cX6_remember 39 = .ok (.iadd, 1) := by decide +kernel
theorem dX6_remember_40 : decode cX6_remember 40 = .ok (.iaload, 1) := by decide +kernel
theorem dX6_remember_41 : decode cX6_remember 41 = .ok (.iastore, 1) := by decide +kernel
theorem dX6_remember_42 : decode cX6_remember 42 = .ok (.iinc 1 1, 3) := by decide +kernel
theorem dX6_remember_45 : decode cX6_remember 45 = .ok (.goto (-31), 3) := by decide +kernel
theorem dX6_remember_48 : decode cX6_remember 48 = .ok (.aload_n 0, 1) := by decide +kernel
theorem dX6_remember_49 : decode cX6_remember 49 = .ok (.getfield 7, 3) := by decide +kernel
theorem dX6_remember_52 : decode cX6_remember 52 = .ok (.bipush 78, 2) := by decide +kernel
theorem dX6_remember_54 : decode cX6_remember 54 = .ok (.dup2, 1) := by decide +kernel
theorem dX6_remember_55 : decode cX6_remember 55 = .ok (.iaload, 1) := by decide +kernel
theorem dX6_remember_56 : decode cX6_remember 56 = .ok (.iconst 1, 1) := by decide +kernel
theorem dX6_remember_57 : decode cX6_remember 57 = .ok (.isub, 1) := by decide +kernel
theorem dX6_remember_58 : decode cX6_remember 58 = .ok (.iastore, 1) := by decide +kernel
theorem dX6_remember_59 : decode cX6_remember 59 = .ok (.aload_n 0, 1) := by decide +kernel
theorem dX6_remember_60 : decode cX6_remember 60 = .ok (.getfield 7, 3) := by decide +kernel
theorem dX6_remember_63 : decode cX6_remember 63 = .ok (.iconst 0, 1) := by decide +kernel
theorem dX6_remember_64 : decode cX6_remember 64 = .ok (.aload_n 0, 1) := by decide +kernel
theorem dX6_remember_65 : decode cX6_remember 65 = .ok (.getfield 7, 3) := by decide +kernel
theorem dX6_remember_68 : decode cX6_remember 68 = .ok (.bipush 79, 2) := by decide +kernel
theorem dX6_remember_70 : decode cX6_remember 70 = .ok (.bipush 22, 2) := by decide +kernel
theorem dX6_remember_72 : decode cX6_remember 72 = .ok (.aload_n 0, 1) := by decide +kernel
theorem dX6_remember_73 : decode cX6_remember 73 = .ok (.getfield 7, 3) := by decide +kernel
theorem dX6_remember_76 : decode cX6_remember 76 = .ok (.bipush 78, 2) := by decide +kernel
theorem dX6_remember_78 : decode cX6_remember 78 = .ok (.iaload, 1) := by decide +kernel
theorem dX6_remember_79 : decode cX6_remember 79 = .ok (.imul, 1) := by decide +kernel
theorem dX6_remember_80 : decode cX6_remember 80 = .ok (.iadd, 1) := by decide +kernel
theorem dX6_remember_81 : decode cX6_remember 81 = .ok (.bipush 22, 2) := by decide +kernel
theorem dX6_remember_83 : decode cX6_remember 83 = .ok (.invokestatic 152, 3) := by decide +kernel
theorem dX6_remember_86 : decode cX6_remember 86 = .ok (.aload_n 0, 1) := by decide +kernel
theorem dX6_remember_87 : decode cX6_remember 87 = .ok (.getfield 7, 3) := by decide +kernel
theorem dX6_remember_90 : decode cX6_remember 90 = .ok (.bipush 78, 2) := by decide +kernel
theorem dX6_remember_92 : decode cX6_remember 92 = .ok (.dup2, 1) := by decide +kernel
theorem dX6_remember_93 : decode cX6_remember 93 = .ok (.iaload, 1) := by decide +kernel
theorem dX6_remember_94 : decode cX6_remember 94 = .ok (.iconst 1, 1) := by decide +kernel
theorem dX6_remember_95 : decode cX6_remember 95 = .ok (.iadd, 1) := by decide +kernel
theorem dX6_remember_96 : decode cX6_remember 96 = .ok (.iastore, 1) := by decide +kernel
theorem dX6_remember_97 : decode cX6_remember 97 = .ok (.return_, 1) := by decide +kernel
theorem dX6_minute_0 : decode cX6_minute 0 = .ok (.iload_n 1, 1) := by decide +kernel
theorem dX6_minute_1 : decode cX6_minute 1 = .ok (.i2l, 1) := by decide +kernel
theorem dX6_minute_2 : decode cX6_minute 2 = .ok (.lconst 1, 1) := by decide +kernel
theorem dX6_minute_3 : decode cX6_minute 3 = .ok (.ldc2_w 188, 3) := by decide +kernel
theorem dX6_minute_6 : decode cX6_minute 6 = .ok (.invokestatic 55, 3) := by decide +kernel
theorem dX6_minute_9 : decode cX6_minute 9 = .ok (.ifCond .ne 8, 3) := by decide +kernel
theorem dX6_minute_12 : decode cX6_minute 12 = .ok (.aload_n 0, 1) := by decide +kernel
theorem dX6_minute_13 : decode cX6_minute 13 = .ok (.invokevirtual 63, 3) := by decide +kernel
theorem dX6_minute_16 : decode cX6_minute 16 = .ok (.ireturn, 1) := by decide +kernel
theorem dX6_minute_17 : decode cX6_minute 17 = .ok (.aload_n 0, 1) := by decide +kernel
theorem dX6_minute_18 : decode cX6_minute 18 = .ok (.invokevirtual 190, 3) := by decide +kernel
theorem dX6_minute_21 : decode cX6_minute 21 = .ok (.aload_n 0, 1) := by decide +kernel
theorem dX6_minute_22 : decode cX6_minute 22 = .ok (.getfield 7, 3) := by decide +kernel
theorem dX6_minute_25 : decode cX6_minute 25 = .ok (.bipush 18, 2) := by decide +kernel
theorem dX6_minute_27 : decode cX6_minute 27 = .ok (.iaload, 1) := by decide +kernel
theorem dX6_minute_28 : decode cX6_minute 28 = .ok (.istore_n 2, 1) := by decide +kernel
theorem dX6_minute_29 : decode cX6_minute 29 = .ok (.iconst 0, 1) := by decide +kernel
theorem dX6_minute_30 : decode cX6_minute 30 = .ok (.istore_n 3, 1) := by decide +kernel
theorem dX6_minute_31 : decode cX6_minute 31 = .ok (.iload_n 3, 1) := by decide +kernel
theorem dX6_minute_32 : decode cX6_minute 32 = .ok (.iload_n 1, 1) := by decide +kernel
theorem dX6_minute_33 : decode cX6_minute 33 = .ok (.if_icmp .ge 29, 3) := by decide +kernel
theorem dX6_minute_36 : decode cX6_minute 36 = .ok (.aload_n 0, 1) := by decide +kernel
theorem dX6_minute_37 : decode cX6_minute 37 = .ok (.getfield 7, 3) := by decide +kernel
theorem dX6_minute_40 : decode cX6_minute 40 = .ok (.bipush 21, 2) := by decide +kernel
theorem dX6_minute_42 : decode cX6_minute 42 = .ok (.iaload, 1) := by decide +kernel
theorem dX6_minute_43 : decode cX6_minute 43 = .ok (.sipush 999, 3) := by decide +kernel
theorem dX6_minute_46 : decode cX6_minute 46 = .ok (.if_icmp .ge 16, 3) := by decide +kernel
theorem dX6_minute_49 : decode cX6_minute 49 = .ok (.aload_n 0, 1) := by decide +kernel
theorem dX6_minute_50 : decode cX6_minute 50 = .ok (.getfield 7, 3) := by decide +kernel
theorem dX6_minute_53 : decode cX6_minute 53 = .ok (.invokestatic 193, 3) := by decide +kernel
theorem dX6_minute_56 : decode cX6_minute 56 = .ok (.iinc 3 1, 3) := by decide +kernel
theorem dX6_minute_59 : decode cX6_minute 59 = .ok (.goto (-28), 3) := by decide +kernel
theorem dX6_minute_62 : decode cX6_minute 62 = .ok (.aload_n 0, 1) := by decide +kernel
theorem dX6_minute_63 : decode cX6_minute 63 = .ok (.getfield 7, 3) := by decide +kernel
theorem dX6_minute_66 : decode cX6_minute 66 = .ok (.bipush 18, 2) := by decide +kernel
theorem dX6_minute_68 : decode cX6_minute 68 = .ok (.iaload, 1) := by decide +kernel
theorem dX6_minute_69 : decode cX6_minute 69 = .ok (.iload_n 2, 1) := by decide +kernel
theorem dX6_minute_70 : decode cX6_minute 70 = .ok (.isub, 1) := by decide +kernel
theorem dX6_minute_71 : decode cX6_minute 71 = .ok (.ireturn, 1) := by decide +kernel
theorem dX6_carrot_0 : decode cX6_carrot 0 = .ok (.aload_n 0, 1) := by decide +kernel
theorem dX6_carrot_1 : decode cX6_carrot 1 = .ok (.iload_n 1, 1) := by decide +kernel
theorem dX6_carrot_2 : decode cX6_carrot 2 = .ok (.invokevirtual 197, 3) := by decide +kernel
theorem dX6_carrot_5 : decode cX6_carrot 5 = .ok (.ifCond .ne 8, 3) := by decide +kernel
theorem dX6_carrot_8 : decode cX6_carrot 8 = .ok (.aload_n 0, 1) := by decide +kernel
theorem dX6_carrot_9 : decode cX6_carrot 9 = .ok (.invokevirtual 63, 3) := by decide +kernel
theorem dX6_carrot_12 : decode cX6_carrot 12 = .ok (.ireturn, 1) := by decide +kernel
theorem dX6_carrot_13 : decode cX6_carrot 13 = .ok (.aload_n 0, 1) := by decide +kernel
theorem dX6_carrot_14 : decode cX6_carrot 14 = .ok (.invokevirtual 190, 3) := by decide +kernel
theorem dX6_carrot_17 : decode cX6_carrot 17 = .ok (.aload_n 0, 1) := by decide +kernel
theorem dX6_carrot_18 : decode cX6_carrot 18 = .ok (.getfield 7, 3) := by decide +kernel
theorem dX6_carrot_21 : decode cX6_carrot 21 = .ok (.bipush 6, 2) := by decide +kernel
theorem dX6_carrot_23 : decode cX6_carrot 23 = .ok (.iload_n 1, 1) := by decide +kernel
theorem dX6_carrot_24 : decode cX6_carrot 24 = .ok (.iadd, 1) := by decide +kernel
theorem dX6_carrot_25 : decode cX6_carrot 25 = .ok (.aload_n 0, 1) := by decide +kernel
theorem dX6_carrot_26 : decode cX6_carrot 26 = .ok (.getfield 7, 3) := by decide +kernel
theorem dX6_carrot_29 : decode cX6_carrot 29 = .ok (.bipush 6, 2) := by decide +kernel
theorem dX6_carrot_31 : decode cX6_carrot 31 = .ok (.iload_n 1, 1) := by decide +kernel
theorem dX6_carrot_32 : decode cX6_carrot 32 = .ok (.iadd, 1) := by decide +kernel
theorem dX6_carrot_33 : decode cX6_carrot 33 = .ok (.iaload, 1) := by decide +kernel
theorem dX6_carrot_34 : decode cX6_carrot 34 = .ok (.bipush 10, 2) := by decide +kernel
theorem dX6_carrot_36 : decode cX6_carrot 36 = .ok (.invokestatic 128, 3) := by decide +kernel
theorem dX6_carrot_39 : decode cX6_carrot 39 = .ok (.iastore, 1) := by decide +kernel
theorem dX6_carrot_40 : decode cX6_carrot 40 = .ok (.aload_n 0, 1) := by decide +kernel
theorem dX6_carrot_41 : decode cX6_carrot 41 = .ok (.getfield 7, 3) := by decide +kernel
theorem dX6_carrot_44 : decode cX6_carrot 44 = .ok (.bipush 6, 2) := by decide +kernel
theorem dX6_carrot_46 : decode cX6_carrot 46 = .ok (.iload_n 1, 1) := by decide +kernel
theorem dX6_carrot_47 : decode cX6_carrot 47 = .ok (.iadd, 1) := by decide +kernel
theorem dX6_carrot_48 : decode cX6_carrot 48 = .ok (.iaload, 1) := by decide +kernel
theorem dX6_carrot_49 : decode cX6_carrot 49 = .ok (.ireturn, 1) := by decide +kernel
theorem dX6_moves_0 : decode cX6_moves 0 = .ok (.aload_n 0, 1) := by decide +kernel
theorem dX6_moves_1 : decode cX6_moves 1 = .ok (.iload_n 1, 1) := by decide +kernel
theorem dX6_moves_2 : decode cX6_moves 2 = .ok (.invokevirtual 197, 3) := by decide +kernel
theorem dX6_moves_5 : decode cX6_moves 5 = .ok (.ifCond .eq 10, 3) := by decide +kernel
theorem dX6_moves_8 : decode cX6_moves 8 = .ok (.iload_n 2, 1) := by decide +kernel
theorem dX6_moves_9 : decode cX6_moves 9 = .ok (.invokestatic 59, 3) := by decide +kernel
theorem dX6_moves_12 : decode cX6_moves 12 = .ok (.ifCond .ne 8, 3) := by decide +kernel
theorem dX6_moves_15 : decode cX6_moves 15 = .ok (.aload_n 0, 1) := by decide +kernel
theorem dX6_moves_16 : decode cX6_moves 16 = .ok (.invokevirtual 63, 3) := by decide +kernel
theorem dX6_moves_19 : decode cX6_moves 19 = .ok (.ireturn, 1) := by decide +kernel
theorem dX6_moves_20 : decode cX6_moves 20 = .ok (.aload_n 0, 1) := by decide +kernel
theorem dX6_moves_21 : decode cX6_moves 21 = .ok (.getfield 7, 3) := by decide +kernel
theorem dX6_moves_24 : decode cX6_moves 24 = .ok (.iload_n 2, 1) := by decide +kernel
theorem dX6_moves_25 : decode cX6_moves 25 = .ok (.invokestatic 73, 3) := by decide +kernel
theorem dX6_moves_28 : decode cX6_moves 28 = .ok (.istore_n 3, 1) := by decide +kernel
theorem dX6_moves_29 : decode cX6_moves 29 = .ok (.iload_n 3, 1) := by decide +kernel
theorem dX6_moves_30 : decode cX6_moves 30 = .ok (.iconst (-1), 1) := by decide +kernel
theorem dX6_moves_31 : decode cX6_moves 31 = .ok (.if_icmp .eq 13, 3) := by decide +kernel
theorem dX6_moves_34 : decode cX6_moves 34 = .ok (.iload_n 3, 1) := by decide +kernel
theorem dX6_moves_35 : decode cX6_moves 35 = .ok (.iload_n 1, 1) := by decide +kernel
theorem dX6_moves_36 : decode cX6_moves 36 = .ok (.if_icmp .eq 8, 3) := by decide +kernel
theorem dX6_moves_39 : decode cX6_moves 39 = .ok (.aload_n 0, 1) := by decide +kernel
theorem dX6_moves_40 : decode cX6_moves 40 = .ok (.invokevirtual 77, 3) := by decide +kernel
theorem dX6_moves_43 : decode cX6_moves 43 = .ok (.ireturn, 1) := by decide +kernel
theorem dX6_moves_44 : decode cX6_moves 44 = .ok (.aload_n 0, 1) := by decide +kernel
theorem dX6_moves_45 : decode cX6_moves 45 = .ok (.invokevirtual 190, 3) := by decide +kernel
theorem dX6_moves_48 : decode cX6_moves 48 = .ok (.aload_n 0, 1) := by decide +kernel
theorem dX6_moves_49 : decode cX6_moves 49 = .ok (.getfield 7, 3) := by decide +kernel
theorem dX6_moves_52 : decode cX6_moves 52 = .ok (.iconst 0, 1) := by decide +kernel
theorem dX6_moves_53 : decode cX6_moves 53 = .ok (.iload_n 1, 1) := by decide +kernel
theorem dX6_moves_54 : decode cX6_moves 54 = .ok (.iadd, 1) := by decide +kernel
theorem dX6_moves_55 : decode cX6_moves 55 = .ok (.iaload, 1) := by decide +kernel
theorem dX6_moves_56 : decode cX6_moves 56 = .ok (.istore 4, 2) := by decide +kernel
theorem dX6_moves_58 : decode cX6_moves 58 = .ok (.aload_n 0, 1) := by decide +kernel
theorem dX6_moves_59 : decode cX6_moves 59 = .ok (.getfield 7, 3) := by decide +kernel
theorem dX6_moves_62 : decode cX6_moves 62 = .ok (.iconst 0, 1) := by decide +kernel
theorem dX6_moves_63 : decode cX6_moves 63 = .ok (.iload_n 1, 1) := by decide +kernel
theorem dX6_moves_64 : decode cX6_moves 64 = .ok (.iadd, 1) := by decide +kernel
theorem dX6_moves_65 : decode cX6_moves 65 = .ok (.iload_n 2, 1) := by decide +kernel
theorem dX6_moves_66 : decode cX6_moves 66 = .ok (.iastore, 1) := by decide +kernel
theorem dX6_moves_67 : decode cX6_moves 67 = .ok (.iload 4, 2) := by decide +kernel
theorem dX6_moves_69 : decode cX6_moves 69 = .ok (.ireturn, 1) := by decide +kernel
theorem dX6_woman_0 : decode cX6_woman 0 = .ok (.iload_n 1, 1) := by decide +kernel
theorem dX6_woman_1 : decode cX6_woman 1 = .ok (.invokestatic 59, 3) := by decide +kernel
theorem dX6_woman_4 : decode cX6_woman 4 = .ok (.ifCond .ne 8, 3) := by decide +kernel
theorem dX6_woman_7 : decode cX6_woman 7 = .ok (.aload_n 0, 1) := by decide +kernel
theorem dX6_woman_8 : decode cX6_woman 8 = .ok (.invokevirtual 63, 3) := by decide +kernel
theorem dX6_woman_11 : decode cX6_woman 11 = .ok (.ireturn, 1) := by decide +kernel
theorem dX6_woman_12 : decode cX6_woman 12 = .ok (.aload_n 0, 1) := by decide +kernel
theorem dX6_woman_13 : decode cX6_woman 13 = .ok (.invokevirtual 190, 3) := by decide +kernel
theorem dX6_woman_16 : decode cX6_woman 16 = .ok (.aload_n 0, 1) := by decide +kernel
theorem dX6_woman_17 : decode cX6_woman 17 = .ok (.getfield 7, 3) := by decide +kernel
theorem dX6_woman_20 : decode cX6_woman 20 = .ok (.bipush 20, 2) := by decide +kernel
theorem dX6_woman_22 : decode cX6_woman 22 = .ok (.iaload, 1) := by decide +kernel
theorem dX6_woman_23 : decode cX6_woman 23 = .ok (.istore_n 2, 1) := by decide +kernel
theorem dX6_woman_24 : decode cX6_woman 24 = .ok (.aload_n 0, 1) := by decide +kernel
theorem dX6_woman_25 : decode cX6_woman 25 = .ok (.getfield 7, 3) := by decide +kernel
theorem dX6_woman_28 : decode cX6_woman 28 = .ok (.bipush 20, 2) := by decide +kernel
theorem dX6_woman_30 : decode cX6_woman 30 = .ok (.iload_n 1, 1) := by decide +kernel
theorem dX6_woman_31 : decode cX6_woman 31 = .ok (.iastore, 1) := by decide +kernel
theorem dX6_woman_32 : decode cX6_woman 32 = .ok (.iload_n 2, 1) := by decide +kernel
theorem dX6_woman_33 : decode cX6_woman 33 = .ok (.ireturn, 1) := by decide +kernel
theorem dX6_undo_0 : decode cX6_undo 0 = .ok (.aload_n 0, 1) := by decide +kernel
theorem dX6_undo_1 : decode cX6_undo 1 = .ok (.getfield 7, 3) := by decide +kernel
theorem dX6_undo_4 : decode cX6_undo 4 = .ok (.bipush 78, 2) := by decide +kernel
theorem dX6_undo_6 : decode cX6_undo 6 = .ok (.iaload, 1) := by decide +kernel
theorem dX6_undo_7 : decode cX6_undo 7 = .ok (.ifCond .ne 8, 3) := by decide +kernel
theorem dX6_undo_10 : decode cX6_undo 10 = .ok (.aload_n 0, 1) := by decide +kernel
theorem dX6_undo_11 : decode cX6_undo 11 = .ok (.invokevirtual 77, 3) := by decide +kernel
theorem dX6_undo_14 : decode cX6_undo 14 = .ok (.ireturn, 1) := by decide +kernel
theorem dX6_undo_15 : decode cX6_undo 15 = .ok (.aload_n 0, 1) := by decide +kernel
theorem dX6_undo_16 : decode cX6_undo 16 = .ok (.getfield 7, 3) := by decide +kernel
theorem dX6_undo_19 : decode cX6_undo 19 = .ok (.bipush 78, 2) := by decide +kernel
theorem dX6_undo_21 : decode cX6_undo 21 = .ok (.dup2, 1) := by decide +kernel
theorem dX6_undo_22 : decode cX6_undo 22 = .ok (.iaload, 1) := by decide +kernel
theorem dX6_undo_23 : decode cX6_undo 23 = .ok (.iconst 1, 1) := by decide +kernel
theorem dX6_undo_24 : decode cX6_undo 24 = .ok (.isub, 1) := by decide +kernel
theorem dX6_undo_25 : decode cX6_undo 25 = .ok (.iastore, 1) := by decide +kernel
theorem dX6_undo_26 : decode cX6_undo 26 = .ok (.aload_n 0, 1) := by decide +kernel
theorem dX6_undo_27 : decode cX6_undo 27 = .ok (.getfield 7, 3) := by decide +kernel
theorem dX6_undo_30 : decode cX6_undo 30 = .ok (.bipush 79, 2) := by decide +kernel
theorem dX6_undo_32 : decode cX6_undo 32 = .ok (.bipush 22, 2) := by decide +kernel
theorem dX6_undo_34 : decode cX6_undo 34 = .ok (.aload_n 0, 1) := by decide +kernel
theorem dX6_undo_35 : decode cX6_undo 35 = .ok (.getfield 7, 3) := by decide +kernel
theorem dX6_undo_38 : decode cX6_undo 38 = .ok (.bipush 78, 2) := by decide +kernel
theorem dX6_undo_40 : decode cX6_undo 40 = .ok (.iaload, 1) := by decide +kernel
theorem dX6_undo_41 : decode cX6_undo 41 = .ok (.imul, 1) := by decide +kernel
theorem dX6_undo_42 : decode cX6_undo 42 = .ok (.iadd, 1) := by decide +kernel
theorem dX6_undo_43 : decode cX6_undo 43 = .ok (.aload_n 0, 1) := by decide +kernel
theorem dX6_undo_44 : decode cX6_undo 44 = .ok (.getfield 7, 3) := by decide +kernel
theorem dX6_undo_47 : decode cX6_undo 47 = .ok (.iconst 0, 1) := by decide +kernel
theorem dX6_undo_48 : decode cX6_undo 48 = .ok (.bipush 22, 2) := by decide +kernel
theorem dX6_undo_50 : decode cX6_undo 50 = .ok (.invokestatic 152, 3) := by decide +kernel
theorem dX6_undo_53 : decode cX6_undo 53 = .ok (.aload_n 0, 1) := by decide +kernel
theorem dX6_undo_54 : decode cX6_undo 54 = .ok (.getfield 7, 3) := by decide +kernel
theorem dX6_undo_57 : decode cX6_undo 57 = .ok (.bipush 21, 2) := by decide +kernel
theorem dX6_undo_59 : decode cX6_undo 59 = .ok (.iaload, 1) := by decide +kernel
theorem dX6_undo_60 : decode cX6_undo 60 = .ok (.ireturn, 1) := by decide +kernel
theorem dX6_of_0 : decode cX6_of 0 = .ok (.aload_n 0, 1) := by decide +kernel
theorem dX6_of_1 : decode cX6_of 1 = .ok (.iload_n 1, 1) := by decide +kernel
theorem dX6_of_2 : decode cX6_of 2 = .ok (.invokevirtual 197, 3) := by decide +kernel
theorem dX6_of_5 : decode cX6_of 5 = .ok (.ifCond .eq 15, 3) := by decide +kernel
theorem dX6_of_8 : decode cX6_of 8 = .ok (.iload_n 2, 1) := by decide +kernel
theorem dX6_of_9 : decode cX6_of 9 = .ok (.i2l, 1) := by decide +kernel
theorem dX6_of_10 : decode cX6_of 10 = .ok (.lconst 0, 1) := by decide +kernel
theorem dX6_of_11 : decode cX6_of 11 = .ok (.ldc2_w 67, 3) := by decide +kernel
theorem dX6_of_14 : decode cX6_of 14 = .ok (.invokestatic 55, 3) := by decide +kernel
theorem dX6_of_17 : decode cX6_of 17 = .ok (.ifCond .ne 8, 3) := by decide +kernel
theorem dX6_of_20 : decode cX6_of 20 = .ok (.aload_n 0, 1) := by decide +kernel
theorem dX6_of_21 : decode cX6_of 21 = .ok (.invokevirtual 63, 3) := by decide +kernel
theorem dX6_of_24 : decode cX6_of 24 = .ok (.ireturn, 1) := by decide +kernel
theorem dX6_of_25 : decode cX6_of 25 = .ok (.iload_n 2, 1) := by decide +kernel
theorem dX6_of_26 : decode cX6_of 26 = .ok (.tableswitch 83 0 4 #[34, 44, 53, 63, 73], 34) := by decide +kernel
theorem dX6_of_60 : decode cX6_of 60 = .ok (.aload_n 0, 1) := by decide +kernel
theorem dX6_of_61 : decode cX6_of 61 = .ok (.getfield 7, 3) := by decide +kernel
theorem dX6_of_64 : decode cX6_of 64 = .ok (.bipush 23, 2) := by decide +kernel
theorem dX6_of_66 : decode cX6_of 66 = .ok (.iload_n 1, 1) := by decide +kernel
theorem dX6_of_67 : decode cX6_of 67 = .ok (.iadd, 1) := by decide +kernel
theorem dX6_of_68 : decode cX6_of 68 = .ok (.iaload, 1) := by decide +kernel
theorem dX6_of_69 : decode cX6_of 69 = .ok (.ireturn, 1) := by decide +kernel
theorem dX6_of_70 : decode cX6_of 70 = .ok (.aload_n 0, 1) := by decide +kernel
theorem dX6_of_71 : decode cX6_of 71 = .ok (.getfield 7, 3) := by decide +kernel
theorem dX6_of_74 : decode cX6_of 74 = .ok (.iconst 0, 1) := by decide +kernel
theorem dX6_of_75 : decode cX6_of 75 = .ok (.iload_n 1, 1) := by decide +kernel
theorem dX6_of_76 : decode cX6_of 76 = .ok (.iadd, 1) := by decide +kernel
theorem dX6_of_77 : decode cX6_of 77 = .ok (.iaload, 1) := by decide +kernel
theorem dX6_of_78 : decode cX6_of 78 = .ok (.ireturn, 1) := by decide +kernel
theorem dX6_of_79 : decode cX6_of 79 = .ok (.aload_n 0, 1) := by decide +kernel
theorem dX6_of_80 : decode cX6_of 80 = .ok (.getfield 7, 3) := by decide +kernel
theorem dX6_of_83 : decode cX6_of 83 = .ok (.bipush 29, 2) := by decide +kernel
theorem dX6_of_85 : decode cX6_of 85 = .ok (.iload_n 1, 1) := by decide +kernel
theorem dX6_of_86 : decode cX6_of 86 = .ok (.iadd, 1) := by decide +kernel
theorem dX6_of_87 : decode cX6_of 87 = .ok (.iaload, 1) := by decide +kernel
theorem dX6_of_88 : decode cX6_of 88 = .ok (.ireturn, 1) := by decide +kernel
theorem dX6_of_89 : decode cX6_of 89 = .ok (.aload_n 0, 1) := by decide +kernel
theorem dX6_of_90 : decode cX6_of 90 = .ok (.getfield 7, 3) := by decide +kernel
theorem dX6_of_93 : decode cX6_of 93 = .ok (.bipush 6, 2) := by decide +kernel
theorem dX6_of_95 : decode cX6_of 95 = .ok (.iload_n 1, 1) := by decide +kernel
theorem dX6_of_96 : decode cX6_of 96 = .ok (.iadd, 1) := by decide +kernel
theorem dX6_of_97 : decode cX6_of 97 = .ok (.iaload, 1) := by decide +kernel
theorem dX6_of_98 : decode cX6_of 98 = .ok (.ireturn, 1) := by decide +kernel
theorem dX6_of_99 : decode cX6_of 99 = .ok (.aload_n 0, 1) := by decide +kernel
theorem dX6_of_100 : decode cX6_of 100 = .ok (.getfield 7, 3) := by decide +kernel
theorem dX6_of_103 : decode cX6_of 103 = .ok (.bipush 12, 2) := by decide +kernel
theorem dX6_of_105 : decode cX6_of 105 = .ok (.iload_n 1, 1) := by decide +kernel
theorem dX6_of_106 : decode cX6_of 106 = .ok (.iadd, 1) := by decide +kernel
theorem dX6_of_107 : decode cX6_of 107 = .ok (.iaload, 1) := by decide +kernel
theorem dX6_of_108 : decode cX6_of 108 = .ok (.ireturn, 1) := by decide +kernel
theorem dX6_of_109 : decode cX6_of 109 = .ok (.aload_n 0, 1) := by decide +kernel
theorem dX6_of_110 : decode cX6_of 110 = .ok (.getfield 7, 3) := by decide +kernel
theorem dX6_of_113 : decode cX6_of 113 = .ok (.iload_n 1, 1) := by decide +kernel
theorem dX6_of_114 : decode cX6_of 114 = .ok (.invokestatic 156, 3) := by decide +kernel
theorem dX6_of_117 : decode cX6_of 117 = .ok (.ireturn, 1) := by decide +kernel
theorem dX6_now_0 : decode cX6_now 0 = .ok (.aload_n 0, 1) := by decide +kernel
theorem dX6_now_1 : decode cX6_now 1 = .ok (.iload_n 1, 1) := by decide +kernel
theorem dX6_now_2 : decode cX6_now 2 = .ok (.invokevirtual 197, 3) := by decide +kernel
theorem dX6_now_5 : decode cX6_now 5 = .ok (.ifCond .eq 15, 3) := by decide +kernel
theorem dX6_now_8 : decode cX6_now 8 = .ok (.iload_n 2, 1) := by decide +kernel
theorem dX6_now_9 : decode cX6_now 9 = .ok (.i2l, 1) := by decide +kernel
theorem dX6_now_10 : decode cX6_now 10 = .ok (.lconst 0, 1) := by decide +kernel
theorem dX6_now_11 : decode cX6_now 11 = .ok (.ldc2_w 200, 3) := by decide +kernel
theorem dX6_now_14 : decode cX6_now 14 = .ok (.invokestatic 55, 3) := by decide +kernel
theorem dX6_now_17 : decode cX6_now 17 = .ok (.ifCond .ne 8, 3) := by decide +kernel
theorem dX6_now_20 : decode cX6_now 20 = .ok (.aload_n 0, 1) := by decide +kernel
theorem dX6_now_21 : decode cX6_now 21 = .ok (.invokevirtual 202, 3) := by decide +kernel
theorem dX6_now_24 : decode cX6_now 24 = .ok (.ireturn, 1) := by decide +kernel
theorem dX6_now_25 : decode cX6_now 25 = .ok (.iload_n 2, 1) := by decide +kernel
theorem dX6_now_26 : decode cX6_now 26 = .ok (.ifCond .ne 14, 3) := by decide +kernel
theorem dX6_now_29 : decode cX6_now 29 = .ok (.aload_n 0, 1) := by decide +kernel
theorem dX6_now_30 : decode cX6_now 30 = .ok (.getfield 7, 3) := by decide +kernel
theorem dX6_now_33 : decode cX6_now 33 = .ok (.iload_n 1, 1) := by decide +kernel
theorem dX6_now_34 : decode cX6_now 34 = .ok (.invokestatic 163, 3) := by decide +kernel
theorem dX6_now_37 : decode cX6_now 37 = .ok (.goto 35, 3) := by decide +kernel
theorem dX6_now_40 : decode cX6_now 40 = .ok (.iload_n 2, 1) := by decide +kernel
theorem dX6_now_41 : decode cX6_now 41 = .ok (.iconst 1, 1) := by decide +kernel
theorem dX6_now_42 : decode cX6_now 42 = .ok (.if_icmp .ne 14, 3) := by decide +kernel
theorem dX6_now_45 : decode cX6_now 45 = .ok (.aload_n 0, 1) := by decide +kernel
theorem dX6_now_46 : decode cX6_now 46 = .ok (.getfield 7, 3) := by decide +kernel
theorem dX6_now_49 : decode cX6_now 49 = .ok (.iload_n 1, 1) := by decide +kernel
theorem dX6_now_50 : decode cX6_now 50 = .ok (.invokestatic 170, 3) := by decide +kernel
theorem dX6_now_53 : decode cX6_now 53 = .ok (.goto 19, 3) := by decide +kernel
theorem dX6_now_56 : decode cX6_now 56 = .ok (.aload_n 0, 1) := by decide +kernel
theorem dX6_now_57 : decode cX6_now 57 = .ok (.getfield 7, 3) := by decide +kernel
theorem dX6_now_60 : decode cX6_now 60 = .ok (.iload_n 1, 1) := by decide +kernel
theorem dX6_now_61 : decode cX6_now 61 = .ok (.invokestatic 173, 3) := by decide +kernel
theorem dX6_now_64 : decode cX6_now 64 = .ok (.ifCond .eq 7, 3) := by decide +kernel
theorem dX6_now_67 : decode cX6_now 67 = .ok (.iconst 1, 1) := by decide +kernel
theorem dX6_now_68 : decode cX6_now 68 = .ok (.goto 4, 3) := by decide +kernel
theorem dX6_now_71 : decode cX6_now 71 = .ok (.iconst 0, 1) := by decide +kernel
theorem dX6_now_72 : decode cX6_now 72 = .ok (.ireturn, 1) := by decide +kernel
theorem dX6_layAside_0 : decode cX6_layAside 0 = .ok (.aload_n 0, 1) := by decide +kernel
theorem dX6_layAside_1 : decode cX6_layAside 1 = .ok (.getfield 7, 3) := by decide +kernel
theorem dX6_layAside_4 : decode cX6_layAside 4 = .ok (.iconst 0, 1) := by decide +kernel
theorem dX6_layAside_5 : decode cX6_layAside 5 = .ok (.aload_n 0, 1) := by decide +kernel
theorem dX6_layAside_6 : decode cX6_layAside 6 = .ok (.getfield 16, 3) := by decide +kernel
theorem dX6_layAside_9 : decode cX6_layAside 9 = .ok (.iconst 0, 1) := by decide +kernel
theorem dX6_layAside_10 : decode cX6_layAside 10 = .ok (.bipush 35, 2) := by decide +kernel
theorem dX6_layAside_12 : decode cX6_layAside 12 = .ok (.invokestatic 152, 3) := by decide +kernel
theorem dX6_layAside_15 : decode cX6_layAside 15 = .ok (.return_, 1) := by decide +kernel
theorem dX6_bitesIn_0 : decode cX6_bitesIn 0 = .ok (.aload_n 0, 1) := by decide +kernel
theorem dX6_bitesIn_1 : decode cX6_bitesIn 1 = .ok (.getfield 16, 3) := by decide +kernel
theorem dX6_bitesIn_4 : decode cX6_bitesIn 4 = .ok (.bipush 18, 2) := by decide +kernel
theorem dX6_bitesIn_6 : decode cX6_bitesIn 6 = .ok (.iaload, 1) := by decide +kernel
theorem dX6_bitesIn_7 : decode cX6_bitesIn 7 = .ok (.istore_n 2, 1) := by decide +kernel
theorem dX6_bitesIn_8 : decode cX6_bitesIn 8 = .ok (.iconst 0, 1) := by decide +kernel
theorem dX6_bitesIn_9 : decode cX6_bitesIn 9 = .ok (.istore_n 3, 1) := by decide +kernel
theorem dX6_bitesIn_10 : decode cX6_bitesIn 10 = .ok (.iload_n 3, 1) := by decide +kernel
theorem dX6_bitesIn_11 : decode cX6_bitesIn 11 = .ok (.iload_n 1, 1) := by decide +kernel
theorem dX6_bitesIn_12 : decode cX6_bitesIn 12 = .ok (.if_icmp .ge 16, 3) := by decide +kernel
theorem dX6_bitesIn_15 : decode cX6_bitesIn 15 = .ok (.aload_n 0, 1) := by decide +kernel
theorem dX6_bitesIn_16 : decode cX6_bitesIn 16 = .ok (.getfield 16, 3) := by decide +kernel
theorem dX6_bitesIn_19 : decode cX6_bitesIn 19 = .ok (.invokestatic 193, 3) := by decide +kernel
theorem dX6_bitesIn_22 : decode cX6_bitesIn 22 = .ok (.iinc 3 1, 3) := by decide +kernel
theorem dX6_bitesIn_25 : decode cX6_bitesIn 25 = .ok (.goto (-15), 3) := by decide +kernel
theorem dX6_bitesIn_28 : decode cX6_bitesIn 28 = .ok (.aload_n 0, 1) := by decide +kernel
theorem dX6_bitesIn_29 : decode cX6_bitesIn 29 = .ok (.getfield 16, 3) := by decide +kernel
theorem dX6_bitesIn_32 : decode cX6_bitesIn 32 = .ok (.bipush 18, 2) := by decide +kernel
theorem dX6_bitesIn_34 : decode cX6_bitesIn 34 = .ok (.iaload, 1) := by decide +kernel
theorem dX6_bitesIn_35 : decode cX6_bitesIn 35 = .ok (.iload_n 2, 1) := by decide +kernel
theorem dX6_bitesIn_36 : decode cX6_bitesIn 36 = .ok (.isub, 1) := by decide +kernel
theorem dX6_bitesIn_37 : decode cX6_bitesIn 37 = .ok (.ireturn, 1) := by decide +kernel
theorem dX6_then_0 : decode cX6_then 0 = .ok (.iload_n 1, 1) := by decide +kernel
theorem dX6_then_1 : decode cX6_then 1 = .ok (.i2l, 1) := by decide +kernel
theorem dX6_then_2 : decode cX6_then 2 = .ok (.lconst 0, 1) := by decide +kernel
theorem dX6_then_3 : decode cX6_then 3 = .ok (.ldc2_w 188, 3) := by decide +kernel
theorem dX6_then_6 : decode cX6_then 6 = .ok (.invokestatic 55, 3) := by decide +kernel
theorem dX6_then_9 : decode cX6_then 9 = .ok (.ifCond .eq 16, 3) := by decide +kernel
theorem dX6_then_12 : decode cX6_then 12 = .ok (.iload_n 2, 1) := by decide +kernel
theorem dX6_then_13 : decode cX6_then 13 = .ok (.iconst (-1), 1) := by decide +kernel
theorem dX6_then_14 : decode cX6_then 14 = .ok (.if_icmp .eq 16, 3) := by decide +kernel
theorem dX6_then_17 : decode cX6_then 17 = .ok (.aload_n 0, 1) := by decide +kernel
theorem dX6_then_18 : decode cX6_then 18 = .ok (.iload_n 2, 1) := by decide +kernel
theorem dX6_then_19 : decode cX6_then 19 = .ok (.invokevirtual 197, 3) := by decide +kernel
theorem dX6_then_22 : decode cX6_then 22 = .ok (.ifCond .ne 8, 3) := by decide +kernel
theorem dX6_then_25 : decode cX6_then 25 = .ok (.aload_n 0, 1) := by decide +kernel
theorem dX6_then_26 : decode cX6_then 26 = .ok (.invokevirtual 63, 3) := by decide +kernel
theorem dX6_then_29 : decode cX6_then 29 = .ok (.ireturn, 1) := by decide +kernel
theorem dX6_then_30 : decode cX6_then 30 = .ok (.aload_n 0, 1) := by decide +kernel
theorem dX6_then_31 : decode cX6_then 31 = .ok (.invokevirtual 205, 3) := by decide +kernel
theorem dX6_then_34 : decode cX6_then 34 = .ok (.aload_n 0, 1) := by decide +kernel
theorem dX6_then_35 : decode cX6_then 35 = .ok (.iload_n 1, 1) := by decide +kernel
theorem dX6_then_36 : decode cX6_then 36 = .ok (.invokevirtual 208, 3) := by decide +kernel
theorem dX6_then_39 : decode cX6_then 39 = .ok (.istore_n 3, 1) := by decide +kernel
theorem dX6_then_40 : decode cX6_then 40 = .ok (.iload_n 2, 1) := by decide +kernel
theorem dX6_then_41 : decode cX6_then 41 = .ok (.iconst (-1), 1) := by decide +kernel
theorem dX6_then_42 : decode cX6_then 42 = .ok (.if_icmp .ne 13, 3) := by decide +kernel
theorem dX6_then_45 : decode cX6_then 45 = .ok (.aload_n 0, 1) := by decide +kernel
theorem dX6_then_46 : decode cX6_then 46 = .ok (.getfield 16, 3) := by decide +kernel
theorem dX6_then_49 : decode cX6_then 49 = .ok (.bipush 18, 2) := by decide +kernel
theorem dX6_then_51 : decode cX6_then 51 = .ok (.iaload, 1) := by decide +kernel
theorem dX6_then_52 : decode cX6_then 52 = .ok (.goto 12, 3) := by decide +kernel
theorem dX6_then_55 : decode cX6_then 55 = .ok (.aload_n 0, 1) := by decide +kernel
theorem dX6_then_56 : decode cX6_then 56 = .ok (.getfield 16, 3) := by decide +kernel
theorem dX6_then_59 : decode cX6_then 59 = .ok (.bipush 12, 2) := by decide +kernel
theorem dX6_then_61 : decode cX6_then 61 = .ok (.iload_n 2, 1) := by decide +kernel
theorem dX6_then_62 : decode cX6_then 62 = .ok (.iadd, 1) := by decide +kernel
theorem dX6_then_63 : decode cX6_then 63 = .ok (.iaload, 1) := by decide +kernel
theorem dX6_then_64 : decode cX6_then 64 = .ok (.ireturn, 1) := by decide +kernel
theorem dX6_quiet_0 : decode cX6_quiet 0 = .ok (.aload_n 0, 1) := by decide +kernel
theorem dX6_quiet_1 : decode cX6_quiet 1 = .ok (.invokevirtual 205, 3) := by decide +kernel
theorem dX6_quiet_4 : decode cX6_quiet 4 = .ok (.iconst 1, 1) := by decide +kernel
theorem dX6_quiet_5 : decode cX6_quiet 5 = .ok (.istore_n 1, 1) := by decide +kernel
theorem dX6_quiet_6 : decode cX6_quiet 6 = .ok (.iload_n 1, 1) := by decide +kernel
theorem dX6_quiet_7 : decode cX6_quiet 7 = .ok (.bipush 61, 2) := by decide +kernel
theorem dX6_quiet_9 : decode cX6_quiet 9 = .ok (.if_icmp .ge 19, 3) := by decide +kernel
theorem dX6_quiet_12 : decode cX6_quiet 12 = .ok (.aload_n 0, 1) := by decide +kernel
theorem dX6_quiet_13 : decode cX6_quiet 13 = .ok (.iconst 1, 1) := by decide +kernel
theorem dX6_quiet_14 : decode cX6_quiet 14 = .ok (.invokevirtual 208, 3) := by decide +kernel
theorem dX6_quiet_17 : decode cX6_quiet 17 = .ok (.ifCond .le 5, 3) := by decide +kernel
theorem dX6_quiet_20 : decode cX6_quiet 20 = .ok (.iload_n 1, 1) := by decide +kernel
theorem dX6_quiet_21 : decode cX6_quiet 21 = .ok (.ireturn, 1) := by decide +kernel
theorem dX6_quiet_22 : decode cX6_quiet 22 = .ok (.iinc 1 1, 3) := by decide +kernel
theorem dX6_quiet_25 : decode cX6_quiet 25 = .ok (.goto (-19), 3) := by decide +kernel
theorem dX6_quiet_28 : decode cX6_quiet 28 = .ok (.iconst (-1), 1) := by decide +kernel
theorem dX6_quiet_29 : decode cX6_quiet 29 = .ok (.ireturn, 1) := by decide +kernel
theorem dX6_stand_0 : decode cX6_stand 0 = .ok (.iload_n 1, 1) := by decide +kernel
theorem dX6_stand_1 : decode cX6_stand 1 = .ok (.i2l, 1) := by decide +kernel
theorem dX6_stand_2 : decode cX6_stand 2 = .ok (.lconst 1, 1) := by decide +kernel
theorem dX6_stand_3 : decode cX6_stand 3 = .ok (.ldc2_w 188, 3) := by decide +kernel
theorem dX6_stand_6 : decode cX6_stand 6 = .ok (.invokestatic 55, 3) := by decide +kernel
theorem dX6_stand_9 : decode cX6_stand 9 = .ok (.ifCond .eq 13, 3) := by decide +kernel
theorem dX6_stand_12 : decode cX6_stand 12 = .ok (.iload_n 2, 1) := by decide +kernel
theorem dX6_stand_13 : decode cX6_stand 13 = .ok (.i2l, 1) := by decide +kernel
theorem dX6_stand_14 : decode cX6_stand 14 = .ok (.lconst 0, 1) := by decide +kernel
theorem dX6_stand_15 : decode cX6_stand 15 = .ok (.lconst 1, 1) := by decide +kernel
theorem dX6_stand_16 : decode cX6_stand 16 = .ok (.invokestatic 55, 3) := by decide +kernel
theorem dX6_stand_19 : decode cX6_stand 19 = .ok (.ifCond .ne 8, 3) := by decide +kernel
theorem dX6_stand_22 : decode cX6_stand 22 = .ok (.aload_n 0, 1) := by decide +kernel
theorem dX6_stand_23 : decode cX6_stand 23 = .ok (.invokevirtual 63, 3) := by decide +kernel
theorem dX6_stand_26 : decode cX6_stand 26 = .ok (.ireturn, 1) := by decide +kernel
theorem dX6_stand_27 : decode cX6_stand 27 = .ok (.iconst (-1), 1) := by decide +kernel
theorem dX6_stand_28 : decode cX6_stand 28 = .ok (.istore_n 3, 1) := by decide +kernel
theorem dX6_stand_29 : decode cX6_stand 29 = .ok (.ldc 211, 2) := by decide +kernel
theorem dX6_stand_31 : decode cX6_stand 31 = .ok (.istore 4, 2) := by decide +kernel
theorem dX6_stand_33 : decode cX6_stand 33 = .ok (.iconst 0, 1) := by decide +kernel
theorem dX6_stand_34 : decode cX6_stand 34 = .ok (.istore 5, 2) := by decide +kernel
theorem dX6_stand_36 : decode cX6_stand 36 = .ok (.iload 5, 2) := by decide +kernel
theorem dX6_stand_38 : decode cX6_stand 38 = .ok (.bipush 8, 2) := by decide +kernel
theorem dX6_stand_40 : decode cX6_stand 40 = .ok (.if_icmp .ge 59, 3) := by decide +kernel
theorem dX6_stand_43 : decode cX6_stand 43 = .ok (.aload_n 0, 1) := by decide +kernel
theorem dX6_stand_44 : decode cX6_stand 44 = .ok (.invokevirtual 205, 3) := by decide +kernel
theorem dX6_stand_47 : decode cX6_stand 47 = .ok (.aload_n 0, 1) := by decide +kernel
theorem dX6_stand_48 : decode cX6_stand 48 = .ok (.getfield 16, 3) := by decide +kernel
theorem dX6_stand_51 : decode cX6_stand 51 = .ok (.bipush 20, 2) := by decide +kernel
theorem dX6_stand_53 : decode cX6_stand 53 = .ok (.iload 5, 2) := by decide +kernel
theorem dX6_stand_55 : decode cX6_stand 55 = .ok (.iastore, 1) := by decide +kernel
theorem dX6_stand_56 : decode cX6_stand 56 = .ok (.aload_n 0, 1) := by decide +kernel
theorem dX6_stand_57 : decode cX6_stand 57 = .ok (.iload_n 1, 1) := by decide +kernel
theorem dX6_stand_58 : decode cX6_stand 58 = .ok (.invokevirtual 208, 3) := by decide +kernel
theorem dX6_stand_61 : decode cX6_stand 61 = .ok (.istore 6, 2) := by decide +kernel
theorem dX6_stand_63 : decode cX6_stand 63 = .ok (.iload 6, 2) := by decide +kernel
theorem dX6_stand_65 : decode cX6_stand 65 = .ok (.iload 4, 2) := by decide +kernel
theorem dX6_stand_67 : decode cX6_stand 67 = .ok (.if_icmp .ge 8, 3) := by decide +kernel
theorem dX6_stand_70 : decode cX6_stand 70 = .ok (.iload 5, 2) := by decide +kernel
theorem dX6_stand_72 : decode cX6_stand 72 = .ok (.goto 4, 3) := by decide +kernel
theorem dX6_stand_75 : decode cX6_stand 75 = .ok (.iload_n 3, 1) := by decide +kernel
theorem dX6_stand_76 : decode cX6_stand 76 = .ok (.istore_n 3, 1) := by decide +kernel
theorem dX6_stand_77 : decode cX6_stand 77 = .ok (.iload 6, 2) := by decide +kernel
theorem dX6_stand_79 : decode cX6_stand 79 = .ok (.iload 4, 2) := by decide +kernel
theorem dX6_stand_81 : decode cX6_stand 81 = .ok (.if_icmp .ge 8, 3) := by decide +kernel
theorem dX6_stand_84 : decode cX6_stand 84 = .ok (.iload 6, 2) := by decide +kernel
theorem dX6_stand_86 : decode cX6_stand 86 = .ok (.goto 5, 3) := by decide +kernel
theorem dX6_stand_89 : decode cX6_stand 89 = .ok (.iload 4, 2) := by decide +kernel
theorem dX6_stand_91 : decode cX6_stand 91 = .ok (.istore 4, 2) := by decide +kernel
theorem dX6_stand_93 : decode cX6_stand 93 = .ok (.iinc 5 1, 3) := by decide +kernel
theorem dX6_stand_96 : decode cX6_stand 96 = .ok (.goto (-60), 3) := by decide +kernel
theorem dX6_stand_99 : decode cX6_stand 99 = .ok (.iload_n 2, 1) := by decide +kernel
theorem dX6_stand_100 : decode cX6_stand 100 = .ok (.ifCond .ne 7, 3) := by decide +kernel
theorem dX6_stand_103 : decode cX6_stand 103 = .ok (.iload_n 3, 1) := by decide +kernel
theorem dX6_stand_104 : decode cX6_stand 104 = .ok (.goto 5, 3) := by decide +kernel
theorem dX6_stand_107 : decode cX6_stand 107 = .ok (.iload 4, 2) := by decide +kernel
theorem dX6_stand_109 : decode cX6_stand 109 = .ok (.ireturn, 1) := by decide +kernel
theorem dX6_helps_0 : decode cX6_helps 0 = .ok (.aload_n 0, 1) := by decide +kernel
theorem dX6_helps_1 : decode cX6_helps 1 = .ok (.invokevirtual 205, 3) := by decide +kernel
theorem dX6_helps_4 : decode cX6_helps 4 = .ok (.aload_n 0, 1) := by decide +kernel
theorem dX6_helps_5 : decode cX6_helps 5 = .ok (.bipush 20, 2) := by decide +kernel
theorem dX6_helps_7 : decode cX6_helps 7 = .ok (.invokevirtual 208, 3) := by decide +kernel
theorem dX6_helps_10 : decode cX6_helps 10 = .ok (.istore_n 1, 1) := by decide +kernel
theorem dX6_helps_11 : decode cX6_helps 11 = .ok (.iconst (-1), 1) := by decide +kernel
theorem dX6_helps_12 : decode cX6_helps 12 = .ok (.istore_n 2, 1) := by decide +kernel
theorem dX6_helps_13 : decode cX6_helps 13 = .ok (.iconst 0, 1) := by decide +kernel
theorem dX6_helps_14 : decode cX6_helps 14 = .ok (.istore_n 3, 1) := by decide +kernel
theorem dX6_helps_15 : decode cX6_helps 15 = .ok (.iload_n 3, 1) := by decide +kernel
theorem dX6_helps_16 : decode cX6_helps 16 = .ok (.aload_n 0, 1) := by decide +kernel
theorem dX6_helps_17 : decode cX6_helps 17 = .ok (.getfield 7, 3) := by decide +kernel
theorem dX6_helps_20 : decode cX6_helps 20 = .ok (.bipush 22, 2) := by decide +kernel
theorem dX6_helps_22 : decode cX6_helps 22 = .ok (.iaload, 1) := by decide +kernel
theorem dX6_helps_23 : decode cX6_helps 23 = .ok (.if_icmp .ge 105, 3) := by decide +kernel
theorem dX6_helps_26 : decode cX6_helps 26 = .ok (.iconst 0, 1) := by decide +kernel
theorem dX6_helps_27 : decode cX6_helps 27 = .ok (.istore 4, 2) := by decide +kernel
theorem dX6_helps_29 : decode cX6_helps 29 = .ok (.iload 4, 2) := by decide +kernel
theorem dX6_helps_31 : decode cX6_helps 31 = .ok (.bipush 10, 2) := by decide +kernel
theorem dX6_helps_33 : decode cX6_helps 33 = .ok (.if_icmp .ge 89, 3) := by decide +kernel
theorem dX6_helps_36 : decode cX6_helps 36 = .ok (.aload_n 0, 1) := by decide +kernel
theorem dX6_helps_37 : decode cX6_helps 37 = .ok (.invokevirtual 205, 3) := by decide +kernel
theorem dX6_helps_40 : decode cX6_helps 40 = .ok (.aload_n 0, 1) := by decide +kernel
theorem dX6_helps_41 : decode cX6_helps 41 = .ok (.iload 4, 2) := by decide +kernel
theorem dX6_helps_43 : decode cX6_helps 43 = .ok (.invokevirtual 208, 3) := by decide +kernel
theorem dX6_helps_46 : decode cX6_helps 46 = .ok (.istore 5, 2) := by decide +kernel
theorem dX6_helps_48 : decode cX6_helps 48 = .ok (.aload_n 0, 1) := by decide +kernel
theorem dX6_helps_49 : decode cX6_helps 49 = .ok (.getfield 16, 3) := by decide +kernel
theorem dX6_helps_52 : decode cX6_helps 52 = .ok (.bipush 6, 2) := by decide +kernel
theorem dX6_helps_54 : decode cX6_helps 54 = .ok (.iload_n 3, 1) := by decide +kernel
theorem dX6_helps_55 : decode cX6_helps 55 = .ok (.iadd, 1) := by decide +kernel
theorem dX6_helps_56 : decode cX6_helps 56 = .ok (.aload_n 0, 1) := by decide +kernel
theorem dX6_helps_57 : decode cX6_helps 57 = .ok (.getfield 16, 3) := by decide +kernel
theorem dX6_helps_60 : decode cX6_helps 60 = .ok (.bipush 6, 2) := by decide +kernel
theorem dX6_helps_62 : decode cX6_helps 62 = .ok (.iload_n 3, 1) := by decide +kernel
theorem dX6_helps_63 : decode cX6_helps 63 = .ok (.iadd, 1) := by decide +kernel
theorem dX6_helps_64 : decode cX6_helps 64 = .ok (.iaload, 1) := by decide +kernel
theorem dX6_helps_65 : decode cX6_helps 65 = .ok (.bipush 10, 2) := by decide +kernel
theorem dX6_helps_67 : decode cX6_helps 67 = .ok (.invokestatic 128, 3) := by decide +kernel
theorem dX6_helps_70 : decode cX6_helps 70 = .ok (.iastore, 1) := by decide +kernel
theorem dX6_helps_71 : decode cX6_helps 71 = .ok (.iload 5, 2) := by decide +kernel
theorem dX6_helps_73 : decode cX6_helps 73 = .ok (.aload_n 0, 1) := by decide +kernel
theorem dX6_helps_74 : decode cX6_helps 74 = .ok (.bipush 20, 2) := by decide +kernel
theorem dX6_helps_76 : decode cX6_helps 76 = .ok (.iload 4, 2) := by decide +kernel
theorem dX6_helps_78 : decode cX6_helps 78 = .ok (.isub, 1) := by decide +kernel
theorem dX6_helps_79 : decode cX6_helps 79 = .ok (.invokevirtual 208, 3) := by decide +kernel
theorem dX6_helps_82 : decode cX6_helps 82 = .ok (.iadd, 1) := by decide +kernel
theorem dX6_helps_83 : decode cX6_helps 83 = .ok (.istore 5, 2) := by decide +kernel
theorem dX6_helps_85 : decode cX6_helps 85 = .ok (.iload 5, 2) := by decide +kernel
theorem dX6_helps_87 : decode cX6_helps 87 = .ok (.iload_n 1, 1) := by decide +kernel
theorem dX6_helps_88 : decode cX6_helps 88 = .ok (.if_icmp .ge 13, 3) := by decide +kernel
theorem dX6_helps_91 : decode cX6_helps 91 = .ok (.bipush 10, 2) := by decide +kernel
theorem dX6_helps_93 : decode cX6_helps 93 = .ok (.iload_n 3, 1) := by decide +kernel
theorem dX6_helps_94 : decode cX6_helps 94 = .ok (.imul, 1) := by decide +kernel
theorem dX6_helps_95 : decode cX6_helps 95 = .ok (.iload 4, 2) := by decide +kernel
theorem dX6_helps_97 : decode cX6_helps 97 = .ok (.iadd, 1) := by decide +kernel
theorem dX6_helps_98 : decode cX6_helps 98 = .ok (.goto 4, 3) := by decide +kernel
theorem dX6_helps_101 : decode cX6_helps 101 = .ok (.iload_n 2, 1) := by decide +kernel
theorem dX6_helps_102 : decode cX6_helps 102 = .ok (.istore_n 2, 1) := by decide +kernel
theorem dX6_helps_103 : decode cX6_helps 103 = .ok (.iload 5, 2) := by decide +kernel
theorem dX6_helps_105 : decode cX6_helps 105 = .ok (.iload_n 1, 1) := by decide +kernel
theorem dX6_helps_106 : decode cX6_helps 106 = .ok (.if_icmp .ge 8, 3) := by decide +kernel
theorem dX6_helps_109 : decode cX6_helps 109 = .ok (.iload 5, 2) := by decide +kernel
theorem dX6_helps_111 : decode cX6_helps 111 = .ok (.goto 4, 3) := by decide +kernel

set_option maxHeartbeats 1000000 in
set_option maxRecDepth 100000 in
theorem c_X6_note (l : Launch) (G : GG) (b : Nat → Nat) (x0 : Int32) (x1 : Int32) (x2 : Int32) (x3 : Int32) (x4 : Int32) (x5 : Int32) (x6 : Int32) (nw : Nat → Int32) (rd : Nat → Int32) (asd : Nat → Int32) (img : Nat → Int32) (kpt : Nat → Int32) (txt : Nat → Int32) (sz : Int32) (abv : Int64) (blw : Int64) (bds : Int32) (nos : Int32) (fls : Int32) (att : Int32) (bgn : Int32) (tkn : Int32) (wrd : Int64) (vlu : Int32) (sts : Nat → Int32) (bst : Nat → Int32) (z : Nat) (hz35 : nw 35 = nI z) (hz6 : z ≤ 6) : CT l G yX6_note cX6_note 9 (some .int) 2 46 [.ref (b 0), .int x0, .int x1, .int x2, .int x3, .int x4, .int x5, .int x6] (mW G b nw rd asd img kpt txt sz abv blw bds nos fls att bgn tkn wrd vlu sts bst) (some (.int (if (inI x0 0 (nw 22 - 1) && (inI x1 0 30 && (inI x2 0 2 && (inI x3 0 20 && (inI x4 0 9 && (inI x5 0 6 && inI x6 0 60)))))) then (if z = 6 then -4 else nI (z + 1)) else -2))) (mW G b (if (inI x0 0 (nw 22 - 1) && (inI x1 0 30 && (inI x2 0 2 && (inI x3 0 20 && (inI x4 0 9 && (inI x5 0 6 && inI x6 0 60)))))) = true ∧ ¬ z = 6 then ntM nw z x0 x1 x2 x3 x4 x5 x6 else nw) rd asd img kpt txt sz abv blw (if (inI x0 0 (nw 22 - 1) && (inI x1 0 30 && (inI x2 0 2 && (inI x3 0 20 && (inI x4 0 9 && (inI x5 0 6 && inI x6 0 60)))))) then bds else bds + 1) nos (if (inI x0 0 (nw 22 - 1) && (inI x1 0 30 && (inI x2 0 2 && (inI x3 0 20 && (inI x4 0 9 && (inI x5 0 6 && inI x6 0 60)))))) = true ∧ z = 6 then fls + 1 else fls) att bgn tkn wrd vlu sts bst) := by
  refine CT.mk (own := RX6) (la := [(0, .ref (b 0)), (1, .int x0), (2, .int x1), (3, .int x2), (4, .int x3), (5, .int x4), (6, .int x5), (7, .int x6)]) (by decide) rfl (Nat.le_of_ble_eq_true rfl) rfl ?_
  intro p e s m args below meth c A Q E hA hw rt ls hl
  have hx := E.1
  have hb := E.2.1
  refine lv_aload_n hx hb dX6_note_0 rfl (lv_at hl 0 rfl) ?_
  refine lv_iload_n hx hb dX6_note_1 rfl (lv_at hl 1 rfl) ?_
  refine x_callV (is := [0, 1, 2, 3, 4, 5, 6, 7, 8]) (q0 := 0) (As := [.int x0]) (rest := []) (st1 := [.int (bI (inI x0 0 (nw 22 - 1)))]) (ws' := mW G b nw rd asd img kpt txt sz abv blw bds nos fls att bgn tkn wrd vlu sts bst) E (c_X6_isChild l G b x0 nw rd asd img kpt txt sz abv blw bds nos fls att bgn tkn wrd vlu sts bst) vw_X6_197 hw [0, 1, 2, 3, 4, 5, 6, 7, 8] rfl rfl rfl rfl rfl rfl rfl hl.1 rfl rfl (Nat.le_of_ble_eq_true rfl) ⟨Nat.le_of_ble_eq_true rfl, Nat.le_of_ble_eq_true rfl⟩ (Nat.zero_le _) (Nat.zero_le _) dX6_note_2 rfl rfl (fun H locs hw => ?_)
  refine lv_if_eq (tgt := 84) hx hb dX6_note_5 rfl (fun cq5 => ?_) (fun cq5 => ?_)
  · skip
    have cq5 := bI_0.mp cq5
    refine lv_aload_n hx hb dX6_note_84 rfl (lv_at hl 0 rfl) ?_
    refine x_callV (is := [0, 1, 2, 3, 4, 5, 6, 7, 8]) (q0 := 0) (As := []) (rest := []) (st1 := [.int (-2)]) (ws' := mW G b nw rd asd img kpt txt sz abv blw (bds + 1) nos fls att bgn tkn wrd vlu sts bst) E (c_X6_bad l G b nw rd asd img kpt txt sz abv blw bds nos fls att bgn tkn wrd vlu sts bst) vw_X6_63 hw [0, 1, 2, 3, 4, 5, 6, 7, 8] rfl rfl rfl rfl rfl rfl rfl hl.1 rfl rfl (Nat.le_of_ble_eq_true rfl) ⟨Nat.le_of_ble_eq_true rfl, Nat.le_of_ble_eq_true rfl⟩ (Nat.zero_le _) (Nat.zero_le _) dX6_note_85 rfl rfl (fun H locs hw => ?_)
    exact x_iret E hA rt hw dX6_note_88 (by simp [cq5]) (by simp [ntM, cq5])
  · skip
    have cq5 := bI_n0.mp cq5
    refine lv_iload_n hx hb dX6_note_8 rfl (lv_at hl 2 rfl) ?_
    refine lv_i2l (v := x1.toInt64) hx hb dX6_note_9 rfl ?_
    refine lv_lconst (v := 0) hx hb dX6_note_10 rfl ?_
    refine lv_ldc2 hx hb E.2.2.2.1 (E.2.2.2.2.2.2.w kc_X6_71) dX6_note_11 ?_
    refine x_callS (is := []) (As := [.long x1.toInt64, .long 0, .long 30]) (rest := []) (st1 := [.int (bI (inL x1.toInt64 0 30))]) (ws' := mW G b nw rd asd img kpt txt sz abv blw bds nos fls att bgn tkn wrd vlu sts bst) E (c_X6_in l G x1.toInt64 0 30) sw_X6_55 hw [] rfl rfl rfl rfl hl.1 rfl rfl (Nat.le_of_ble_eq_true rfl) ⟨Nat.le_of_ble_eq_true rfl, Nat.le_of_ble_eq_true rfl⟩ (Nat.zero_le _) (Nat.zero_le _) dX6_note_14 rfl rfl (fun H locs hw => ?_)
    refine x_topi (y := bI (inI x1 0 30)) (congrArg bI (inL_I x1 0 30 rfl rfl)) ?_
    refine lv_if_eq (tgt := 84) hx hb dX6_note_17 rfl (fun cq17 => ?_) (fun cq17 => ?_)
    · skip
      have cq17 := bI_0.mp cq17
      refine lv_aload_n hx hb dX6_note_84 rfl (lv_at hl 0 rfl) ?_
      refine x_callV (is := [0, 1, 2, 3, 4, 5, 6, 7, 8]) (q0 := 0) (As := []) (rest := []) (st1 := [.int (-2)]) (ws' := mW G b nw rd asd img kpt txt sz abv blw (bds + 1) nos fls att bgn tkn wrd vlu sts bst) E (c_X6_bad l G b nw rd asd img kpt txt sz abv blw bds nos fls att bgn tkn wrd vlu sts bst) vw_X6_63 hw [0, 1, 2, 3, 4, 5, 6, 7, 8] rfl rfl rfl rfl rfl rfl rfl hl.1 rfl rfl (Nat.le_of_ble_eq_true rfl) ⟨Nat.le_of_ble_eq_true rfl, Nat.le_of_ble_eq_true rfl⟩ (Nat.zero_le _) (Nat.zero_le _) dX6_note_85 rfl rfl (fun H locs hw => ?_)
      exact x_iret E hA rt hw dX6_note_88 (by simp [cq5, cq17]) (by simp [ntM, cq5, cq17])
    · skip
      have cq17 := bI_n0.mp cq17
      refine lv_iload_n hx hb dX6_note_20 rfl (lv_at hl 3 rfl) ?_
      refine lv_i2l (v := x2.toInt64) hx hb dX6_note_21 rfl ?_
      refine lv_lconst (v := 0) hx hb dX6_note_22 rfl ?_
      refine lv_ldc2 hx hb E.2.2.2.1 (E.2.2.2.2.2.2.w kc_X6_200) dX6_note_23 ?_
      refine x_callS (is := []) (As := [.long x2.toInt64, .long 0, .long 2]) (rest := []) (st1 := [.int (bI (inL x2.toInt64 0 2))]) (ws' := mW G b nw rd asd img kpt txt sz abv blw bds nos fls att bgn tkn wrd vlu sts bst) E (c_X6_in l G x2.toInt64 0 2) sw_X6_55 hw [] rfl rfl rfl rfl hl.1 rfl rfl (Nat.le_of_ble_eq_true rfl) ⟨Nat.le_of_ble_eq_true rfl, Nat.le_of_ble_eq_true rfl⟩ (Nat.zero_le _) (Nat.zero_le _) dX6_note_26 rfl rfl (fun H locs hw => ?_)
      refine x_topi (y := bI (inI x2 0 2)) (congrArg bI (inL_I x2 0 2 rfl rfl)) ?_
      refine lv_if_eq (tgt := 84) hx hb dX6_note_29 rfl (fun cq29 => ?_) (fun cq29 => ?_)
      · skip
        have cq29 := bI_0.mp cq29
        refine lv_aload_n hx hb dX6_note_84 rfl (lv_at hl 0 rfl) ?_
        refine x_callV (is := [0, 1, 2, 3, 4, 5, 6, 7, 8]) (q0 := 0) (As := []) (rest := []) (st1 := [.int (-2)]) (ws' := mW G b nw rd asd img kpt txt sz abv blw (bds + 1) nos fls att bgn tkn wrd vlu sts bst) E (c_X6_bad l G b nw rd asd img kpt txt sz abv blw bds nos fls att bgn tkn wrd vlu sts bst) vw_X6_63 hw [0, 1, 2, 3, 4, 5, 6, 7, 8] rfl rfl rfl rfl rfl rfl rfl hl.1 rfl rfl (Nat.le_of_ble_eq_true rfl) ⟨Nat.le_of_ble_eq_true rfl, Nat.le_of_ble_eq_true rfl⟩ (Nat.zero_le _) (Nat.zero_le _) dX6_note_85 rfl rfl (fun H locs hw => ?_)
        exact x_iret E hA rt hw dX6_note_88 (by simp [cq5, cq17, cq29]) (by simp [ntM, cq5, cq17, cq29])
      · skip
        have cq29 := bI_n0.mp cq29
        refine lv_iload hx hb dX6_note_32 (lv_at hl 4 rfl) ?_
        refine lv_i2l (v := x3.toInt64) hx hb dX6_note_34 rfl ?_
        refine lv_lconst (v := 0) hx hb dX6_note_35 rfl ?_
        refine lv_ldc2 hx hb E.2.2.2.1 (E.2.2.2.2.2.2.w kc_X6_69) dX6_note_36 ?_
        refine x_callS (is := []) (As := [.long x3.toInt64, .long 0, .long 20]) (rest := []) (st1 := [.int (bI (inL x3.toInt64 0 20))]) (ws' := mW G b nw rd asd img kpt txt sz abv blw bds nos fls att bgn tkn wrd vlu sts bst) E (c_X6_in l G x3.toInt64 0 20) sw_X6_55 hw [] rfl rfl rfl rfl hl.1 rfl rfl (Nat.le_of_ble_eq_true rfl) ⟨Nat.le_of_ble_eq_true rfl, Nat.le_of_ble_eq_true rfl⟩ (Nat.zero_le _) (Nat.zero_le _) dX6_note_39 rfl rfl (fun H locs hw => ?_)
        refine x_topi (y := bI (inI x3 0 20)) (congrArg bI (inL_I x3 0 20 rfl rfl)) ?_
        refine lv_if_eq (tgt := 84) hx hb dX6_note_42 rfl (fun cq42 => ?_) (fun cq42 => ?_)
        · skip
          have cq42 := bI_0.mp cq42
          refine lv_aload_n hx hb dX6_note_84 rfl (lv_at hl 0 rfl) ?_
          refine x_callV (is := [0, 1, 2, 3, 4, 5, 6, 7, 8]) (q0 := 0) (As := []) (rest := []) (st1 := [.int (-2)]) (ws' := mW G b nw rd asd img kpt txt sz abv blw (bds + 1) nos fls att bgn tkn wrd vlu sts bst) E (c_X6_bad l G b nw rd asd img kpt txt sz abv blw bds nos fls att bgn tkn wrd vlu sts bst) vw_X6_63 hw [0, 1, 2, 3, 4, 5, 6, 7, 8] rfl rfl rfl rfl rfl rfl rfl hl.1 rfl rfl (Nat.le_of_ble_eq_true rfl) ⟨Nat.le_of_ble_eq_true rfl, Nat.le_of_ble_eq_true rfl⟩ (Nat.zero_le _) (Nat.zero_le _) dX6_note_85 rfl rfl (fun H locs hw => ?_)
          exact x_iret E hA rt hw dX6_note_88 (by simp [cq5, cq17, cq29, cq42]) (by simp [ntM, cq5, cq17, cq29, cq42])
        · skip
          have cq42 := bI_n0.mp cq42
          refine lv_iload hx hb dX6_note_45 (lv_at hl 5 rfl) ?_
          refine lv_i2l (v := x4.toInt64) hx hb dX6_note_47 rfl ?_
          refine lv_lconst (v := 0) hx hb dX6_note_48 rfl ?_
          refine lv_ldc2 hx hb E.2.2.2.1 (E.2.2.2.2.2.2.w kc_X6_215) dX6_note_49 ?_
          refine x_callS (is := []) (As := [.long x4.toInt64, .long 0, .long 9]) (rest := []) (st1 := [.int (bI (inL x4.toInt64 0 9))]) (ws' := mW G b nw rd asd img kpt txt sz abv blw bds nos fls att bgn tkn wrd vlu sts bst) E (c_X6_in l G x4.toInt64 0 9) sw_X6_55 hw [] rfl rfl rfl rfl hl.1 rfl rfl (Nat.le_of_ble_eq_true rfl) ⟨Nat.le_of_ble_eq_true rfl, Nat.le_of_ble_eq_true rfl⟩ (Nat.zero_le _) (Nat.zero_le _) dX6_note_52 rfl rfl (fun H locs hw => ?_)
          refine x_topi (y := bI (inI x4 0 9)) (congrArg bI (inL_I x4 0 9 rfl rfl)) ?_
          refine lv_if_eq (tgt := 84) hx hb dX6_note_55 rfl (fun cq55 => ?_) (fun cq55 => ?_)
          · skip
            have cq55 := bI_0.mp cq55
            refine lv_aload_n hx hb dX6_note_84 rfl (lv_at hl 0 rfl) ?_
            refine x_callV (is := [0, 1, 2, 3, 4, 5, 6, 7, 8]) (q0 := 0) (As := []) (rest := []) (st1 := [.int (-2)]) (ws' := mW G b nw rd asd img kpt txt sz abv blw (bds + 1) nos fls att bgn tkn wrd vlu sts bst) E (c_X6_bad l G b nw rd asd img kpt txt sz abv blw bds nos fls att bgn tkn wrd vlu sts bst) vw_X6_63 hw [0, 1, 2, 3, 4, 5, 6, 7, 8] rfl rfl rfl rfl rfl rfl rfl hl.1 rfl rfl (Nat.le_of_ble_eq_true rfl) ⟨Nat.le_of_ble_eq_true rfl, Nat.le_of_ble_eq_true rfl⟩ (Nat.zero_le _) (Nat.zero_le _) dX6_note_85 rfl rfl (fun H locs hw => ?_)
            exact x_iret E hA rt hw dX6_note_88 (by simp [cq5, cq17, cq29, cq42, cq55]) (by simp [ntM, cq5, cq17, cq29, cq42, cq55])
          · skip
            have cq55 := bI_n0.mp cq55
            refine lv_iload hx hb dX6_note_58 (lv_at hl 6 rfl) ?_
            refine lv_i2l (v := x5.toInt64) hx hb dX6_note_60 rfl ?_
            refine lv_lconst (v := 0) hx hb dX6_note_61 rfl ?_
            refine lv_ldc2 hx hb E.2.2.2.1 (E.2.2.2.2.2.2.w kc_X6_217) dX6_note_62 ?_
            refine x_callS (is := []) (As := [.long x5.toInt64, .long 0, .long 6]) (rest := []) (st1 := [.int (bI (inL x5.toInt64 0 6))]) (ws' := mW G b nw rd asd img kpt txt sz abv blw bds nos fls att bgn tkn wrd vlu sts bst) E (c_X6_in l G x5.toInt64 0 6) sw_X6_55 hw [] rfl rfl rfl rfl hl.1 rfl rfl (Nat.le_of_ble_eq_true rfl) ⟨Nat.le_of_ble_eq_true rfl, Nat.le_of_ble_eq_true rfl⟩ (Nat.zero_le _) (Nat.zero_le _) dX6_note_65 rfl rfl (fun H locs hw => ?_)
            refine x_topi (y := bI (inI x5 0 6)) (congrArg bI (inL_I x5 0 6 rfl rfl)) ?_
            refine lv_if_eq (tgt := 84) hx hb dX6_note_68 rfl (fun cq68 => ?_) (fun cq68 => ?_)
            · skip
              have cq68 := bI_0.mp cq68
              refine lv_aload_n hx hb dX6_note_84 rfl (lv_at hl 0 rfl) ?_
              refine x_callV (is := [0, 1, 2, 3, 4, 5, 6, 7, 8]) (q0 := 0) (As := []) (rest := []) (st1 := [.int (-2)]) (ws' := mW G b nw rd asd img kpt txt sz abv blw (bds + 1) nos fls att bgn tkn wrd vlu sts bst) E (c_X6_bad l G b nw rd asd img kpt txt sz abv blw bds nos fls att bgn tkn wrd vlu sts bst) vw_X6_63 hw [0, 1, 2, 3, 4, 5, 6, 7, 8] rfl rfl rfl rfl rfl rfl rfl hl.1 rfl rfl (Nat.le_of_ble_eq_true rfl) ⟨Nat.le_of_ble_eq_true rfl, Nat.le_of_ble_eq_true rfl⟩ (Nat.zero_le _) (Nat.zero_le _) dX6_note_85 rfl rfl (fun H locs hw => ?_)
              exact x_iret E hA rt hw dX6_note_88 (by simp [cq5, cq17, cq29, cq42, cq55, cq68]) (by simp [ntM, cq5, cq17, cq29, cq42, cq55, cq68])
            · skip
              have cq68 := bI_n0.mp cq68
              refine lv_iload hx hb dX6_note_71 (lv_at hl 7 rfl) ?_
              refine lv_i2l (v := x6.toInt64) hx hb dX6_note_73 rfl ?_
              refine lv_lconst (v := 0) hx hb dX6_note_74 rfl ?_
              refine lv_ldc2 hx hb E.2.2.2.1 (E.2.2.2.2.2.2.w kc_X6_188) dX6_note_75 ?_
              refine x_callS (is := []) (As := [.long x6.toInt64, .long 0, .long 60]) (rest := []) (st1 := [.int (bI (inL x6.toInt64 0 60))]) (ws' := mW G b nw rd asd img kpt txt sz abv blw bds nos fls att bgn tkn wrd vlu sts bst) E (c_X6_in l G x6.toInt64 0 60) sw_X6_55 hw [] rfl rfl rfl rfl hl.1 rfl rfl (Nat.le_of_ble_eq_true rfl) ⟨Nat.le_of_ble_eq_true rfl, Nat.le_of_ble_eq_true rfl⟩ (Nat.zero_le _) (Nat.zero_le _) dX6_note_78 rfl rfl (fun H locs hw => ?_)
              refine x_topi (y := bI (inI x6 0 60)) (congrArg bI (inL_I x6 0 60 rfl rfl)) ?_
              refine lv_if_ne (tgt := 89) hx hb dX6_note_81 rfl (fun cq81 => ?_) (fun cq81 => ?_)
              · skip
                have cq81 := bI_n0.mp cq81
                refine lv_aload_n hx hb dX6_note_89 rfl (lv_at hl 0 rfl) ?_
                refine x_get E hw fw_X6_7 0 rfl rfl dX6_note_90 ?_
                refine lv_bipush (v := 35) hx hb dX6_note_93 rfl ?_
                refine x_iald E hw 1 rfl 35 (rfl) (by omega) (by omega) dX6_note_95 ?_
                refine lv_bipush (v := 6) hx hb dX6_note_96 rfl ?_
                refine lv_icmp_ne (tgt := 106) hx hb dX6_note_98 rfl (fun cq98 => ?_) (fun cq98 => ?_)
                · skip
                  have cq98 : ¬ z = 6 := fun h => cq98 ((cv_eq (a := z) (b := 6) hz35 rfl (by omega) (by omega)).mpr h)
                  refine lv_bipush (v := 36) hx hb dX6_note_106 rfl ?_
                  refine lv_bipush (v := 7) hx hb dX6_note_108 rfl ?_
                  refine lv_aload_n hx hb dX6_note_110 rfl (lv_at hl 0 rfl) ?_
                  refine x_get E hw fw_X6_7 0 rfl rfl dX6_note_111 ?_
                  refine lv_bipush (v := 35) hx hb dX6_note_114 rfl ?_
                  refine x_iald E hw 1 rfl 35 (rfl) (by omega) (by omega) dX6_note_116 ?_
                  refine lv_imul hx hb dX6_note_117 ?_
                  refine lv_iadd hx hb dX6_note_118 ?_
                  refine lv_istore (lv' := [(8, .int (36 + (7 * (nw 35)))), (0, .ref (b 0)), (1, .int x0), (2, .int x1), (3, .int x2), (4, .int x3), (5, .int x4), (6, .int x5), (7, .int x6)]) hx hb dX6_note_119 hl (by decide) rfl (fun ls hl => ?_)
                  refine lv_aload_n hx hb dX6_note_121 rfl (lv_at hl 1 rfl) ?_
                  refine x_get E hw fw_X6_7 0 rfl rfl dX6_note_122 ?_
                  refine lv_iload hx hb dX6_note_125 (lv_at hl 0 rfl) ?_
                  refine lv_iload_n hx hb dX6_note_127 rfl (lv_at hl 2 rfl) ?_
                  refine x_iast (ws' := mW G b (upd nw (36 + (7 * z)) x0) rd asd img kpt txt sz abv blw bds nos fls att bgn tkn wrd vlu sts bst) E hw 1 rfl (36 + (7 * z)) ((ix_add (a := 36) (b := 7 * z) rfl (ix_mul (a := 7) (b := z) rfl hz35))) (by omega) (by omega) dX6_note_128 rfl (fun H locs hw => ?_)
                  refine lv_aload_n hx hb dX6_note_129 rfl (lv_at hl 1 rfl) ?_
                  refine x_get E hw fw_X6_7 0 rfl rfl dX6_note_130 ?_
                  refine lv_iload hx hb dX6_note_133 (lv_at hl 0 rfl) ?_
                  refine lv_iconst (v := 1) hx hb dX6_note_135 rfl ?_
                  refine lv_iadd hx hb dX6_note_136 ?_
                  refine lv_iload_n hx hb dX6_note_137 rfl (lv_at hl 3 rfl) ?_
                  refine x_iast (ws' := mW G b (upd (upd nw (36 + (7 * z)) x0) ((36 + (7 * z)) + 1) x1) rd asd img kpt txt sz abv blw bds nos fls att bgn tkn wrd vlu sts bst) E hw 1 rfl ((36 + (7 * z)) + 1) ((ix_add (a := 36 + (7 * z)) (b := 1) (ix_add (a := 36) (b := 7 * z) rfl (ix_mul (a := 7) (b := z) rfl hz35)) rfl)) (by omega) (by omega) dX6_note_138 rfl (fun H locs hw => ?_)
                  refine lv_aload_n hx hb dX6_note_139 rfl (lv_at hl 1 rfl) ?_
                  refine x_get E hw fw_X6_7 0 rfl rfl dX6_note_140 ?_
                  refine lv_iload hx hb dX6_note_143 (lv_at hl 0 rfl) ?_
                  refine lv_iconst (v := 2) hx hb dX6_note_145 rfl ?_
                  refine lv_iadd hx hb dX6_note_146 ?_
                  refine lv_iload_n hx hb dX6_note_147 rfl (lv_at hl 4 rfl) ?_
                  refine x_iast (ws' := mW G b (upd (upd (upd nw (36 + (7 * z)) x0) ((36 + (7 * z)) + 1) x1) ((36 + (7 * z)) + 2) x2) rd asd img kpt txt sz abv blw bds nos fls att bgn tkn wrd vlu sts bst) E hw 1 rfl ((36 + (7 * z)) + 2) ((ix_add (a := 36 + (7 * z)) (b := 2) (ix_add (a := 36) (b := 7 * z) rfl (ix_mul (a := 7) (b := z) rfl hz35)) rfl)) (by omega) (by omega) dX6_note_148 rfl (fun H locs hw => ?_)
                  refine lv_aload_n hx hb dX6_note_149 rfl (lv_at hl 1 rfl) ?_
                  refine x_get E hw fw_X6_7 0 rfl rfl dX6_note_150 ?_
                  refine lv_iload hx hb dX6_note_153 (lv_at hl 0 rfl) ?_
                  refine lv_iconst (v := 3) hx hb dX6_note_155 rfl ?_
                  refine lv_iadd hx hb dX6_note_156 ?_
                  refine lv_iload hx hb dX6_note_157 (lv_at hl 5 rfl) ?_
                  refine x_iast (ws' := mW G b (upd (upd (upd (upd nw (36 + (7 * z)) x0) ((36 + (7 * z)) + 1) x1) ((36 + (7 * z)) + 2) x2) ((36 + (7 * z)) + 3) x3) rd asd img kpt txt sz abv blw bds nos fls att bgn tkn wrd vlu sts bst) E hw 1 rfl ((36 + (7 * z)) + 3) ((ix_add (a := 36 + (7 * z)) (b := 3) (ix_add (a := 36) (b := 7 * z) rfl (ix_mul (a := 7) (b := z) rfl hz35)) rfl)) (by omega) (by omega) dX6_note_159 rfl (fun H locs hw => ?_)
                  refine lv_aload_n hx hb dX6_note_160 rfl (lv_at hl 1 rfl) ?_
                  refine x_get E hw fw_X6_7 0 rfl rfl dX6_note_161 ?_
                  refine lv_iload hx hb dX6_note_164 (lv_at hl 0 rfl) ?_
                  refine lv_iconst (v := 4) hx hb dX6_note_166 rfl ?_
                  refine lv_iadd hx hb dX6_note_167 ?_
                  refine lv_iload hx hb dX6_note_168 (lv_at hl 6 rfl) ?_
                  refine x_iast (ws' := mW G b (upd (upd (upd (upd (upd nw (36 + (7 * z)) x0) ((36 + (7 * z)) + 1) x1) ((36 + (7 * z)) + 2) x2) ((36 + (7 * z)) + 3) x3) ((36 + (7 * z)) + 4) x4) rd asd img kpt txt sz abv blw bds nos fls att bgn tkn wrd vlu sts bst) E hw 1 rfl ((36 + (7 * z)) + 4) ((ix_add (a := 36 + (7 * z)) (b := 4) (ix_add (a := 36) (b := 7 * z) rfl (ix_mul (a := 7) (b := z) rfl hz35)) rfl)) (by omega) (by omega) dX6_note_170 rfl (fun H locs hw => ?_)
                  refine lv_aload_n hx hb dX6_note_171 rfl (lv_at hl 1 rfl) ?_
                  refine x_get E hw fw_X6_7 0 rfl rfl dX6_note_172 ?_
                  refine lv_iload hx hb dX6_note_175 (lv_at hl 0 rfl) ?_
                  refine lv_iconst (v := 5) hx hb dX6_note_177 rfl ?_
                  refine lv_iadd hx hb dX6_note_178 ?_
                  refine lv_iload hx hb dX6_note_179 (lv_at hl 7 rfl) ?_
                  refine x_iast (ws' := mW G b (upd (upd (upd (upd (upd (upd nw (36 + (7 * z)) x0) ((36 + (7 * z)) + 1) x1) ((36 + (7 * z)) + 2) x2) ((36 + (7 * z)) + 3) x3) ((36 + (7 * z)) + 4) x4) ((36 + (7 * z)) + 5) x5) rd asd img kpt txt sz abv blw bds nos fls att bgn tkn wrd vlu sts bst) E hw 1 rfl ((36 + (7 * z)) + 5) ((ix_add (a := 36 + (7 * z)) (b := 5) (ix_add (a := 36) (b := 7 * z) rfl (ix_mul (a := 7) (b := z) rfl hz35)) rfl)) (by omega) (by omega) dX6_note_181 rfl (fun H locs hw => ?_)
                  refine lv_aload_n hx hb dX6_note_182 rfl (lv_at hl 1 rfl) ?_
                  refine x_get E hw fw_X6_7 0 rfl rfl dX6_note_183 ?_
                  refine lv_iload hx hb dX6_note_186 (lv_at hl 0 rfl) ?_
                  refine lv_bipush (v := 6) hx hb dX6_note_188 rfl ?_
                  refine lv_iadd hx hb dX6_note_190 ?_
                  refine lv_iload hx hb dX6_note_191 (lv_at hl 8 rfl) ?_
                  refine x_iast (ws' := mW G b (upd (upd (upd (upd (upd (upd (upd nw (36 + (7 * z)) x0) ((36 + (7 * z)) + 1) x1) ((36 + (7 * z)) + 2) x2) ((36 + (7 * z)) + 3) x3) ((36 + (7 * z)) + 4) x4) ((36 + (7 * z)) + 5) x5) ((36 + (7 * z)) + 6) x6) rd asd img kpt txt sz abv blw bds nos fls att bgn tkn wrd vlu sts bst) E hw 1 rfl ((36 + (7 * z)) + 6) ((ix_add (a := 36 + (7 * z)) (b := 6) (ix_add (a := 36) (b := 7 * z) rfl (ix_mul (a := 7) (b := z) rfl hz35)) rfl)) (by omega) (by omega) dX6_note_193 rfl (fun H locs hw => ?_)
                  refine lv_aload_n hx hb dX6_note_194 rfl (lv_at hl 1 rfl) ?_
                  refine x_get E hw fw_X6_7 0 rfl rfl dX6_note_195 ?_
                  refine lv_bipush (v := 35) hx hb dX6_note_198 rfl ?_
                  refine lv_dup2_11 hx hb dX6_note_200 rfl rfl ?_
                  refine x_iald E hw 1 rfl 35 (rfl) (by omega) (by omega) dX6_note_201 ?_
                  refine lv_iconst (v := 1) hx hb dX6_note_202 rfl ?_
                  refine lv_iadd hx hb dX6_note_203 ?_
                  refine x_topi (y := nI (z + 1)) (by rw [upd_ne _ _ (by omega), upd_ne _ _ (by omega), upd_ne _ _ (by omega), upd_ne _ _ (by omega), upd_ne _ _ (by omega), upd_ne _ _ (by omega), upd_ne _ _ (by omega), hz35]; exact nI_add z 1) ?_
                  refine x_iast (ws' := mW G b (upd (upd (upd (upd (upd (upd (upd (upd nw (36 + (7 * z)) x0) ((36 + (7 * z)) + 1) x1) ((36 + (7 * z)) + 2) x2) ((36 + (7 * z)) + 3) x3) ((36 + (7 * z)) + 4) x4) ((36 + (7 * z)) + 5) x5) ((36 + (7 * z)) + 6) x6) 35 (nI (z + 1))) rd asd img kpt txt sz abv blw bds nos fls att bgn tkn wrd vlu sts bst) E hw 1 rfl 35 (rfl) (by omega) (by omega) dX6_note_204 rfl (fun H locs hw => ?_)
                  refine lv_aload_n hx hb dX6_note_205 rfl (lv_at hl 1 rfl) ?_
                  refine x_get E hw fw_X6_7 0 rfl rfl dX6_note_206 ?_
                  refine lv_bipush (v := 35) hx hb dX6_note_209 rfl ?_
                  refine x_iald E hw 1 rfl 35 (rfl) (by omega) (by omega) dX6_note_211 ?_
                  refine x_topi (y := nI (z + 1)) (upd_at _ _ _) ?_
                  exact x_iret E hA rt hw dX6_note_212 (by simp [cq5, cq17, cq29, cq42, cq55, cq68, cq81, cq98]) (by simp [ntM, cq5, cq17, cq29, cq42, cq55, cq68, cq81, cq98])
                · skip
                  have cq98 : z = 6 := (cv_eq (a := z) (b := 6) hz35 rfl (by omega) (by omega)).mp cq98
                  refine lv_aload_n hx hb dX6_note_101 rfl (lv_at hl 0 rfl) ?_
                  refine x_callV (is := [0, 1, 2, 3, 4, 5, 6, 7, 8]) (q0 := 0) (As := []) (rest := []) (st1 := [.int (-4)]) (ws' := mW G b nw rd asd img kpt txt sz abv blw bds nos (fls + 1) att bgn tkn wrd vlu sts bst) E (c_X6_full l G b nw rd asd img kpt txt sz abv blw bds nos fls att bgn tkn wrd vlu sts bst) vw_X6_80 hw [0, 1, 2, 3, 4, 5, 6, 7, 8] rfl rfl rfl rfl rfl rfl rfl hl.1 rfl rfl (Nat.le_of_ble_eq_true rfl) ⟨Nat.le_of_ble_eq_true rfl, Nat.le_of_ble_eq_true rfl⟩ (Nat.zero_le _) (Nat.zero_le _) dX6_note_102 rfl rfl (fun H locs hw => ?_)
                  exact x_iret E hA rt hw dX6_note_105 (by simp [cq5, cq17, cq29, cq42, cq55, cq68, cq81, cq98]) (by simp [ntM, cq5, cq17, cq29, cq42, cq55, cq68, cq81, cq98])
              · skip
                have cq81 := bI_0.mp cq81
                refine lv_aload_n hx hb dX6_note_84 rfl (lv_at hl 0 rfl) ?_
                refine x_callV (is := [0, 1, 2, 3, 4, 5, 6, 7, 8]) (q0 := 0) (As := []) (rest := []) (st1 := [.int (-2)]) (ws' := mW G b nw rd asd img kpt txt sz abv blw (bds + 1) nos fls att bgn tkn wrd vlu sts bst) E (c_X6_bad l G b nw rd asd img kpt txt sz abv blw bds nos fls att bgn tkn wrd vlu sts bst) vw_X6_63 hw [0, 1, 2, 3, 4, 5, 6, 7, 8] rfl rfl rfl rfl rfl rfl rfl hl.1 rfl rfl (Nat.le_of_ble_eq_true rfl) ⟨Nat.le_of_ble_eq_true rfl, Nat.le_of_ble_eq_true rfl⟩ (Nat.zero_le _) (Nat.zero_le _) dX6_note_85 rfl rfl (fun H locs hw => ?_)
                exact x_iret E hA rt hw dX6_note_88 (by simp [cq5, cq17, cq29, cq42, cq55, cq68, cq81]) (by simp [ntM, cq5, cq17, cq29, cq42, cq55, cq68, cq81])
set_option maxHeartbeats 1000000 in
set_option maxRecDepth 100000 in
theorem c_X6_forget (l : Launch) (G : GG) (b : Nat → Nat) (nw : Nat → Int32) (rd : Nat → Int32) (asd : Nat → Int32) (img : Nat → Int32) (kpt : Nat → Int32) (txt : Nat → Int32) (sz : Int32) (abv : Int64) (blw : Int64) (bds : Int32) (nos : Int32) (fls : Int32) (att : Int32) (bgn : Int32) (tkn : Int32) (wrd : Int64) (vlu : Int32) (sts : Nat → Int32) (bst : Nat → Int32) : CT l G yX6_forget cX6_forget 2 (some .int) 0 0 [.ref (b 0)] (mW G b nw rd asd img kpt txt sz abv blw bds nos fls att bgn tkn wrd vlu sts bst) (some (.int (nw 35))) (mW G b (upd nw 35 0) rd asd img kpt txt sz abv blw bds nos fls att bgn tkn wrd vlu sts bst) := by
  refine CT.mk (own := RX6) (la := [(0, .ref (b 0))]) (by decide) rfl (Nat.le_of_ble_eq_true rfl) rfl ?_
  intro p e s m args below meth c A Q E hA hw rt ls hl
  have hx := E.1
  have hb := E.2.1
  refine lv_aload_n hx hb dX6_forget_0 rfl (lv_at hl 0 rfl) ?_
  refine x_get E hw fw_X6_7 0 rfl rfl dX6_forget_1 ?_
  refine lv_bipush (v := 35) hx hb dX6_forget_4 rfl ?_
  refine x_iald E hw 1 rfl 35 (rfl) (by omega) (by omega) dX6_forget_6 ?_
  refine lv_istore_n (lv' := [(1, .int (nw 35)), (0, .ref (b 0))]) hx hb dX6_forget_7 rfl hl (by decide) rfl (fun ls hl => ?_)
  refine lv_aload_n hx hb dX6_forget_8 rfl (lv_at hl 1 rfl) ?_
  refine x_get E hw fw_X6_7 0 rfl rfl dX6_forget_9 ?_
  refine lv_bipush (v := 35) hx hb dX6_forget_12 rfl ?_
  refine lv_iconst (v := 0) hx hb dX6_forget_14 rfl ?_
  refine x_iast (ws' := mW G b (upd nw 35 0) rd asd img kpt txt sz abv blw bds nos fls att bgn tkn wrd vlu sts bst) E hw 1 rfl 35 (rfl) (by omega) (by omega) dX6_forget_15 rfl (fun H locs hw => ?_)
  refine lv_iload_n hx hb dX6_forget_16 rfl (lv_at hl 0 rfl) ?_
  exact x_iret E hA rt hw dX6_forget_17 (rfl) rfl
set_option maxHeartbeats 1000000 in
set_option maxRecDepth 100000 in
theorem c_X6_kindsOf (l : Launch) (G : GG) (b : Nat → Nat) (x : Int32) (nw : Nat → Int32) (rd : Nat → Int32) (asd : Nat → Int32) (img : Nat → Int32) (kpt : Nat → Int32) (txt : Nat → Int32) (sz : Int32) (abv : Int64) (blw : Int64) (bds : Int32) (nos : Int32) (fls : Int32) (att : Int32) (bgn : Int32) (tkn : Int32) (wrd : Int64) (vlu : Int32) (sts : Nat → Int32) (bst : Nat → Int32) (z : Nat) (hz35 : nw 35 = nI z) (hz6 : z ≤ 6) : CT l G yX6_kindsOf cX6_kindsOf 6 (some .int) 2 48 [.ref (b 0), .int x] (mW G b nw rd asd img kpt txt sz abv blw bds nos fls att bgn tkn wrd vlu sts bst) (some (.int (koM nw z x))) (mW G b nw rd asd img kpt txt sz abv blw bds nos fls att bgn tkn wrd vlu sts bst) := by
  refine CT.mk (own := RX6) (la := [(0, .ref (b 0)), (1, .int x)]) (by decide) rfl (Nat.le_of_ble_eq_true rfl) rfl ?_
  intro p e s m args below meth c A Q E hA hw rt ls hl
  have hx := E.1
  have hb := E.2.1
  refine lv_iconst (v := 0) hx hb dX6_kindsOf_0 rfl ?_
  refine lv_istore_n (lv' := [(2, .int 0), (0, .ref (b 0)), (1, .int x)]) hx hb dX6_kindsOf_1 rfl hl (by decide) rfl (fun ls hl => ?_)
  refine lv_iconst (v := 0) hx hb dX6_kindsOf_2 rfl ?_
  refine lv_istore_n (lv' := [(3, .int 0), (2, .int 0), (0, .ref (b 0)), (1, .int x)]) hx hb dX6_kindsOf_3 rfl hl (by decide) rfl (fun ls hl => ?_)
  have lp4 : ∀ (fuel : Nat), ∀ (k : Nat) (acc : Int32) (hk : k ≤ 6) (hiv : acc = btM (fun kd => ksM nw x (nI kd) z) k), (6 - k) < fuel → ∀ (H : Heap) (locs : List Loc) (ls : Array Slot), Wd G A s H locs (mW G b nw rd asd img kpt txt sz abv blw bds nos fls att bgn tkn wrd vlu sts bst) → lv_has ls 6 [(0, .ref (b 0)), (1, .int x), (2, .int acc), (3, .int (nI k))] → W p l e (rmx 2 48) s m args below meth c H locs 0 0 Q (F0 m 4 ls []) := by
    intro fuel
    induction fuel with
    | zero => intro k acc hk hiv hfu; exact absurd hfu (Nat.not_lt_zero _)
    | succ fuel ih4 =>
      intro k acc hk hiv hfu H locs ls hw hl
      refine lv_iload_n hx hb dX6_kindsOf_4 rfl (lv_at hl 3 rfl) ?_
      refine lv_bipush (v := 6) hx hb dX6_kindsOf_5 rfl ?_
      refine lv_icmp_ge (tgt := 147) hx hb dX6_kindsOf_7 rfl (fun cq7 => ?_) (fun cq7 => ?_)
      · skip
        have cq7 : 6 ≤ k := (cv_le (a := 6) (b := k) rfl rfl (by omega) (by omega)).mp cq7
        refine lv_iload_n hx hb dX6_kindsOf_147 rfl (lv_at hl 2 rfl) ?_
        exact x_iret E hA rt hw dX6_kindsOf_148 (by rw [hiv, show k = 6 by omega]; rfl) rfl
      · skip
        have cq7 : ¬ 6 ≤ k := fun h => cq7 ((cv_le (a := 6) (b := k) rfl rfl (by omega) (by omega)).mpr h)
        refine lv_iconst (v := 1) hx hb dX6_kindsOf_10 rfl ?_
        refine lv_istore (lv' := [(4, .int 1), (0, .ref (b 0)), (1, .int x), (2, .int acc), (3, .int (nI k))]) hx hb dX6_kindsOf_11 hl (by decide) rfl (fun ls hl => ?_)
        refine lv_bipush (v := 36) hx hb dX6_kindsOf_13 rfl ?_
        refine lv_istore (lv' := [(5, .int 36), (4, .int 1), (0, .ref (b 0)), (1, .int x), (2, .int acc), (3, .int (nI k))]) hx hb dX6_kindsOf_15 hl (by decide) rfl (fun ls hl => ?_)
        have lp17 : ∀ (fuel : Nat), ∀ (so : Int32) (p_ : Nat) (j : Nat) (hp : p_ = 36 + 7 * j) (hj : j ≤ z) (hso : so = bI (ksM nw x (nI k) j)), (z - j) < fuel → ∀ (H : Heap) (locs : List Loc) (ls : Array Slot), Wd G A s H locs (mW G b nw rd asd img kpt txt sz abv blw bds nos fls att bgn tkn wrd vlu sts bst) → lv_has ls 6 [(0, .ref (b 0)), (1, .int x), (2, .int acc), (3, .int (nI k)), (4, .int so), (5, .int (nI p_))] → W p l e (rmx 2 48) s m args below meth c H locs 0 0 Q (F0 m 17 ls []) := by
          intro fuel
          induction fuel with
          | zero => intro so p_ j hp hj hso hfu; exact absurd hfu (Nat.not_lt_zero _)
          | succ fuel ih17 =>
            intro so p_ j hp hj hso hfu H locs ls hw hl
            refine lv_iload hx hb dX6_kindsOf_17 (lv_at hl 5 rfl) ?_
            refine lv_bipush (v := 36) hx hb dX6_kindsOf_19 rfl ?_
            refine lv_bipush (v := 7) hx hb dX6_kindsOf_21 rfl ?_
            refine lv_aload_n hx hb dX6_kindsOf_23 rfl (lv_at hl 0 rfl) ?_
            refine x_get E hw fw_X6_7 0 rfl rfl dX6_kindsOf_24 ?_
            refine lv_bipush (v := 35) hx hb dX6_kindsOf_27 rfl ?_
            refine x_iald E hw 1 rfl 35 (rfl) (by omega) (by omega) dX6_kindsOf_29 ?_
            refine lv_imul hx hb dX6_kindsOf_30 ?_
            refine lv_iadd hx hb dX6_kindsOf_31 ?_
            refine lv_icmp_ge (tgt := 126) hx hb dX6_kindsOf_32 rfl (fun cq32 => ?_) (fun cq32 => ?_)
            · skip
              have cq32 : 36 + (7 * z) ≤ p_ := (cv_le (a := 36 + (7 * z)) (b := p_) (ix_add (a := 36) (b := 7 * z) rfl (ix_mul (a := 7) (b := z) rfl hz35)) rfl (by omega) (by omega)).mp cq32
              refine lv_iload_n hx hb dX6_kindsOf_126 rfl (lv_at hl 2 rfl) ?_
              refine lv_iload hx hb dX6_kindsOf_127 (lv_at hl 4 rfl) ?_
              refine lv_if_eq (tgt := 138) hx hb dX6_kindsOf_129 rfl (fun cq129 => ?_) (fun cq129 => ?_)
              · skip
                refine lv_iconst (v := 0) hx hb dX6_kindsOf_138 rfl ?_
                refine lv_ior hx hb dX6_kindsOf_139 ?_
                refine lv_istore_n (lv' := [(2, .int (acc ||| 0)), (0, .ref (b 0)), (1, .int x), (3, .int (nI k)), (4, .int so), (5, .int (nI p_))]) hx hb dX6_kindsOf_140 rfl hl (by decide) rfl (fun ls hl => ?_)
                refine lv_iinc (v := nI (k + 1)) (lv' := [(3, .int (nI (k + 1))), (2, .int (acc ||| 0)), (0, .ref (b 0)), (1, .int x), (4, .int so), (5, .int (nI p_))]) hx hb dX6_kindsOf_141 hl (k := 3) rfl (nI_add _ 1) (by decide) rfl (fun ls hl => ?_)
                refine lv_goto (tgt := 4) hx hb dX6_kindsOf_144 rfl ?_
                exact ih4 (k + 1) (acc ||| 0) (by omega) (by rw [hso, show j = z by omega] at cq129; simp [btM, hiv, bI_0.mp cq129]) (by omega) _ _ _ hw (lv_sub hl [2, 3, 1, 0] rfl)
              · skip
                refine lv_iconst (v := 1) hx hb dX6_kindsOf_132 rfl ?_
                refine lv_iload_n hx hb dX6_kindsOf_133 rfl (lv_at hl 3 rfl) ?_
                refine lv_ishl hx hb dX6_kindsOf_134 ?_
                refine lv_goto (tgt := 139) hx hb dX6_kindsOf_135 rfl ?_
                refine lv_ior hx hb dX6_kindsOf_139 ?_
                refine lv_istore_n (lv' := [(2, .int (acc ||| ((1 : Int32) <<< ((nI k) &&& 31)))), (0, .ref (b 0)), (1, .int x), (3, .int (nI k)), (4, .int so), (5, .int (nI p_))]) hx hb dX6_kindsOf_140 rfl hl (by decide) rfl (fun ls hl => ?_)
                refine lv_iinc (v := nI (k + 1)) (lv' := [(3, .int (nI (k + 1))), (2, .int (acc ||| ((1 : Int32) <<< ((nI k) &&& 31)))), (0, .ref (b 0)), (1, .int x), (4, .int so), (5, .int (nI p_))]) hx hb dX6_kindsOf_141 hl (k := 3) rfl (nI_add _ 1) (by decide) rfl (fun ls hl => ?_)
                refine lv_goto (tgt := 4) hx hb dX6_kindsOf_144 rfl ?_
                exact ih4 (k + 1) (acc ||| ((1 : Int32) <<< ((nI k) &&& 31))) (by omega) (by rw [hso, show j = z by omega] at cq129; simp [btM, hiv, bI_n0.mp cq129]) (by omega) _ _ _ hw (lv_sub hl [2, 3, 1, 0] rfl)
            · skip
              have cq32 : ¬ 36 + (7 * z) ≤ p_ := fun h => cq32 ((cv_le (a := 36 + (7 * z)) (b := p_) (ix_add (a := 36) (b := 7 * z) rfl (ix_mul (a := 7) (b := z) rfl hz35)) rfl (by omega) (by omega)).mpr h)
              refine lv_iload hx hb dX6_kindsOf_35 (lv_at hl 4 rfl) ?_
              refine lv_if_eq (tgt := 117) hx hb dX6_kindsOf_37 rfl (fun cq37 => ?_) (fun cq37 => ?_)
              · skip
                refine lv_iconst (v := 0) hx hb dX6_kindsOf_117 rfl ?_
                refine lv_istore (lv' := [(4, .int 0), (0, .ref (b 0)), (1, .int x), (2, .int acc), (3, .int (nI k)), (5, .int (nI p_))]) hx hb dX6_kindsOf_118 hl (by decide) rfl (fun ls hl => ?_)
                refine lv_iinc (v := nI (p_ + 7)) (lv' := [(5, .int (nI (p_ + 7))), (4, .int 0), (0, .ref (b 0)), (1, .int x), (2, .int acc), (3, .int (nI k))]) hx hb dX6_kindsOf_120 hl (k := 5) rfl (nI_add _ 7) (by decide) rfl (fun ls hl => ?_)
                refine lv_goto (tgt := 17) hx hb dX6_kindsOf_123 rfl ?_
                exact ih17 0 (p_ + 7) (j + 1) (by omega) (by omega) (by rw [hso] at cq37; simp [ksM, bI_0.mp cq37, bI]) (by omega) _ _ _ hw (lv_sub hl [2, 3, 4, 5, 1, 0] rfl)
              · skip
                refine lv_aload_n hx hb dX6_kindsOf_40 rfl (lv_at hl 0 rfl) ?_
                refine x_get E hw fw_X6_7 0 rfl rfl dX6_kindsOf_41 ?_
                refine lv_iload hx hb dX6_kindsOf_44 (lv_at hl 5 rfl) ?_
                refine x_iald E hw 1 rfl p_ (rfl) (by omega) (by omega) dX6_kindsOf_46 ?_
                refine lv_iload_n hx hb dX6_kindsOf_47 rfl (lv_at hl 1 rfl) ?_
                refine lv_icmp_ne (tgt := 113) hx hb dX6_kindsOf_48 rfl (fun cq48 => ?_) (fun cq48 => ?_)
                · skip
                  refine lv_iconst (v := 1) hx hb dX6_kindsOf_113 rfl ?_
                  refine lv_goto (tgt := 118) hx hb dX6_kindsOf_114 rfl ?_
                  refine lv_istore (lv' := [(4, .int 1), (0, .ref (b 0)), (1, .int x), (2, .int acc), (3, .int (nI k)), (5, .int (nI p_))]) hx hb dX6_kindsOf_118 hl (by decide) rfl (fun ls hl => ?_)
                  refine lv_iinc (v := nI (p_ + 7)) (lv' := [(5, .int (nI (p_ + 7))), (4, .int 1), (0, .ref (b 0)), (1, .int x), (2, .int acc), (3, .int (nI k))]) hx hb dX6_kindsOf_120 hl (k := 5) rfl (nI_add _ 7) (by decide) rfl (fun ls hl => ?_)
                  refine lv_goto (tgt := 17) hx hb dX6_kindsOf_123 rfl ?_
                  exact ih17 1 (p_ + 7) (j + 1) (by omega) (by omega) (by rw [hso] at cq37; rw [hp] at cq48; simp [ksM, bI_n0.mp cq37, cq48, bI]) (by omega) _ _ _ hw (lv_sub hl [2, 3, 4, 5, 1, 0] rfl)
                · skip
                  refine lv_iload_n hx hb dX6_kindsOf_51 rfl (lv_at hl 3 rfl) ?_
                  refine lv_aload_n hx hb dX6_kindsOf_52 rfl (lv_at hl 0 rfl) ?_
                  refine x_get E hw fw_X6_7 0 rfl rfl dX6_kindsOf_53 ?_
                  refine lv_iload hx hb dX6_kindsOf_56 (lv_at hl 5 rfl) ?_
                  refine lv_iconst (v := 1) hx hb dX6_kindsOf_58 rfl ?_
                  refine lv_iadd hx hb dX6_kindsOf_59 ?_
                  refine x_iald E hw 1 rfl (p_ + 1) ((ix_add (a := p_) (b := 1) rfl rfl)) (by omega) (by omega) dX6_kindsOf_60 ?_
                  refine lv_aload_n hx hb dX6_kindsOf_61 rfl (lv_at hl 0 rfl) ?_
                  refine x_get E hw fw_X6_7 0 rfl rfl dX6_kindsOf_62 ?_
                  refine lv_iload hx hb dX6_kindsOf_65 (lv_at hl 5 rfl) ?_
                  refine lv_iconst (v := 2) hx hb dX6_kindsOf_67 rfl ?_
                  refine lv_iadd hx hb dX6_kindsOf_68 ?_
                  refine x_iald E hw 1 rfl (p_ + 2) ((ix_add (a := p_) (b := 2) rfl rfl)) (by omega) (by omega) dX6_kindsOf_69 ?_
                  refine lv_aload_n hx hb dX6_kindsOf_70 rfl (lv_at hl 0 rfl) ?_
                  refine x_get E hw fw_X6_7 0 rfl rfl dX6_kindsOf_71 ?_
                  refine lv_iload hx hb dX6_kindsOf_74 (lv_at hl 5 rfl) ?_
                  refine lv_iconst (v := 3) hx hb dX6_kindsOf_76 rfl ?_
                  refine lv_iadd hx hb dX6_kindsOf_77 ?_
                  refine x_iald E hw 1 rfl (p_ + 3) ((ix_add (a := p_) (b := 3) rfl rfl)) (by omega) (by omega) dX6_kindsOf_78 ?_
                  refine lv_aload_n hx hb dX6_kindsOf_79 rfl (lv_at hl 0 rfl) ?_
                  refine x_get E hw fw_X6_7 0 rfl rfl dX6_kindsOf_80 ?_
                  refine lv_iload hx hb dX6_kindsOf_83 (lv_at hl 5 rfl) ?_
                  refine lv_iconst (v := 4) hx hb dX6_kindsOf_85 rfl ?_
                  refine lv_iadd hx hb dX6_kindsOf_86 ?_
                  refine x_iald E hw 1 rfl (p_ + 4) ((ix_add (a := p_) (b := 4) rfl rfl)) (by omega) (by omega) dX6_kindsOf_87 ?_
                  refine lv_aload_n hx hb dX6_kindsOf_88 rfl (lv_at hl 0 rfl) ?_
                  refine x_get E hw fw_X6_7 0 rfl rfl dX6_kindsOf_89 ?_
                  refine lv_iload hx hb dX6_kindsOf_92 (lv_at hl 5 rfl) ?_
                  refine lv_iconst (v := 5) hx hb dX6_kindsOf_94 rfl ?_
                  refine lv_iadd hx hb dX6_kindsOf_95 ?_
                  refine x_iald E hw 1 rfl (p_ + 5) ((ix_add (a := p_) (b := 5) rfl rfl)) (by omega) (by omega) dX6_kindsOf_96 ?_
                  refine x_callS (is := []) (As := [.int (nI k), .int (nw (p_ + 1)), .int (nw (p_ + 2)), .int (nw (p_ + 3)), .int (nw (p_ + 4)), .int (nw (p_ + 5))]) (rest := []) (st1 := [.int (nm (nI k) (nw (p_ + 1)) (nw (p_ + 2)) (nw (p_ + 3)) (nw (p_ + 4)) (nw (p_ + 5)))]) (ws' := mW G b nw rd asd img kpt txt sz abv blw bds nos fls att bgn tkn wrd vlu sts bst) E (c_X6_nearAs l G (nI k) (nw (p_ + 1)) (nw (p_ + 2)) (nw (p_ + 3)) (nw (p_ + 4)) (nw (p_ + 5))) sw_X6_159 hw [] rfl rfl rfl rfl hl.1 rfl rfl (Nat.le_of_ble_eq_true rfl) ⟨Nat.le_of_ble_eq_true rfl, Nat.le_of_ble_eq_true rfl⟩ (Nat.zero_le _) (Nat.zero_le _) dX6_kindsOf_97 rfl rfl (fun H locs hw => ?_)
                  refine lv_aload_n hx hb dX6_kindsOf_100 rfl (lv_at hl 0 rfl) ?_
                  refine x_get E hw fw_X6_7 0 rfl rfl dX6_kindsOf_101 ?_
                  refine lv_iload hx hb dX6_kindsOf_104 (lv_at hl 5 rfl) ?_
                  refine lv_bipush (v := 6) hx hb dX6_kindsOf_106 rfl ?_
                  refine lv_iadd hx hb dX6_kindsOf_108 ?_
                  refine x_iald E hw 1 rfl (p_ + 6) ((ix_add (a := p_) (b := 6) rfl rfl)) (by omega) (by omega) dX6_kindsOf_109 ?_
                  refine lv_icmp_ne (tgt := 117) hx hb dX6_kindsOf_110 rfl (fun cq110 => ?_) (fun cq110 => ?_)
                  · skip
                    refine lv_iconst (v := 0) hx hb dX6_kindsOf_117 rfl ?_
                    refine lv_istore (lv' := [(4, .int 0), (0, .ref (b 0)), (1, .int x), (2, .int acc), (3, .int (nI k)), (5, .int (nI p_))]) hx hb dX6_kindsOf_118 hl (by decide) rfl (fun ls hl => ?_)
                    refine lv_iinc (v := nI (p_ + 7)) (lv' := [(5, .int (nI (p_ + 7))), (4, .int 0), (0, .ref (b 0)), (1, .int x), (2, .int acc), (3, .int (nI k))]) hx hb dX6_kindsOf_120 hl (k := 5) rfl (nI_add _ 7) (by decide) rfl (fun ls hl => ?_)
                    refine lv_goto (tgt := 17) hx hb dX6_kindsOf_123 rfl ?_
                    exact ih17 0 (p_ + 7) (j + 1) (by omega) (by omega) (by rw [hso] at cq37; rw [hp] at cq48 cq110; simp [ksM, bI_n0.mp cq37, cq48, cq110, bI]) (by omega) _ _ _ hw (lv_sub hl [2, 3, 4, 5, 1, 0] rfl)
                  · skip
                    refine lv_iconst (v := 1) hx hb dX6_kindsOf_113 rfl ?_
                    refine lv_goto (tgt := 118) hx hb dX6_kindsOf_114 rfl ?_
                    refine lv_istore (lv' := [(4, .int 1), (0, .ref (b 0)), (1, .int x), (2, .int acc), (3, .int (nI k)), (5, .int (nI p_))]) hx hb dX6_kindsOf_118 hl (by decide) rfl (fun ls hl => ?_)
                    refine lv_iinc (v := nI (p_ + 7)) (lv' := [(5, .int (nI (p_ + 7))), (4, .int 1), (0, .ref (b 0)), (1, .int x), (2, .int acc), (3, .int (nI k))]) hx hb dX6_kindsOf_120 hl (k := 5) rfl (nI_add _ 7) (by decide) rfl (fun ls hl => ?_)
                    refine lv_goto (tgt := 17) hx hb dX6_kindsOf_123 rfl ?_
                    exact ih17 1 (p_ + 7) (j + 1) (by omega) (by omega) (by rw [hso] at cq37; rw [hp] at cq48 cq110; simp [ksM, bI_n0.mp cq37, cq48, cq110, bI]) (by omega) _ _ _ hw (lv_sub hl [2, 3, 4, 5, 1, 0] rfl)
        exact lp17 (z - 0 + 1) 1 36 0 (by omega) (by omega) (rfl) (by omega) _ _ _ hw (lv_sub hl [2, 3, 4, 5, 1, 0] rfl)
  exact lp4 (6 - 0 + 1) 0 0 (by omega) (rfl) (by omega) _ _ _ hw (lv_sub hl [2, 3, 1, 0] rfl)
set_option maxHeartbeats 1000000 in
set_option maxRecDepth 100000 in
theorem c_X6_is (l : Launch) (G : GG) (b : Nat → Nat) (x : Int32) (nw : Nat → Int32) (rd : Nat → Int32) (asd : Nat → Int32) (img : Nat → Int32) (kpt : Nat → Int32) (txt : Nat → Int32) (sz : Int32) (abv : Int64) (blw : Int64) (bds : Int32) (nos : Int32) (fls : Int32) (att : Int32) (bgn : Int32) (tkn : Int32) (wrd : Int64) (vlu : Int32) (sts : Nat → Int32) (bst : Nat → Int32) (z : Nat) (hz35 : nw 35 = nI z) (hz6 : z ≤ 6) : CT l G yX6_is cX6_is 2 (some .int) 3 73 [.ref (b 0), .int x] (mW G b nw rd asd img kpt txt sz abv blw bds nos fls att bgn tkn wrd vlu sts bst) (some (.int (if inI x 0 (nw 22 - 1) then koM nw z x else -2))) (mW G b nw rd asd img kpt txt sz abv blw (if inI x 0 (nw 22 - 1) then bds else bds + 1) nos fls att bgn tkn wrd vlu sts bst) := by
  refine CT.mk (own := RX6) (la := [(0, .ref (b 0)), (1, .int x)]) (by decide) rfl (Nat.le_of_ble_eq_true rfl) rfl ?_
  intro p e s m args below meth c A Q E hA hw rt ls hl
  have hx := E.1
  have hb := E.2.1
  refine lv_aload_n hx hb dX6_is_0 rfl (lv_at hl 0 rfl) ?_
  refine lv_iload_n hx hb dX6_is_1 rfl (lv_at hl 1 rfl) ?_
  refine x_callV (is := [0, 1, 2, 3, 4, 5, 6, 7, 8]) (q0 := 0) (As := [.int x]) (rest := []) (st1 := [.int (bI (inI x 0 (nw 22 - 1)))]) (ws' := mW G b nw rd asd img kpt txt sz abv blw bds nos fls att bgn tkn wrd vlu sts bst) E (c_X6_isChild l G b x nw rd asd img kpt txt sz abv blw bds nos fls att bgn tkn wrd vlu sts bst) vw_X6_197 hw [0, 1, 2, 3, 4, 5, 6, 7, 8] rfl rfl rfl rfl rfl rfl rfl hl.1 rfl rfl (Nat.le_of_ble_eq_true rfl) ⟨Nat.le_of_ble_eq_true rfl, Nat.le_of_ble_eq_true rfl⟩ (Nat.zero_le _) (Nat.zero_le _) dX6_is_2 rfl rfl (fun H locs hw => ?_)
  refine lv_if_eq (tgt := 16) hx hb dX6_is_5 rfl (fun cq5 => ?_) (fun cq5 => ?_)
  · skip
    have cq5 := bI_0.mp cq5
    refine lv_aload_n hx hb dX6_is_16 rfl (lv_at hl 0 rfl) ?_
    refine x_callV (is := [0, 1, 2, 3, 4, 5, 6, 7, 8]) (q0 := 0) (As := []) (rest := []) (st1 := [.int (-2)]) (ws' := mW G b nw rd asd img kpt txt sz abv blw (bds + 1) nos fls att bgn tkn wrd vlu sts bst) E (c_X6_bad l G b nw rd asd img kpt txt sz abv blw bds nos fls att bgn tkn wrd vlu sts bst) vw_X6_63 hw [0, 1, 2, 3, 4, 5, 6, 7, 8] rfl rfl rfl rfl rfl rfl rfl hl.1 rfl rfl (Nat.le_of_ble_eq_true rfl) ⟨Nat.le_of_ble_eq_true rfl, Nat.le_of_ble_eq_true rfl⟩ (Nat.zero_le _) (Nat.zero_le _) dX6_is_17 rfl rfl (fun H locs hw => ?_)
    exact x_iret E hA rt hw dX6_is_20 (by simp [cq5]) (by simp [cq5])
  · skip
    have cq5 := bI_n0.mp cq5
    refine lv_aload_n hx hb dX6_is_8 rfl (lv_at hl 0 rfl) ?_
    refine lv_iload_n hx hb dX6_is_9 rfl (lv_at hl 1 rfl) ?_
    refine x_callV (is := [0, 1, 2, 3, 4, 5, 6, 7, 8]) (q0 := 0) (As := [.int x]) (rest := []) (st1 := [.int (koM nw z x)]) (ws' := mW G b nw rd asd img kpt txt sz abv blw bds nos fls att bgn tkn wrd vlu sts bst) E (c_X6_kindsOf l G b x nw rd asd img kpt txt sz abv blw bds nos fls att bgn tkn wrd vlu sts bst z (hz35) (by omega)) vw_X6_219 hw [0, 1, 2, 3, 4, 5, 6, 7, 8] rfl rfl rfl rfl rfl rfl rfl hl.1 rfl rfl (Nat.le_of_ble_eq_true rfl) ⟨Nat.le_of_ble_eq_true rfl, Nat.le_of_ble_eq_true rfl⟩ (Nat.zero_le _) (Nat.zero_le _) dX6_is_10 rfl rfl (fun H locs hw => ?_)
    refine lv_goto (tgt := 20) hx hb dX6_is_13 rfl ?_
    exact x_iret E hA rt hw dX6_is_20 (by simp [cq5]) (by simp [cq5])
set_option maxHeartbeats 1000000 in
set_option maxRecDepth 100000 in
theorem c_X6_alike (l : Launch) (G : GG) (b : Nat → Nat) (st : Int32) (h : Int32) (tt : Int32) (w : Int32) (bb : Int32) (lt : Int32) (nw : Nat → Int32) (rd : Nat → Int32) (asd : Nat → Int32) (img : Nat → Int32) (kpt : Nat → Int32) (txt : Nat → Int32) (sz : Int32) (abv : Int64) (blw : Int64) (bds : Int32) (nos : Int32) (fls : Int32) (att : Int32) (bgn : Int32) (tkn : Int32) (wrd : Int64) (vlu : Int32) (sts : Nat → Int32) (bst : Nat → Int32) : CT l G yX6_alike cX6_alike 11 (some .int) 2 48 [.ref (b 0), .int st, .int h, .int tt, .int w, .int bb, .int lt] (mW G b nw rd asd img kpt txt sz abv blw bds nos fls att bgn tkn wrd vlu sts bst) (some (.int (alS st h tt w bb lt 6))) (mW G b nw rd asd img kpt txt sz abv blw bds nos fls att bgn tkn wrd vlu sts bst) := by
  refine CT.mk (own := RX6) (la := [(0, .ref (b 0)), (1, .int st), (2, .int h), (3, .int tt), (4, .int w), (5, .int bb), (6, .int lt)]) (by decide) rfl (Nat.le_of_ble_eq_true rfl) rfl ?_
  intro p e s m args below meth c A Q E hA hw rt ls hl
  have hx := E.1
  have hb := E.2.1
  refine lv_iconst (v := 0) hx hb dX6_alike_0 rfl ?_
  refine lv_istore (lv' := [(7, .int 0), (0, .ref (b 0)), (1, .int st), (2, .int h), (3, .int tt), (4, .int w), (5, .int bb), (6, .int lt)]) hx hb dX6_alike_1 hl (by decide) rfl (fun ls hl => ?_)
  refine lv_iconst (v := 0) hx hb dX6_alike_3 rfl ?_
  refine lv_istore (lv' := [(8, .int 0), (7, .int 0), (0, .ref (b 0)), (1, .int st), (2, .int h), (3, .int tt), (4, .int w), (5, .int bb), (6, .int lt)]) hx hb dX6_alike_4 hl (by decide) rfl (fun ls hl => ?_)
  have lp6 : ∀ (fuel : Nat), ∀ (k : Nat) (ms : Int32) (hk : k ≤ 6) (hms : ms = alS st h tt w bb lt k), (6 - k) < fuel → ∀ (H : Heap) (locs : List Loc) (ls : Array Slot), Wd G A s H locs (mW G b nw rd asd img kpt txt sz abv blw bds nos fls att bgn tkn wrd vlu sts bst) → lv_has ls 11 [(0, .ref (b 0)), (1, .int st), (2, .int h), (3, .int tt), (4, .int w), (5, .int bb), (6, .int lt), (7, .int ms), (8, .int (nI k))] → W p l e (rmx 2 48) s m args below meth c H locs 0 0 Q (F0 m 6 ls []) := by
    intro fuel
    induction fuel with
    | zero => intro k ms hk hms hfu; exact absurd hfu (Nat.not_lt_zero _)
    | succ fuel ih6 =>
      intro k ms hk hms hfu H locs ls hw hl
      refine lv_iload hx hb dX6_alike_6 (lv_at hl 8 rfl) ?_
      refine lv_bipush (v := 6) hx hb dX6_alike_8 rfl ?_
      refine lv_icmp_ge (tgt := 111) hx hb dX6_alike_10 rfl (fun cq10 => ?_) (fun cq10 => ?_)
      · skip
        have cq10 : 6 ≤ k := (cv_le (a := 6) (b := k) rfl rfl (by omega) (by omega)).mp cq10
        refine lv_iload hx hb dX6_alike_111 (lv_at hl 7 rfl) ?_
        exact x_iret E hA rt hw dX6_alike_113 (by rw [hms, show k = 6 by omega]) rfl
      · skip
        have cq10 : ¬ 6 ≤ k := fun h => cq10 ((cv_le (a := 6) (b := k) rfl rfl (by omega) (by omega)).mpr h)
        refine lv_iconst (v := 0) hx hb dX6_alike_13 rfl ?_
        refine lv_istore (lv' := [(9, .int 0), (0, .ref (b 0)), (1, .int st), (2, .int h), (3, .int tt), (4, .int w), (5, .int bb), (6, .int lt), (7, .int ms), (8, .int (nI k))]) hx hb dX6_alike_14 hl (by decide) rfl (fun ls hl => ?_)
        refine lv_iconst (v := 0) hx hb dX6_alike_16 rfl ?_
        refine lv_istore (lv' := [(10, .int 0), (9, .int 0), (0, .ref (b 0)), (1, .int st), (2, .int h), (3, .int tt), (4, .int w), (5, .int bb), (6, .int lt), (7, .int ms), (8, .int (nI k))]) hx hb dX6_alike_17 hl (by decide) rfl (fun ls hl => ?_)
        have lp19 : ∀ (fuel : Nat), ∀ (j : Nat) (mn : Int32) (hj : j ≤ 6) (hmn : mn = alC st h tt w bb lt k j), (6 - j) < fuel → ∀ (H : Heap) (locs : List Loc) (ls : Array Slot), Wd G A s H locs (mW G b nw rd asd img kpt txt sz abv blw bds nos fls att bgn tkn wrd vlu sts bst) → lv_has ls 11 [(0, .ref (b 0)), (1, .int st), (2, .int h), (3, .int tt), (4, .int w), (5, .int bb), (6, .int lt), (7, .int ms), (8, .int (nI k)), (9, .int mn), (10, .int (nI j))] → W p l e (rmx 2 48) s m args below meth c H locs 0 0 Q (F0 m 19 ls []) := by
          intro fuel
          induction fuel with
          | zero => intro j mn hj hmn hfu; exact absurd hfu (Nat.not_lt_zero _)
          | succ fuel ih19 =>
            intro j mn hj hmn hfu H locs ls hw hl
            refine lv_iload hx hb dX6_alike_19 (lv_at hl 10 rfl) ?_
            refine lv_bipush (v := 6) hx hb dX6_alike_21 rfl ?_
            refine lv_icmp_ge (tgt := 89) hx hb dX6_alike_23 rfl (fun cq23 => ?_) (fun cq23 => ?_)
            · skip
              have cq23 : 6 ≤ j := (cv_le (a := 6) (b := j) rfl rfl (by omega) (by omega)).mp cq23
              refine lv_iload hx hb dX6_alike_89 (lv_at hl 9 rfl) ?_
              refine lv_iload hx hb dX6_alike_91 (lv_at hl 7 rfl) ?_
              refine lv_icmp_le (tgt := 101) hx hb dX6_alike_93 rfl (fun cq93 => ?_) (fun cq93 => ?_)
              · skip
                refine lv_iload hx hb dX6_alike_101 (lv_at hl 7 rfl) ?_
                refine lv_istore (lv' := [(7, .int ms), (0, .ref (b 0)), (1, .int st), (2, .int h), (3, .int tt), (4, .int w), (5, .int bb), (6, .int lt), (8, .int (nI k)), (9, .int mn), (10, .int (nI j))]) hx hb dX6_alike_103 hl (by decide) rfl (fun ls hl => ?_)
                refine lv_iinc (v := nI (k + 1)) (lv' := [(8, .int (nI (k + 1))), (7, .int ms), (0, .ref (b 0)), (1, .int st), (2, .int h), (3, .int tt), (4, .int w), (5, .int bb), (6, .int lt), (9, .int mn), (10, .int (nI j))]) hx hb dX6_alike_105 hl (k := 8) rfl (nI_add _ 1) (by decide) rfl (fun ls hl => ?_)
                refine lv_goto (tgt := 6) hx hb dX6_alike_108 rfl ?_
                exact ih6 (k + 1) ms (by omega) (by rw [show j = 6 by omega] at hmn; rw [alS, ← hmn, ← hms, if_pos cq93]) (by omega) _ _ _ hw (lv_sub hl [2, 3, 4, 5, 6, 7, 8, 1, 0] rfl)
              · skip
                refine lv_iload hx hb dX6_alike_96 (lv_at hl 9 rfl) ?_
                refine lv_goto (tgt := 103) hx hb dX6_alike_98 rfl ?_
                refine lv_istore (lv' := [(7, .int mn), (0, .ref (b 0)), (1, .int st), (2, .int h), (3, .int tt), (4, .int w), (5, .int bb), (6, .int lt), (8, .int (nI k)), (9, .int mn), (10, .int (nI j))]) hx hb dX6_alike_103 hl (by decide) rfl (fun ls hl => ?_)
                refine lv_iinc (v := nI (k + 1)) (lv' := [(8, .int (nI (k + 1))), (7, .int mn), (0, .ref (b 0)), (1, .int st), (2, .int h), (3, .int tt), (4, .int w), (5, .int bb), (6, .int lt), (9, .int mn), (10, .int (nI j))]) hx hb dX6_alike_105 hl (k := 8) rfl (nI_add _ 1) (by decide) rfl (fun ls hl => ?_)
                refine lv_goto (tgt := 6) hx hb dX6_alike_108 rfl ?_
                exact ih6 (k + 1) mn (by omega) (by rw [show j = 6 by omega] at hmn; rw [alS, ← hmn, ← hms, if_neg cq93]) (by omega) _ _ _ hw (lv_sub hl [2, 3, 4, 5, 6, 7, 8, 1, 0] rfl)
            · skip
              have cq23 : ¬ 6 ≤ j := fun h => cq23 ((cv_le (a := 6) (b := j) rfl rfl (by omega) (by omega)).mpr h)
              refine lv_iload hx hb dX6_alike_26 (lv_at hl 9 rfl) ?_
              refine lv_iload_n hx hb dX6_alike_28 rfl (lv_at hl 1 rfl) ?_
              refine lv_iload hx hb dX6_alike_29 (lv_at hl 8 rfl) ?_
              refine x_callS (is := []) (As := [.int st, .int (nI k)]) (rest := [.int mn]) (st1 := [.int (bI (hasI st (nI k))), .int mn]) (ws' := mW G b nw rd asd img kpt txt sz abv blw bds nos fls att bgn tkn wrd vlu sts bst) E (c_X6_has l G st (nI k)) sw_X6_180 hw [] rfl rfl rfl rfl hl.1 rfl rfl (Nat.le_of_ble_eq_true rfl) ⟨Nat.le_of_ble_eq_true rfl, Nat.le_of_ble_eq_true rfl⟩ (Nat.zero_le _) (Nat.zero_le _) dX6_alike_31 rfl rfl (fun H locs hw => ?_)
              refine lv_if_eq (tgt := 79) hx hb dX6_alike_34 rfl (fun cq34 => ?_) (fun cq34 => ?_)
              · skip
                have cq34 := bI_0.mp cq34
                refine lv_iconst (v := 0) hx hb dX6_alike_79 rfl ?_
                refine lv_iadd hx hb dX6_alike_80 ?_
                refine lv_istore (lv' := [(9, .int (mn + 0)), (0, .ref (b 0)), (1, .int st), (2, .int h), (3, .int tt), (4, .int w), (5, .int bb), (6, .int lt), (7, .int ms), (8, .int (nI k)), (10, .int (nI j))]) hx hb dX6_alike_81 hl (by decide) rfl (fun ls hl => ?_)
                refine lv_iinc (v := nI (j + 1)) (lv' := [(10, .int (nI (j + 1))), (9, .int (mn + 0)), (0, .ref (b 0)), (1, .int st), (2, .int h), (3, .int tt), (4, .int w), (5, .int bb), (6, .int lt), (7, .int ms), (8, .int (nI k))]) hx hb dX6_alike_83 hl (k := 10) rfl (nI_add _ 1) (by decide) rfl (fun ls hl => ?_)
                refine lv_goto (tgt := 19) hx hb dX6_alike_86 rfl ?_
                exact ih19 (j + 1) (mn + 0) (by omega) (by rw [hmn, alC]; simp [alT, cq10, cq23, cq34]) (by omega) _ _ _ hw (lv_sub hl [2, 3, 4, 5, 6, 7, 8, 9, 10, 1, 0] rfl)
              · skip
                have cq34 := bI_n0.mp cq34
                refine lv_iload_n hx hb dX6_alike_37 rfl (lv_at hl 1 rfl) ?_
                refine lv_iload hx hb dX6_alike_38 (lv_at hl 10 rfl) ?_
                refine x_callS (is := []) (As := [.int st, .int (nI j)]) (rest := [.int mn]) (st1 := [.int (bI (hasI st (nI j))), .int mn]) (ws' := mW G b nw rd asd img kpt txt sz abv blw bds nos fls att bgn tkn wrd vlu sts bst) E (c_X6_has l G st (nI j)) sw_X6_180 hw [] rfl rfl rfl rfl hl.1 rfl rfl (Nat.le_of_ble_eq_true rfl) ⟨Nat.le_of_ble_eq_true rfl, Nat.le_of_ble_eq_true rfl⟩ (Nat.zero_le _) (Nat.zero_le _) dX6_alike_40 rfl rfl (fun H locs hw => ?_)
                refine lv_if_eq (tgt := 79) hx hb dX6_alike_43 rfl (fun cq43 => ?_) (fun cq43 => ?_)
                · skip
                  have cq43 := bI_0.mp cq43
                  refine lv_iconst (v := 0) hx hb dX6_alike_79 rfl ?_
                  refine lv_iadd hx hb dX6_alike_80 ?_
                  refine lv_istore (lv' := [(9, .int (mn + 0)), (0, .ref (b 0)), (1, .int st), (2, .int h), (3, .int tt), (4, .int w), (5, .int bb), (6, .int lt), (7, .int ms), (8, .int (nI k)), (10, .int (nI j))]) hx hb dX6_alike_81 hl (by decide) rfl (fun ls hl => ?_)
                  refine lv_iinc (v := nI (j + 1)) (lv' := [(10, .int (nI (j + 1))), (9, .int (mn + 0)), (0, .ref (b 0)), (1, .int st), (2, .int h), (3, .int tt), (4, .int w), (5, .int bb), (6, .int lt), (7, .int ms), (8, .int (nI k))]) hx hb dX6_alike_83 hl (k := 10) rfl (nI_add _ 1) (by decide) rfl (fun ls hl => ?_)
                  refine lv_goto (tgt := 19) hx hb dX6_alike_86 rfl ?_
                  exact ih19 (j + 1) (mn + 0) (by omega) (by rw [hmn, alC]; simp [alT, cq10, cq23, cq34, cq43]) (by omega) _ _ _ hw (lv_sub hl [2, 3, 4, 5, 6, 7, 8, 9, 10, 1, 0] rfl)
                · skip
                  have cq43 := bI_n0.mp cq43
                  refine lv_iload hx hb dX6_alike_46 (lv_at hl 8 rfl) ?_
                  refine lv_iload_n hx hb dX6_alike_48 rfl (lv_at hl 2 rfl) ?_
                  refine lv_iload_n hx hb dX6_alike_49 rfl (lv_at hl 3 rfl) ?_
                  refine lv_iload hx hb dX6_alike_50 (lv_at hl 4 rfl) ?_
                  refine lv_iload hx hb dX6_alike_52 (lv_at hl 5 rfl) ?_
                  refine lv_iload hx hb dX6_alike_54 (lv_at hl 6 rfl) ?_
                  refine x_callS (is := []) (As := [.int (nI k), .int h, .int tt, .int w, .int bb, .int lt]) (rest := [.int mn]) (st1 := [.int (nm (nI k) h tt w bb lt), .int mn]) (ws' := mW G b nw rd asd img kpt txt sz abv blw bds nos fls att bgn tkn wrd vlu sts bst) E (c_X6_nearAs l G (nI k) h tt w bb lt) sw_X6_159 hw [] rfl rfl rfl rfl hl.1 rfl rfl (Nat.le_of_ble_eq_true rfl) ⟨Nat.le_of_ble_eq_true rfl, Nat.le_of_ble_eq_true rfl⟩ (Nat.zero_le _) (Nat.zero_le _) dX6_alike_56 rfl rfl (fun H locs hw => ?_)
                  refine lv_iload hx hb dX6_alike_59 (lv_at hl 10 rfl) ?_
                  refine lv_iload_n hx hb dX6_alike_61 rfl (lv_at hl 2 rfl) ?_
                  refine lv_iload_n hx hb dX6_alike_62 rfl (lv_at hl 3 rfl) ?_
                  refine lv_iload hx hb dX6_alike_63 (lv_at hl 4 rfl) ?_
                  refine lv_iload hx hb dX6_alike_65 (lv_at hl 5 rfl) ?_
                  refine lv_iload hx hb dX6_alike_67 (lv_at hl 6 rfl) ?_
                  refine x_callS (is := []) (As := [.int (nI j), .int h, .int tt, .int w, .int bb, .int lt]) (rest := [.int (nm (nI k) h tt w bb lt), .int mn]) (st1 := [.int (nm (nI j) h tt w bb lt), .int (nm (nI k) h tt w bb lt), .int mn]) (ws' := mW G b nw rd asd img kpt txt sz abv blw bds nos fls att bgn tkn wrd vlu sts bst) E (c_X6_nearAs l G (nI j) h tt w bb lt) sw_X6_159 hw [] rfl rfl rfl rfl hl.1 rfl rfl (Nat.le_of_ble_eq_true rfl) ⟨Nat.le_of_ble_eq_true rfl, Nat.le_of_ble_eq_true rfl⟩ (Nat.zero_le _) (Nat.zero_le _) dX6_alike_69 rfl rfl (fun H locs hw => ?_)
                  refine lv_icmp_ne (tgt := 79) hx hb dX6_alike_72 rfl (fun cq72 => ?_) (fun cq72 => ?_)
                  · skip
                    refine lv_iconst (v := 0) hx hb dX6_alike_79 rfl ?_
                    refine lv_iadd hx hb dX6_alike_80 ?_
                    refine lv_istore (lv' := [(9, .int (mn + 0)), (0, .ref (b 0)), (1, .int st), (2, .int h), (3, .int tt), (4, .int w), (5, .int bb), (6, .int lt), (7, .int ms), (8, .int (nI k)), (10, .int (nI j))]) hx hb dX6_alike_81 hl (by decide) rfl (fun ls hl => ?_)
                    refine lv_iinc (v := nI (j + 1)) (lv' := [(10, .int (nI (j + 1))), (9, .int (mn + 0)), (0, .ref (b 0)), (1, .int st), (2, .int h), (3, .int tt), (4, .int w), (5, .int bb), (6, .int lt), (7, .int ms), (8, .int (nI k))]) hx hb dX6_alike_83 hl (k := 10) rfl (nI_add _ 1) (by decide) rfl (fun ls hl => ?_)
                    refine lv_goto (tgt := 19) hx hb dX6_alike_86 rfl ?_
                    exact ih19 (j + 1) (mn + 0) (by omega) (by rw [hmn, alC]; simp [alT, cq10, cq23, cq34, cq43, cq72]) (by omega) _ _ _ hw (lv_sub hl [2, 3, 4, 5, 6, 7, 8, 9, 10, 1, 0] rfl)
                  · skip
                    refine lv_iconst (v := 1) hx hb dX6_alike_75 rfl ?_
                    refine lv_goto (tgt := 80) hx hb dX6_alike_76 rfl ?_
                    refine lv_iadd hx hb dX6_alike_80 ?_
                    refine lv_istore (lv' := [(9, .int (mn + 1)), (0, .ref (b 0)), (1, .int st), (2, .int h), (3, .int tt), (4, .int w), (5, .int bb), (6, .int lt), (7, .int ms), (8, .int (nI k)), (10, .int (nI j))]) hx hb dX6_alike_81 hl (by decide) rfl (fun ls hl => ?_)
                    refine lv_iinc (v := nI (j + 1)) (lv' := [(10, .int (nI (j + 1))), (9, .int (mn + 1)), (0, .ref (b 0)), (1, .int st), (2, .int h), (3, .int tt), (4, .int w), (5, .int bb), (6, .int lt), (7, .int ms), (8, .int (nI k))]) hx hb dX6_alike_83 hl (k := 10) rfl (nI_add _ 1) (by decide) rfl (fun ls hl => ?_)
                    refine lv_goto (tgt := 19) hx hb dX6_alike_86 rfl ?_
                    exact ih19 (j + 1) (mn + 1) (by omega) (by rw [hmn, alC]; simp [alT, cq10, cq23, cq34, cq43, cq72]) (by omega) _ _ _ hw (lv_sub hl [2, 3, 4, 5, 6, 7, 8, 9, 10, 1, 0] rfl)
        exact lp19 (6 - 0 + 1) 0 0 (by omega) (rfl) (by omega) _ _ _ hw (lv_sub hl [2, 3, 4, 5, 6, 7, 8, 9, 10, 1, 0] rfl)
  exact lp6 (6 - 0 + 1) 0 0 (by omega) (rfl) (by omega) _ _ _ hw (lv_sub hl [2, 3, 4, 5, 6, 7, 8, 1, 0] rfl)
set_option maxHeartbeats 1000000 in
set_option maxRecDepth 100000 in
theorem c_X6_look (l : Launch) (G : GG) (b : Nat → Nat) (x : Int32) (nw : Nat → Int32) (rd : Nat → Int32) (asd : Nat → Int32) (img : Nat → Int32) (kpt : Nat → Int32) (txt : Nat → Int32) (sz : Int32) (abv : Int64) (blw : Int64) (bds : Int32) (nos : Int32) (fls : Int32) (att : Int32) (bgn : Int32) (tkn : Int32) (wrd : Int64) (vlu : Int32) (sts : Nat → Int32) (bst : Nat → Int32) (n : Nat) (z : Nat) (hc : nw 22 = nI n) (hn : n ≤ 6) (hz35 : nw 35 = nI z) (hz6 : z ≤ 6) : CT l G yX6_look cX6_look 7 (some .int) 3 78 [.ref (b 0), .int x] (mW G b nw rd asd img kpt txt sz abv blw bds nos fls att bgn tkn wrd vlu sts bst) (some (.int (if inI x 0 (nw 22 - 1) then (if koM nw z x = 0 then -1 else (am (lkF nw x.toNatClampNeg (koM nw z x)) lkV 0 1000000 27).1) else -2))) (mW G b nw rd asd img kpt txt sz abv blw (if inI x 0 (nw 22 - 1) then bds else bds + 1) nos fls att bgn tkn wrd vlu sts bst) := by
  refine CT.mk (own := RX6) (la := [(0, .ref (b 0)), (1, .int x)]) (by decide) rfl (Nat.le_of_ble_eq_true rfl) rfl ?_
  intro p e s m args below meth c A Q E hA hw rt ls hl
  have hx := E.1
  have hb := E.2.1
  refine lv_aload_n hx hb dX6_look_0 rfl (lv_at hl 0 rfl) ?_
  refine lv_iload_n hx hb dX6_look_1 rfl (lv_at hl 1 rfl) ?_
  refine x_callV (is := [0, 1, 2, 3, 4, 5, 6, 7, 8]) (q0 := 0) (As := [.int x]) (rest := []) (st1 := [.int (bI (inI x 0 (nw 22 - 1)))]) (ws' := mW G b nw rd asd img kpt txt sz abv blw bds nos fls att bgn tkn wrd vlu sts bst) E (c_X6_isChild l G b x nw rd asd img kpt txt sz abv blw bds nos fls att bgn tkn wrd vlu sts bst) vw_X6_197 hw [0, 1, 2, 3, 4, 5, 6, 7, 8] rfl rfl rfl rfl rfl rfl rfl hl.1 rfl rfl (Nat.le_of_ble_eq_true rfl) ⟨Nat.le_of_ble_eq_true rfl, Nat.le_of_ble_eq_true rfl⟩ (Nat.zero_le _) (Nat.zero_le _) dX6_look_2 rfl rfl (fun H locs hw => ?_)
  refine lv_if_ne (tgt := 13) hx hb dX6_look_5 rfl (fun cq5 => ?_) (fun cq5 => ?_)
  · skip
    have cq5 := bI_n0.mp cq5
    obtain ⟨k, hk, ek⟩ := inI_child hc hn cq5
    have exk : x.toNatClampNeg = k := by rw [ek, nI_clamp (by omega)]
    refine lv_aload_n hx hb dX6_look_13 rfl (lv_at hl 0 rfl) ?_
    refine lv_iload_n hx hb dX6_look_14 rfl (lv_at hl 1 rfl) ?_
    refine x_callV (is := [0, 1, 2, 3, 4, 5, 6, 7, 8]) (q0 := 0) (As := [.int x]) (rest := []) (st1 := [.int (koM nw z x)]) (ws' := mW G b nw rd asd img kpt txt sz abv blw bds nos fls att bgn tkn wrd vlu sts bst) E (c_X6_kindsOf l G b x nw rd asd img kpt txt sz abv blw bds nos fls att bgn tkn wrd vlu sts bst z (hz35) (by omega)) vw_X6_219 hw [0, 1, 2, 3, 4, 5, 6, 7, 8] rfl rfl rfl rfl rfl rfl rfl hl.1 rfl rfl (Nat.le_of_ble_eq_true rfl) ⟨Nat.le_of_ble_eq_true rfl, Nat.le_of_ble_eq_true rfl⟩ (Nat.zero_le _) (Nat.zero_le _) dX6_look_15 rfl rfl (fun H locs hw => ?_)
    refine lv_istore_n (lv' := [(2, .int (koM nw z x)), (0, .ref (b 0)), (1, .int x)]) hx hb dX6_look_18 rfl hl (by decide) rfl (fun ls hl => ?_)
    refine lv_iload_n hx hb dX6_look_19 rfl (lv_at hl 0 rfl) ?_
    refine lv_if_ne (tgt := 25) hx hb dX6_look_20 rfl (fun cq20 => ?_) (fun cq20 => ?_)
    · skip
      refine lv_iconst (v := 0) hx hb dX6_look_25 rfl ?_
      refine lv_istore_n (lv' := [(3, .int 0), (2, .int (koM nw z x)), (0, .ref (b 0)), (1, .int x)]) hx hb dX6_look_26 rfl hl (by decide) rfl (fun ls hl => ?_)
      refine lv_ldc hx hb E.2.2.2.1 (E.2.2.2.2.2.2.w kc_X6_211) dX6_look_27 ?_
      refine lv_istore (lv' := [(4, .int 1000000), (3, .int 0), (2, .int (koM nw z x)), (0, .ref (b 0)), (1, .int x)]) hx hb dX6_look_29 hl (by decide) rfl (fun ls hl => ?_)
      refine lv_iconst (v := 0) hx hb dX6_look_31 rfl ?_
      refine lv_istore (lv' := [(5, .int 0), (4, .int 1000000), (3, .int 0), (2, .int (koM nw z x)), (0, .ref (b 0)), (1, .int x)]) hx hb dX6_look_32 hl (by decide) rfl (fun ls hl => ?_)
      have lp34 : ∀ (fuel : Nat), ∀ (cd : Nat) (w_ : Int32) (f_ : Int32) (hcd : cd ≤ 27) (h1 : w_ = (am (lkF nw k (koM nw z x)) lkV 0 1000000 cd).1) (h2 : f_ = (am (lkF nw k (koM nw z x)) lkV 0 1000000 cd).2), (27 - cd) < fuel → ∀ (H : Heap) (locs : List Loc) (ls : Array Slot), Wd G A s H locs (mW G b nw rd asd img kpt txt sz abv blw bds nos fls att bgn tkn wrd vlu sts bst) → lv_has ls 7 [(0, .ref (b 0)), (1, .int x), (2, .int (koM nw z x)), (3, .int w_), (4, .int f_), (5, .int (nI cd))] → W p l e (rmx 3 78) s m args below meth c H locs 0 0 Q (F0 m 34 ls []) := by
        intro fuel
        induction fuel with
        | zero => intro cd w_ f_ hcd h1 h2 hfu; exact absurd hfu (Nat.not_lt_zero _)
        | succ fuel ih34 =>
          intro cd w_ f_ hcd h1 h2 hfu H locs ls hw hl
          refine lv_iload hx hb dX6_look_34 (lv_at hl 5 rfl) ?_
          refine lv_bipush (v := 27) hx hb dX6_look_36 rfl ?_
          refine lv_icmp_ge (tgt := 138) hx hb dX6_look_38 rfl (fun cq38 => ?_) (fun cq38 => ?_)
          · skip
            have cq38 : 27 ≤ cd := (cv_le (a := 27) (b := cd) rfl rfl (by omega) (by omega)).mp cq38
            refine lv_iload_n hx hb dX6_look_138 rfl (lv_at hl 3 rfl) ?_
            exact x_iret E hA rt hw dX6_look_139 (by rw [if_pos cq5, if_neg cq20, exk, h1, show cd = 27 by omega]) (by simp [cq5])
          · skip
            have cq38 : ¬ 27 ≤ cd := fun h => cq38 ((cv_le (a := 27) (b := cd) rfl rfl (by omega) (by omega)).mpr h)
            refine lv_aload_n hx hb dX6_look_41 rfl (lv_at hl 0 rfl) ?_
            refine lv_iload_n hx hb dX6_look_42 rfl (lv_at hl 2 rfl) ?_
            refine lv_aload_n hx hb dX6_look_43 rfl (lv_at hl 0 rfl) ?_
            refine x_get E hw fw_X6_7 0 rfl rfl dX6_look_44 ?_
            refine lv_bipush (v := 6) hx hb dX6_look_47 rfl ?_
            refine lv_iload_n hx hb dX6_look_49 rfl (lv_at hl 1 rfl) ?_
            refine lv_iadd hx hb dX6_look_50 ?_
            refine x_iald E hw 1 rfl (6 + k) ((ix_add (a := 6) (b := k) rfl ek)) (by omega) (by omega) dX6_look_51 ?_
            refine lv_iload hx hb dX6_look_52 (lv_at hl 5 rfl) ?_
            refine lv_iconst (v := 3) hx hb dX6_look_54 rfl ?_
            refine lv_idiv hx hb dX6_look_55 (by decide) ?_
            refine lv_iconst (v := 3) hx hb dX6_look_56 rfl ?_
            refine lv_irem hx hb dX6_look_57 (by decide) ?_
            refine lv_aload_n hx hb dX6_look_58 rfl (lv_at hl 0 rfl) ?_
            refine x_get E hw fw_X6_7 0 rfl rfl dX6_look_59 ?_
            refine lv_bipush (v := 29) hx hb dX6_look_62 rfl ?_
            refine lv_iload_n hx hb dX6_look_64 rfl (lv_at hl 1 rfl) ?_
            refine lv_iadd hx hb dX6_look_65 ?_
            refine x_iald E hw 1 rfl (29 + k) ((ix_add (a := 29) (b := k) rfl ek)) (by omega) (by omega) dX6_look_66 ?_
            refine lv_iload hx hb dX6_look_67 (lv_at hl 5 rfl) ?_
            refine lv_iconst (v := 3) hx hb dX6_look_69 rfl ?_
            refine lv_irem hx hb dX6_look_70 (by decide) ?_
            refine lv_iload hx hb dX6_look_71 (lv_at hl 5 rfl) ?_
            refine lv_bipush (v := 9) hx hb dX6_look_73 rfl ?_
            refine lv_idiv hx hb dX6_look_75 (by decide) ?_
            refine x_callV (is := [0, 1, 2, 3, 4, 5, 6, 7, 8]) (q0 := 0) (As := [.int (koM nw z x), .int (nw (6 + k)), .int (((nI cd) / 3) - ((nI cd) / 3) / 3 * 3), .int (nw (29 + k)), .int ((nI cd) - (nI cd) / 3 * 3), .int ((nI cd) / 9)]) (rest := []) (st1 := [.int (alS (koM nw z x) (nw (6 + k)) (((nI cd) / 3) - ((nI cd) / 3) / 3 * 3) (nw (29 + k)) ((nI cd) - (nI cd) / 3 * 3) ((nI cd) / 9) 6)]) (ws' := mW G b nw rd asd img kpt txt sz abv blw bds nos fls att bgn tkn wrd vlu sts bst) E (c_X6_alike l G b (koM nw z x) (nw (6 + k)) (((nI cd) / 3) - ((nI cd) / 3) / 3 * 3) (nw (29 + k)) ((nI cd) - (nI cd) / 3 * 3) ((nI cd) / 9) nw rd asd img kpt txt sz abv blw bds nos fls att bgn tkn wrd vlu sts bst) vw_X6_222 hw [0, 1, 2, 3, 4, 5, 6, 7, 8] rfl rfl rfl rfl rfl rfl rfl hl.1 rfl rfl (Nat.le_of_ble_eq_true rfl) ⟨Nat.le_of_ble_eq_true rfl, Nat.le_of_ble_eq_true rfl⟩ (Nat.zero_le _) (Nat.zero_le _) dX6_look_76 rfl rfl (fun H locs hw => ?_)
            refine lv_istore (lv' := [(6, .int (alS (koM nw z x) (nw (6 + k)) (((nI cd) / 3) - ((nI cd) / 3) / 3 * 3) (nw (29 + k)) ((nI cd) - (nI cd) / 3 * 3) ((nI cd) / 9) 6)), (0, .ref (b 0)), (1, .int x), (2, .int (koM nw z x)), (3, .int w_), (4, .int f_), (5, .int (nI cd))]) hx hb dX6_look_79 hl (by decide) rfl (fun ls hl => ?_)
            refine lv_iload hx hb dX6_look_81 (lv_at hl 0 rfl) ?_
            refine lv_iload hx hb dX6_look_83 (lv_at hl 5 rfl) ?_
            refine lv_icmp_ge (tgt := 114) hx hb dX6_look_85 rfl (fun cq85 => ?_) (fun cq85 => ?_)
            · skip
              refine lv_iload_n hx hb dX6_look_114 rfl (lv_at hl 4 rfl) ?_
              refine lv_istore_n (lv' := [(3, .int w_), (6, .int (alS (koM nw z x) (nw (6 + k)) (((nI cd) / 3) - ((nI cd) / 3) / 3 * 3) (nw (29 + k)) ((nI cd) - (nI cd) / 3 * 3) ((nI cd) / 9) 6)), (0, .ref (b 0)), (1, .int x), (2, .int (koM nw z x)), (4, .int f_), (5, .int (nI cd))]) hx hb dX6_look_115 rfl hl (by decide) rfl (fun ls hl => ?_)
              refine lv_iload hx hb dX6_look_116 (lv_at hl 1 rfl) ?_
              refine lv_iload hx hb dX6_look_118 (lv_at hl 5 rfl) ?_
              refine lv_icmp_ge (tgt := 128) hx hb dX6_look_120 rfl (fun cq120 => ?_) (fun cq120 => ?_)
              · skip
                refine lv_iload hx hb dX6_look_128 (lv_at hl 5 rfl) ?_
                refine lv_istore (lv' := [(4, .int f_), (3, .int w_), (6, .int (alS (koM nw z x) (nw (6 + k)) (((nI cd) / 3) - ((nI cd) / 3) / 3 * 3) (nw (29 + k)) ((nI cd) - (nI cd) / 3 * 3) ((nI cd) / 9) 6)), (0, .ref (b 0)), (1, .int x), (2, .int (koM nw z x)), (5, .int (nI cd))]) hx hb dX6_look_130 hl (by decide) rfl (fun ls hl => ?_)
                refine lv_iinc (v := nI (cd + 1)) (lv' := [(5, .int (nI (cd + 1))), (4, .int f_), (3, .int w_), (6, .int (alS (koM nw z x) (nw (6 + k)) (((nI cd) / 3) - ((nI cd) / 3) / 3 * 3) (nw (29 + k)) ((nI cd) - (nI cd) / 3 * 3) ((nI cd) / 9) 6)), (0, .ref (b 0)), (1, .int x), (2, .int (koM nw z x))]) hx hb dX6_look_132 hl (k := 6) rfl (nI_add _ 1) (by decide) rfl (fun ls hl => ?_)
                refine lv_goto (tgt := 34) hx hb dX6_look_135 rfl ?_
                exact ih34 (cd + 1) w_ f_ (by omega) ((am_s1 h1 h2 cq85).1) ((am_s1 h1 h2 cq85).2) (by omega) _ _ _ hw (lv_sub hl [4, 5, 6, 2, 1, 0] rfl)
              · skip
                exact absurd cq85 cq120
            · skip
              refine lv_bipush (v := 100) hx hb dX6_look_88 rfl ?_
              refine lv_iload hx hb dX6_look_90 (lv_at hl 6 rfl) ?_
              refine lv_bipush (v := 9) hx hb dX6_look_92 rfl ?_
              refine lv_idiv hx hb dX6_look_94 (by decide) ?_
              refine lv_imul hx hb dX6_look_95 ?_
              refine lv_bipush (v := 10) hx hb dX6_look_96 rfl ?_
              refine lv_iload hx hb dX6_look_98 (lv_at hl 6 rfl) ?_
              refine lv_iconst (v := 3) hx hb dX6_look_100 rfl ?_
              refine lv_idiv hx hb dX6_look_101 (by decide) ?_
              refine lv_iconst (v := 3) hx hb dX6_look_102 rfl ?_
              refine lv_irem hx hb dX6_look_103 (by decide) ?_
              refine lv_imul hx hb dX6_look_104 ?_
              refine lv_iadd hx hb dX6_look_105 ?_
              refine lv_iload hx hb dX6_look_106 (lv_at hl 6 rfl) ?_
              refine lv_iconst (v := 3) hx hb dX6_look_108 rfl ?_
              refine lv_irem hx hb dX6_look_109 (by decide) ?_
              refine lv_iadd hx hb dX6_look_110 ?_
              refine lv_goto (tgt := 115) hx hb dX6_look_111 rfl ?_
              refine lv_istore_n (lv' := [(3, .int (((100 * ((nI cd) / 9)) + (10 * (((nI cd) / 3) - ((nI cd) / 3) / 3 * 3))) + ((nI cd) - (nI cd) / 3 * 3))), (6, .int (alS (koM nw z x) (nw (6 + k)) (((nI cd) / 3) - ((nI cd) / 3) / 3 * 3) (nw (29 + k)) ((nI cd) - (nI cd) / 3 * 3) ((nI cd) / 9) 6)), (0, .ref (b 0)), (1, .int x), (2, .int (koM nw z x)), (4, .int f_), (5, .int (nI cd))]) hx hb dX6_look_115 rfl hl (by decide) rfl (fun ls hl => ?_)
              refine lv_iload hx hb dX6_look_116 (lv_at hl 1 rfl) ?_
              refine lv_iload hx hb dX6_look_118 (lv_at hl 5 rfl) ?_
              refine lv_icmp_ge (tgt := 128) hx hb dX6_look_120 rfl (fun cq120 => ?_) (fun cq120 => ?_)
              · skip
                exact absurd cq120 cq85
              · skip
                refine lv_iload hx hb dX6_look_123 (lv_at hl 1 rfl) ?_
                refine lv_goto (tgt := 130) hx hb dX6_look_125 rfl ?_
                refine lv_istore (lv' := [(4, .int (alS (koM nw z x) (nw (6 + k)) (((nI cd) / 3) - ((nI cd) / 3) / 3 * 3) (nw (29 + k)) ((nI cd) - (nI cd) / 3 * 3) ((nI cd) / 9) 6)), (3, .int (((100 * ((nI cd) / 9)) + (10 * (((nI cd) / 3) - ((nI cd) / 3) / 3 * 3))) + ((nI cd) - (nI cd) / 3 * 3))), (6, .int (alS (koM nw z x) (nw (6 + k)) (((nI cd) / 3) - ((nI cd) / 3) / 3 * 3) (nw (29 + k)) ((nI cd) - (nI cd) / 3 * 3) ((nI cd) / 9) 6)), (0, .ref (b 0)), (1, .int x), (2, .int (koM nw z x)), (5, .int (nI cd))]) hx hb dX6_look_130 hl (by decide) rfl (fun ls hl => ?_)
                refine lv_iinc (v := nI (cd + 1)) (lv' := [(5, .int (nI (cd + 1))), (4, .int (alS (koM nw z x) (nw (6 + k)) (((nI cd) / 3) - ((nI cd) / 3) / 3 * 3) (nw (29 + k)) ((nI cd) - (nI cd) / 3 * 3) ((nI cd) / 9) 6)), (3, .int (((100 * ((nI cd) / 9)) + (10 * (((nI cd) / 3) - ((nI cd) / 3) / 3 * 3))) + ((nI cd) - (nI cd) / 3 * 3))), (6, .int (alS (koM nw z x) (nw (6 + k)) (((nI cd) / 3) - ((nI cd) / 3) / 3 * 3) (nw (29 + k)) ((nI cd) - (nI cd) / 3 * 3) ((nI cd) / 9) 6)), (0, .ref (b 0)), (1, .int x), (2, .int (koM nw z x))]) hx hb dX6_look_132 hl (k := 6) rfl (nI_add _ 1) (by decide) rfl (fun ls hl => ?_)
                refine lv_goto (tgt := 34) hx hb dX6_look_135 rfl ?_
                exact ih34 (cd + 1) (((100 * ((nI cd) / 9)) + (10 * (((nI cd) / 3) - ((nI cd) / 3) / 3 * 3))) + ((nI cd) - (nI cd) / 3 * 3)) (alS (koM nw z x) (nw (6 + k)) (((nI cd) / 3) - ((nI cd) / 3) / 3 * 3) (nw (29 + k)) ((nI cd) - (nI cd) / 3 * 3) ((nI cd) / 9) 6) (by omega) ((am_s2 (f := lkF nw k (koM nw z x)) (v := lkV) h2 cq85).1) ((am_s2 (f := lkF nw k (koM nw z x)) (v := lkV) h2 cq85).2) (by omega) _ _ _ hw (lv_sub hl [4, 5, 6, 2, 1, 0] rfl)
      exact lp34 (27 - 0 + 1) 0 0 1000000 (by omega) (rfl) (rfl) (by omega) _ _ _ hw (lv_sub hl [4, 5, 3, 2, 1, 0] rfl)
    · skip
      refine lv_iconst (v := -1) hx hb dX6_look_23 rfl ?_
      exact x_iret E hA rt hw dX6_look_24 (by simp [cq5, cq20]) (by simp [cq5])
  · skip
    have cq5 := bI_0.mp cq5
    refine lv_aload_n hx hb dX6_look_8 rfl (lv_at hl 0 rfl) ?_
    refine x_callV (is := [0, 1, 2, 3, 4, 5, 6, 7, 8]) (q0 := 0) (As := []) (rest := []) (st1 := [.int (-2)]) (ws' := mW G b nw rd asd img kpt txt sz abv blw (bds + 1) nos fls att bgn tkn wrd vlu sts bst) E (c_X6_bad l G b nw rd asd img kpt txt sz abv blw bds nos fls att bgn tkn wrd vlu sts bst) vw_X6_63 hw [0, 1, 2, 3, 4, 5, 6, 7, 8] rfl rfl rfl rfl rfl rfl rfl hl.1 rfl rfl (Nat.le_of_ble_eq_true rfl) ⟨Nat.le_of_ble_eq_true rfl, Nat.le_of_ble_eq_true rfl⟩ (Nat.zero_le _) (Nat.zero_le _) dX6_look_9 rfl rfl (fun H locs hw => ?_)
    exact x_iret E hA rt hw dX6_look_12 (by simp [cq5]) (by simp [cq5])
set_option maxHeartbeats 1000000 in
set_option maxRecDepth 100000 in
theorem c_X6_who (l : Launch) (G : GG) (b : Nat → Nat) (x : Int32) (nw : Nat → Int32) (rd : Nat → Int32) (asd : Nat → Int32) (img : Nat → Int32) (kpt : Nat → Int32) (txt : Nat → Int32) (sz : Int32) (abv : Int64) (blw : Int64) (bds : Int32) (nos : Int32) (fls : Int32) (att : Int32) (bgn : Int32) (tkn : Int32) (wrd : Int64) (vlu : Int32) (sts : Nat → Int32) (bst : Nat → Int32) (n : Nat) (hc : nw 22 = nI n) (hn : n ≤ 6) : CT l G yX6_who cX6_who 4 (some .int) 2 46 [.ref (b 0), .int x] (mW G b nw rd asd img kpt txt sz abv blw bds nos fls att bgn tkn wrd vlu sts bst) (some (.int (if inI x 0 (nw 22 - 1) then btM (fun e => decide (whM nw n (nw e) = x)) n else -2))) (mW G b nw rd asd img kpt txt sz abv blw (if inI x 0 (nw 22 - 1) then bds else bds + 1) nos fls att bgn tkn wrd vlu sts bst) := by
  refine CT.mk (own := RX6) (la := [(0, .ref (b 0)), (1, .int x)]) (by decide) rfl (Nat.le_of_ble_eq_true rfl) rfl ?_
  intro p e s m args below meth c A Q E hA hw rt ls hl
  have hx := E.1
  have hb := E.2.1
  refine lv_aload_n hx hb dX6_who_0 rfl (lv_at hl 0 rfl) ?_
  refine lv_iload_n hx hb dX6_who_1 rfl (lv_at hl 1 rfl) ?_
  refine x_callV (is := [0, 1, 2, 3, 4, 5, 6, 7, 8]) (q0 := 0) (As := [.int x]) (rest := []) (st1 := [.int (bI (inI x 0 (nw 22 - 1)))]) (ws' := mW G b nw rd asd img kpt txt sz abv blw bds nos fls att bgn tkn wrd vlu sts bst) E (c_X6_isChild l G b x nw rd asd img kpt txt sz abv blw bds nos fls att bgn tkn wrd vlu sts bst) vw_X6_197 hw [0, 1, 2, 3, 4, 5, 6, 7, 8] rfl rfl rfl rfl rfl rfl rfl hl.1 rfl rfl (Nat.le_of_ble_eq_true rfl) ⟨Nat.le_of_ble_eq_true rfl, Nat.le_of_ble_eq_true rfl⟩ (Nat.zero_le _) (Nat.zero_le _) dX6_who_2 rfl rfl (fun H locs hw => ?_)
  refine lv_if_ne (tgt := 13) hx hb dX6_who_5 rfl (fun cq5 => ?_) (fun cq5 => ?_)
  · skip
    have cq5 := bI_n0.mp cq5
    refine lv_iconst (v := 0) hx hb dX6_who_13 rfl ?_
    refine lv_istore_n (lv' := [(2, .int 0), (0, .ref (b 0)), (1, .int x)]) hx hb dX6_who_14 rfl hl (by decide) rfl (fun ls hl => ?_)
    refine lv_iconst (v := 0) hx hb dX6_who_15 rfl ?_
    refine lv_istore_n (lv' := [(3, .int 0), (2, .int 0), (0, .ref (b 0)), (1, .int x)]) hx hb dX6_who_16 rfl hl (by decide) rfl (fun ls hl => ?_)
    have lp17 : ∀ (fuel : Nat), ∀ (k : Nat) (acc : Int32) (hk : k ≤ n) (hiv : acc = btM (fun e => decide (whM nw n (nw e) = x)) k), (n - k) < fuel → ∀ (H : Heap) (locs : List Loc) (ls : Array Slot), Wd G A s H locs (mW G b nw rd asd img kpt txt sz abv blw bds nos fls att bgn tkn wrd vlu sts bst) → lv_has ls 4 [(0, .ref (b 0)), (1, .int x), (2, .int acc), (3, .int (nI k))] → W p l e (rmx 2 46) s m args below meth c H locs 0 0 Q (F0 m 17 ls []) := by
      intro fuel
      induction fuel with
      | zero => intro k acc hk hiv hfu; exact absurd hfu (Nat.not_lt_zero _)
      | succ fuel ih17 =>
        intro k acc hk hiv hfu H locs ls hw hl
        refine lv_iload_n hx hb dX6_who_17 rfl (lv_at hl 3 rfl) ?_
        refine lv_aload_n hx hb dX6_who_18 rfl (lv_at hl 0 rfl) ?_
        refine x_get E hw fw_X6_7 0 rfl rfl dX6_who_19 ?_
        refine lv_bipush (v := 22) hx hb dX6_who_22 rfl ?_
        refine x_iald E hw 1 rfl 22 (rfl) (by omega) (by omega) dX6_who_24 ?_
        refine lv_icmp_ge (tgt := 56) hx hb dX6_who_25 rfl (fun cq25 => ?_) (fun cq25 => ?_)
        · skip
          have cq25 : n ≤ k := (cv_le (a := n) (b := k) hc rfl (by omega) (by omega)).mp cq25
          refine lv_iload_n hx hb dX6_who_56 rfl (lv_at hl 2 rfl) ?_
          exact x_iret E hA rt hw dX6_who_57 (by rw [if_pos cq5, hiv, show k = n by omega]) (by simp [cq5])
        · skip
          have cq25 : ¬ n ≤ k := fun h => cq25 ((cv_le (a := n) (b := k) hc rfl (by omega) (by omega)).mpr h)
          refine lv_iload_n hx hb dX6_who_28 rfl (lv_at hl 2 rfl) ?_
          refine lv_aload_n hx hb dX6_who_29 rfl (lv_at hl 0 rfl) ?_
          refine x_get E hw fw_X6_7 0 rfl rfl dX6_who_30 ?_
          refine lv_iload_n hx hb dX6_who_33 rfl (lv_at hl 3 rfl) ?_
          refine x_callS (is := [1]) (As := [.ref (b 1), .int (nI k)]) (rest := [.int acc]) (st1 := [.int (whM nw n (nw k)), .int acc]) (ws' := mW G b nw rd asd img kpt txt sz abv blw bds nos fls att bgn tkn wrd vlu sts bst) E (c_X6_whom l G (b 1) (nI k) k (rfl) nw 255 n (by omega) (by omega) (hc) (by omega) (by omega)) sw_X6_170 hw [1] rfl rfl rfl rfl hl.1 rfl rfl (Nat.le_of_ble_eq_true rfl) ⟨Nat.le_of_ble_eq_true rfl, Nat.le_of_ble_eq_true rfl⟩ (Nat.zero_le _) (Nat.zero_le _) dX6_who_34 rfl rfl (fun H locs hw => ?_)
          refine lv_iload_n hx hb dX6_who_37 rfl (lv_at hl 1 rfl) ?_
          refine lv_icmp_ne (tgt := 47) hx hb dX6_who_38 rfl (fun cq38 => ?_) (fun cq38 => ?_)
          · skip
            refine lv_iconst (v := 0) hx hb dX6_who_47 rfl ?_
            refine lv_ior hx hb dX6_who_48 ?_
            refine lv_istore_n (lv' := [(2, .int (acc ||| 0)), (0, .ref (b 0)), (1, .int x), (3, .int (nI k))]) hx hb dX6_who_49 rfl hl (by decide) rfl (fun ls hl => ?_)
            refine lv_iinc (v := nI (k + 1)) (lv' := [(3, .int (nI (k + 1))), (2, .int (acc ||| 0)), (0, .ref (b 0)), (1, .int x)]) hx hb dX6_who_50 hl (k := 3) rfl (nI_add _ 1) (by decide) rfl (fun ls hl => ?_)
            refine lv_goto (tgt := 17) hx hb dX6_who_53 rfl ?_
            exact ih17 (k + 1) (acc ||| 0) (by omega) (by rw [hiv, btM]; simp [cq5, cq25, cq38]) (by omega) _ _ _ hw (lv_sub hl [2, 3, 1, 0] rfl)
          · skip
            refine lv_iconst (v := 1) hx hb dX6_who_41 rfl ?_
            refine lv_iload_n hx hb dX6_who_42 rfl (lv_at hl 3 rfl) ?_
            refine lv_ishl hx hb dX6_who_43 ?_
            refine lv_goto (tgt := 48) hx hb dX6_who_44 rfl ?_
            refine lv_ior hx hb dX6_who_48 ?_
            refine lv_istore_n (lv' := [(2, .int (acc ||| ((1 : Int32) <<< ((nI k) &&& 31)))), (0, .ref (b 0)), (1, .int x), (3, .int (nI k))]) hx hb dX6_who_49 rfl hl (by decide) rfl (fun ls hl => ?_)
            refine lv_iinc (v := nI (k + 1)) (lv' := [(3, .int (nI (k + 1))), (2, .int (acc ||| ((1 : Int32) <<< ((nI k) &&& 31)))), (0, .ref (b 0)), (1, .int x)]) hx hb dX6_who_50 hl (k := 3) rfl (nI_add _ 1) (by decide) rfl (fun ls hl => ?_)
            refine lv_goto (tgt := 17) hx hb dX6_who_53 rfl ?_
            exact ih17 (k + 1) (acc ||| ((1 : Int32) <<< ((nI k) &&& 31))) (by omega) (by rw [hiv, btM]; simp [cq5, cq25, cq38]) (by omega) _ _ _ hw (lv_sub hl [2, 3, 1, 0] rfl)
    exact lp17 (n - 0 + 1) 0 0 (by omega) (rfl) (by omega) _ _ _ hw (lv_sub hl [2, 3, 1, 0] rfl)
  · skip
    have cq5 := bI_0.mp cq5
    refine lv_aload_n hx hb dX6_who_8 rfl (lv_at hl 0 rfl) ?_
    refine x_callV (is := [0, 1, 2, 3, 4, 5, 6, 7, 8]) (q0 := 0) (As := []) (rest := []) (st1 := [.int (-2)]) (ws' := mW G b nw rd asd img kpt txt sz abv blw (bds + 1) nos fls att bgn tkn wrd vlu sts bst) E (c_X6_bad l G b nw rd asd img kpt txt sz abv blw bds nos fls att bgn tkn wrd vlu sts bst) vw_X6_63 hw [0, 1, 2, 3, 4, 5, 6, 7, 8] rfl rfl rfl rfl rfl rfl rfl hl.1 rfl rfl (Nat.le_of_ble_eq_true rfl) ⟨Nat.le_of_ble_eq_true rfl, Nat.le_of_ble_eq_true rfl⟩ (Nat.zero_le _) (Nat.zero_le _) dX6_who_9 rfl rfl (fun H locs hw => ?_)
    exact x_iret E hA rt hw dX6_who_12 (by simp [cq5]) (by simp [cq5])
set_option maxHeartbeats 1000000 in
set_option maxRecDepth 100000 in
theorem c_X6_gets (l : Launch) (G : GG) (b : Nat → Nat) (x : Int32) (ch : Int32) (nw : Nat → Int32) (rd : Nat → Int32) (asd : Nat → Int32) (img : Nat → Int32) (kpt : Nat → Int32) (txt : Nat → Int32) (sz : Int32) (abv : Int64) (blw : Int64) (bds : Int32) (nos : Int32) (fls : Int32) (att : Int32) (bgn : Int32) (tkn : Int32) (wrd : Int64) (vlu : Int32) (sts : Nat → Int32) (bst : Nat → Int32) (n : Nat) (hc : nw 22 = nI n) (hn : n ≤ 6) : CT l G yX6_gets cX6_gets 6 (some .int) 5 112 [.ref (b 0), .int x, .int ch] (mW G b nw rd asd img kpt txt sz abv blw bds nos fls att bgn tkn wrd vlu sts bst) (some (.int (gtM nw n x ch n))) (mW G b nw rd asd img kpt txt sz abv blw bds nos fls att bgn tkn wrd vlu sts bst) := by
  refine CT.mk (own := RX6) (la := [(0, .ref (b 0)), (1, .int x), (2, .int ch)]) (by decide) rfl (Nat.le_of_ble_eq_true rfl) rfl ?_
  intro p e s m args below meth c A Q E hA hw rt ls hl
  have hx := E.1
  have hb := E.2.1
  refine lv_aload_n hx hb dX6_gets_0 rfl (lv_at hl 0 rfl) ?_
  refine x_get E hw fw_X6_7 0 rfl rfl dX6_gets_1 ?_
  refine x_callS (is := [1]) (As := [.ref (b 1)]) (rest := []) (st1 := [.int (bitrM nw n)]) (ws' := mW G b nw rd asd img kpt txt sz abv blw bds nos fls att bgn tkn wrd vlu sts bst) E (c_X6_biters l G (b 1) nw 255 n (by omega) (by omega) (hc) (by omega)) sw_X6_176 hw [1] rfl rfl rfl rfl hl.1 rfl rfl (Nat.le_of_ble_eq_true rfl) ⟨Nat.le_of_ble_eq_true rfl, Nat.le_of_ble_eq_true rfl⟩ (Nat.zero_le _) (Nat.zero_le _) dX6_gets_4 rfl rfl (fun H locs hw => ?_)
  refine lv_iload_n hx hb dX6_gets_7 rfl (lv_at hl 2 rfl) ?_
  refine lv_iconst (v := -1) hx hb dX6_gets_8 rfl ?_
  refine lv_ixor hx hb dX6_gets_9 ?_
  refine lv_iand hx hb dX6_gets_10 ?_
  refine x_topi (y := chB nw n ch) (rfl) ?_
  refine lv_istore_n (lv' := [(3, .int (chB nw n ch)), (0, .ref (b 0)), (1, .int x), (2, .int ch)]) hx hb dX6_gets_11 rfl hl (by decide) rfl (fun ls hl => ?_)
  have jn25 : ∀ (H : Heap) (locs : List Loc) (ls : Array Slot), Wd G A s H locs (mW G b nw rd asd img kpt txt sz abv blw bds nos fls att bgn tkn wrd vlu sts bst) → lv_has ls 6 [(0, .ref (b 0)), (1, .int x), (2, .int ch), (3, .int (chB nw n ch))] → W p l e (rmx 5 112) s m args below meth c H locs 0 0 Q (F0 m 25 ls [.int (if hasI ch x then 0 else 1)]) := by
    intro   H locs ls hw hl
    refine lv_istore (lv' := [(4, .int (if hasI ch x then 0 else 1)), (0, .ref (b 0)), (1, .int x), (2, .int ch), (3, .int (chB nw n ch))]) hx hb dX6_gets_25 hl (by decide) rfl (fun ls hl => ?_)
    refine lv_iconst (v := 0) hx hb dX6_gets_27 rfl ?_
    refine lv_istore (lv' := [(5, .int 0), (4, .int (if hasI ch x then 0 else 1)), (0, .ref (b 0)), (1, .int x), (2, .int ch), (3, .int (chB nw n ch))]) hx hb dX6_gets_28 hl (by decide) rfl (fun ls hl => ?_)
    have lp30 : ∀ (fuel : Nat), ∀ (k : Nat) (by_ : Int32) (hk : k ≤ n) (hiv : by_ = gtM nw n x ch k), (n - k) < fuel → ∀ (H : Heap) (locs : List Loc) (ls : Array Slot), Wd G A s H locs (mW G b nw rd asd img kpt txt sz abv blw bds nos fls att bgn tkn wrd vlu sts bst) → lv_has ls 6 [(0, .ref (b 0)), (1, .int x), (2, .int ch), (3, .int (chB nw n ch)), (4, .int by_), (5, .int (nI k))] → W p l e (rmx 5 112) s m args below meth c H locs 0 0 Q (F0 m 30 ls []) := by
      intro fuel
      induction fuel with
      | zero => intro k by_ hk hiv hfu; exact absurd hfu (Nat.not_lt_zero _)
      | succ fuel ih30 =>
        intro k by_ hk hiv hfu H locs ls hw hl
        refine lv_iload hx hb dX6_gets_30 (lv_at hl 5 rfl) ?_
        refine lv_aload_n hx hb dX6_gets_32 rfl (lv_at hl 0 rfl) ?_
        refine x_get E hw fw_X6_7 0 rfl rfl dX6_gets_33 ?_
        refine lv_bipush (v := 22) hx hb dX6_gets_36 rfl ?_
        refine x_iald E hw 1 rfl 22 (rfl) (by omega) (by omega) dX6_gets_38 ?_
        refine lv_icmp_ge (tgt := 80) hx hb dX6_gets_39 rfl (fun cq39 => ?_) (fun cq39 => ?_)
        · skip
          have cq39 : n ≤ k := (cv_le (a := n) (b := k) hc rfl (by omega) (by omega)).mp cq39
          refine lv_iload hx hb dX6_gets_80 (lv_at hl 4 rfl) ?_
          exact x_iret E hA rt hw dX6_gets_82 (by rw [hiv, show k = n by omega]) rfl
        · skip
          have cq39 : ¬ n ≤ k := fun h => cq39 ((cv_le (a := n) (b := k) hc rfl (by omega) (by omega)).mpr h)
          refine lv_iload hx hb dX6_gets_42 (lv_at hl 4 rfl) ?_
          refine lv_iload_n hx hb dX6_gets_44 rfl (lv_at hl 3 rfl) ?_
          refine lv_iload hx hb dX6_gets_45 (lv_at hl 5 rfl) ?_
          refine x_callS (is := []) (As := [.int (chB nw n ch), .int (nI k)]) (rest := [.int by_]) (st1 := [.int (bI (hasI (chB nw n ch) (nI k))), .int by_]) (ws' := mW G b nw rd asd img kpt txt sz abv blw bds nos fls att bgn tkn wrd vlu sts bst) E (c_X6_has l G (chB nw n ch) (nI k)) sw_X6_180 hw [] rfl rfl rfl rfl hl.1 rfl rfl (Nat.le_of_ble_eq_true rfl) ⟨Nat.le_of_ble_eq_true rfl, Nat.le_of_ble_eq_true rfl⟩ (Nat.zero_le _) (Nat.zero_le _) dX6_gets_47 rfl rfl (fun H locs hw => ?_)
          refine lv_if_eq (tgt := 70) hx hb dX6_gets_50 rfl (fun cq50 => ?_) (fun cq50 => ?_)
          · skip
            have cq50 := bI_0.mp cq50
            refine lv_iconst (v := 0) hx hb dX6_gets_70 rfl ?_
            refine lv_isub hx hb dX6_gets_71 ?_
            refine lv_istore (lv' := [(4, .int (by_ - 0)), (0, .ref (b 0)), (1, .int x), (2, .int ch), (3, .int (chB nw n ch)), (5, .int (nI k))]) hx hb dX6_gets_72 hl (by decide) rfl (fun ls hl => ?_)
            refine lv_iinc (v := nI (k + 1)) (lv' := [(5, .int (nI (k + 1))), (4, .int (by_ - 0)), (0, .ref (b 0)), (1, .int x), (2, .int ch), (3, .int (chB nw n ch))]) hx hb dX6_gets_74 hl (k := 5) rfl (nI_add _ 1) (by decide) rfl (fun ls hl => ?_)
            refine lv_goto (tgt := 30) hx hb dX6_gets_77 rfl ?_
            exact ih30 (k + 1) (by_ - 0) (by omega) (by rw [hiv, gtM]; simp [cq39, cq50]) (by omega) _ _ _ hw (lv_sub hl [2, 3, 4, 5, 1, 0] rfl)
          · skip
            have cq50 := bI_n0.mp cq50
            refine lv_aload_n hx hb dX6_gets_53 rfl (lv_at hl 0 rfl) ?_
            refine x_get E hw fw_X6_7 0 rfl rfl dX6_gets_54 ?_
            refine lv_iload hx hb dX6_gets_57 (lv_at hl 5 rfl) ?_
            refine x_callS (is := [1]) (As := [.ref (b 1), .int (nI k)]) (rest := [.int by_]) (st1 := [.int (whM nw n (nw k)), .int by_]) (ws' := mW G b nw rd asd img kpt txt sz abv blw bds nos fls att bgn tkn wrd vlu sts bst) E (c_X6_whom l G (b 1) (nI k) k (rfl) nw 255 n (by omega) (by omega) (hc) (by omega) (by omega)) sw_X6_170 hw [1] rfl rfl rfl rfl hl.1 rfl rfl (Nat.le_of_ble_eq_true rfl) ⟨Nat.le_of_ble_eq_true rfl, Nat.le_of_ble_eq_true rfl⟩ (Nat.zero_le _) (Nat.zero_le _) dX6_gets_59 rfl rfl (fun H locs hw => ?_)
            refine lv_iload_n hx hb dX6_gets_62 rfl (lv_at hl 1 rfl) ?_
            refine lv_icmp_ne (tgt := 70) hx hb dX6_gets_63 rfl (fun cq63 => ?_) (fun cq63 => ?_)
            · skip
              refine lv_iconst (v := 0) hx hb dX6_gets_70 rfl ?_
              refine lv_isub hx hb dX6_gets_71 ?_
              refine lv_istore (lv' := [(4, .int (by_ - 0)), (0, .ref (b 0)), (1, .int x), (2, .int ch), (3, .int (chB nw n ch)), (5, .int (nI k))]) hx hb dX6_gets_72 hl (by decide) rfl (fun ls hl => ?_)
              refine lv_iinc (v := nI (k + 1)) (lv' := [(5, .int (nI (k + 1))), (4, .int (by_ - 0)), (0, .ref (b 0)), (1, .int x), (2, .int ch), (3, .int (chB nw n ch))]) hx hb dX6_gets_74 hl (k := 5) rfl (nI_add _ 1) (by decide) rfl (fun ls hl => ?_)
              refine lv_goto (tgt := 30) hx hb dX6_gets_77 rfl ?_
              exact ih30 (k + 1) (by_ - 0) (by omega) (by rw [hiv, gtM]; simp [cq39, cq50, cq63]) (by omega) _ _ _ hw (lv_sub hl [2, 3, 4, 5, 1, 0] rfl)
            · skip
              refine lv_iconst (v := 2) hx hb dX6_gets_66 rfl ?_
              refine lv_goto (tgt := 71) hx hb dX6_gets_67 rfl ?_
              refine lv_isub hx hb dX6_gets_71 ?_
              refine lv_istore (lv' := [(4, .int (by_ - 2)), (0, .ref (b 0)), (1, .int x), (2, .int ch), (3, .int (chB nw n ch)), (5, .int (nI k))]) hx hb dX6_gets_72 hl (by decide) rfl (fun ls hl => ?_)
              refine lv_iinc (v := nI (k + 1)) (lv' := [(5, .int (nI (k + 1))), (4, .int (by_ - 2)), (0, .ref (b 0)), (1, .int x), (2, .int ch), (3, .int (chB nw n ch))]) hx hb dX6_gets_74 hl (k := 5) rfl (nI_add _ 1) (by decide) rfl (fun ls hl => ?_)
              refine lv_goto (tgt := 30) hx hb dX6_gets_77 rfl ?_
              exact ih30 (k + 1) (by_ - 2) (by omega) (by rw [hiv, gtM]; simp [cq39, cq50, cq63]) (by omega) _ _ _ hw (lv_sub hl [2, 3, 4, 5, 1, 0] rfl)
    exact lp30 (n - 0 + 1) 0 (if hasI ch x then 0 else 1) (by omega) (rfl) (by omega) _ _ _ hw (lv_sub hl [2, 3, 4, 5, 1, 0] rfl)
  refine lv_iload_n hx hb dX6_gets_12 rfl (lv_at hl 3 rfl) ?_
  refine lv_iload_n hx hb dX6_gets_13 rfl (lv_at hl 2 rfl) ?_
  refine x_callS (is := []) (As := [.int ch, .int x]) (rest := []) (st1 := [.int (bI (hasI ch x))]) (ws' := mW G b nw rd asd img kpt txt sz abv blw bds nos fls att bgn tkn wrd vlu sts bst) E (c_X6_has l G ch x) sw_X6_180 hw [] rfl rfl rfl rfl hl.1 rfl rfl (Nat.le_of_ble_eq_true rfl) ⟨Nat.le_of_ble_eq_true rfl, Nat.le_of_ble_eq_true rfl⟩ (Nat.zero_le _) (Nat.zero_le _) dX6_gets_14 rfl rfl (fun H locs hw => ?_)
  refine lv_if_eq (tgt := 24) hx hb dX6_gets_17 rfl (fun cq17 => ?_) (fun cq17 => ?_)
  · skip
    have cq17 := bI_0.mp cq17
    refine lv_iconst (v := 1) hx hb dX6_gets_24 rfl ?_
    refine x_topi (y := (if hasI ch x then 0 else 1)) (by simp [cq17]) ?_
    exact jn25    _ _ _ hw (lv_sub hl [1, 2, 3, 0] rfl)
  · skip
    have cq17 := bI_n0.mp cq17
    refine lv_iconst (v := 0) hx hb dX6_gets_20 rfl ?_
    refine lv_goto (tgt := 25) hx hb dX6_gets_21 rfl ?_
    refine x_topi (y := (if hasI ch x then 0 else 1)) (by simp [cq17]) ?_
    exact jn25    _ _ _ hw (lv_sub hl [1, 2, 3, 0] rfl)
set_option maxHeartbeats 1000000 in
set_option maxRecDepth 100000 in
theorem c_X6_rings (l : Launch) (G : GG) (b : Nat → Nat) (x : Int32) (y : Int32) (nw : Nat → Int32) (rd : Nat → Int32) (asd : Nat → Int32) (img : Nat → Int32) (kpt : Nat → Int32) (txt : Nat → Int32) (sz : Int32) (abv : Int64) (blw : Int64) (bds : Int32) (nos : Int32) (fls : Int32) (att : Int32) (bgn : Int32) (tkn : Int32) (wrd : Int64) (vlu : Int32) (sts : Nat → Int32) (bst : Nat → Int32) (n : Nat) (hc : nw 22 = nI n) (hn : n ≤ 6) : CT l G yX6_rings cX6_rings 7 (some .int) 6 137 [.ref (b 0), .int x, .int y] (mW G b nw rd asd img kpt txt sz abv blw bds nos fls att bgn tkn wrd vlu sts bst) (some (.int (if inI x 0 (nw 22 - 1) = true ∧ inI y 0 (nw 22 - 1) = true ∧ ¬ x = y then btM (rgM nw n x y) 4 else -2))) (mW G b nw rd asd img kpt txt sz abv blw (if inI x 0 (nw 22 - 1) = true ∧ inI y 0 (nw 22 - 1) = true ∧ ¬ x = y then bds else bds + 1) nos fls att bgn tkn wrd vlu sts bst) := by
  refine CT.mk (own := RX6) (la := [(0, .ref (b 0)), (1, .int x), (2, .int y)]) (by decide) rfl (Nat.le_of_ble_eq_true rfl) rfl ?_
  intro p e s m args below meth c A Q E hA hw rt ls hl
  have hx := E.1
  have hb := E.2.1
  refine lv_aload_n hx hb dX6_rings_0 rfl (lv_at hl 0 rfl) ?_
  refine lv_iload_n hx hb dX6_rings_1 rfl (lv_at hl 1 rfl) ?_
  refine x_callV (is := [0, 1, 2, 3, 4, 5, 6, 7, 8]) (q0 := 0) (As := [.int x]) (rest := []) (st1 := [.int (bI (inI x 0 (nw 22 - 1)))]) (ws' := mW G b nw rd asd img kpt txt sz abv blw bds nos fls att bgn tkn wrd vlu sts bst) E (c_X6_isChild l G b x nw rd asd img kpt txt sz abv blw bds nos fls att bgn tkn wrd vlu sts bst) vw_X6_197 hw [0, 1, 2, 3, 4, 5, 6, 7, 8] rfl rfl rfl rfl rfl rfl rfl hl.1 rfl rfl (Nat.le_of_ble_eq_true rfl) ⟨Nat.le_of_ble_eq_true rfl, Nat.le_of_ble_eq_true rfl⟩ (Nat.zero_le _) (Nat.zero_le _) dX6_rings_2 rfl rfl (fun H locs hw => ?_)
  refine lv_if_eq (tgt := 21) hx hb dX6_rings_5 rfl (fun cq5 => ?_) (fun cq5 => ?_)
  · skip
    have cq5 := bI_0.mp cq5
    refine lv_aload_n hx hb dX6_rings_21 rfl (lv_at hl 0 rfl) ?_
    refine x_callV (is := [0, 1, 2, 3, 4, 5, 6, 7, 8]) (q0 := 0) (As := []) (rest := []) (st1 := [.int (-2)]) (ws' := mW G b nw rd asd img kpt txt sz abv blw (bds + 1) nos fls att bgn tkn wrd vlu sts bst) E (c_X6_bad l G b nw rd asd img kpt txt sz abv blw bds nos fls att bgn tkn wrd vlu sts bst) vw_X6_63 hw [0, 1, 2, 3, 4, 5, 6, 7, 8] rfl rfl rfl rfl rfl rfl rfl hl.1 rfl rfl (Nat.le_of_ble_eq_true rfl) ⟨Nat.le_of_ble_eq_true rfl, Nat.le_of_ble_eq_true rfl⟩ (Nat.zero_le _) (Nat.zero_le _) dX6_rings_22 rfl rfl (fun H locs hw => ?_)
    exact x_iret E hA rt hw dX6_rings_25 (by simp [cq5]) (by simp [cq5])
  · skip
    have cq5 := bI_n0.mp cq5
    refine lv_aload_n hx hb dX6_rings_8 rfl (lv_at hl 0 rfl) ?_
    refine lv_iload_n hx hb dX6_rings_9 rfl (lv_at hl 2 rfl) ?_
    refine x_callV (is := [0, 1, 2, 3, 4, 5, 6, 7, 8]) (q0 := 0) (As := [.int y]) (rest := []) (st1 := [.int (bI (inI y 0 (nw 22 - 1)))]) (ws' := mW G b nw rd asd img kpt txt sz abv blw bds nos fls att bgn tkn wrd vlu sts bst) E (c_X6_isChild l G b y nw rd asd img kpt txt sz abv blw bds nos fls att bgn tkn wrd vlu sts bst) vw_X6_197 hw [0, 1, 2, 3, 4, 5, 6, 7, 8] rfl rfl rfl rfl rfl rfl rfl hl.1 rfl rfl (Nat.le_of_ble_eq_true rfl) ⟨Nat.le_of_ble_eq_true rfl, Nat.le_of_ble_eq_true rfl⟩ (Nat.zero_le _) (Nat.zero_le _) dX6_rings_10 rfl rfl (fun H locs hw => ?_)
    refine lv_if_eq (tgt := 21) hx hb dX6_rings_13 rfl (fun cq13 => ?_) (fun cq13 => ?_)
    · skip
      have cq13 := bI_0.mp cq13
      refine lv_aload_n hx hb dX6_rings_21 rfl (lv_at hl 0 rfl) ?_
      refine x_callV (is := [0, 1, 2, 3, 4, 5, 6, 7, 8]) (q0 := 0) (As := []) (rest := []) (st1 := [.int (-2)]) (ws' := mW G b nw rd asd img kpt txt sz abv blw (bds + 1) nos fls att bgn tkn wrd vlu sts bst) E (c_X6_bad l G b nw rd asd img kpt txt sz abv blw bds nos fls att bgn tkn wrd vlu sts bst) vw_X6_63 hw [0, 1, 2, 3, 4, 5, 6, 7, 8] rfl rfl rfl rfl rfl rfl rfl hl.1 rfl rfl (Nat.le_of_ble_eq_true rfl) ⟨Nat.le_of_ble_eq_true rfl, Nat.le_of_ble_eq_true rfl⟩ (Nat.zero_le _) (Nat.zero_le _) dX6_rings_22 rfl rfl (fun H locs hw => ?_)
      exact x_iret E hA rt hw dX6_rings_25 (by simp [cq5, cq13]) (by simp [cq5, cq13])
    · skip
      have cq13 := bI_n0.mp cq13
      refine lv_iload_n hx hb dX6_rings_16 rfl (lv_at hl 1 rfl) ?_
      refine lv_iload_n hx hb dX6_rings_17 rfl (lv_at hl 2 rfl) ?_
      refine lv_icmp_ne (tgt := 26) hx hb dX6_rings_18 rfl (fun cq18 => ?_) (fun cq18 => ?_)
      · skip
        refine lv_iconst (v := 0) hx hb dX6_rings_26 rfl ?_
        refine lv_istore_n (lv' := [(3, .int 0), (0, .ref (b 0)), (1, .int x), (2, .int y)]) hx hb dX6_rings_27 rfl hl (by decide) rfl (fun ls hl => ?_)
        refine lv_iconst (v := 0) hx hb dX6_rings_28 rfl ?_
        refine lv_istore (lv' := [(4, .int 0), (3, .int 0), (0, .ref (b 0)), (1, .int x), (2, .int y)]) hx hb dX6_rings_29 hl (by decide) rfl (fun ls hl => ?_)
        have lp31 : ∀ (fuel : Nat), ∀ (k : Nat) (acc : Int32) (hk : k ≤ 4) (hiv : acc = btM (rgM nw n x y) k), (4 - k) < fuel → ∀ (H : Heap) (locs : List Loc) (ls : Array Slot), Wd G A s H locs (mW G b nw rd asd img kpt txt sz abv blw bds nos fls att bgn tkn wrd vlu sts bst) → lv_has ls 7 [(0, .ref (b 0)), (1, .int x), (2, .int y), (3, .int acc), (4, .int (nI k))] → W p l e (rmx 6 137) s m args below meth c H locs 0 0 Q (F0 m 31 ls []) := by
          intro fuel
          induction fuel with
          | zero => intro k acc hk hiv hfu; exact absurd hfu (Nat.not_lt_zero _)
          | succ fuel ih31 =>
            intro k acc hk hiv hfu H locs ls hw hl
            refine lv_iload hx hb dX6_rings_31 (lv_at hl 4 rfl) ?_
            refine lv_iconst (v := 4) hx hb dX6_rings_33 rfl ?_
            refine lv_icmp_ge (tgt := 143) hx hb dX6_rings_34 rfl (fun cq34 => ?_) (fun cq34 => ?_)
            · skip
              have cq34 : 4 ≤ k := (cv_le (a := 4) (b := k) rfl rfl (by omega) (by omega)).mp cq34
              refine lv_iload_n hx hb dX6_rings_143 rfl (lv_at hl 3 rfl) ?_
              exact x_iret E hA rt hw dX6_rings_144 (by rw [if_pos ⟨cq5, cq13, cq18⟩, hiv, show k = 4 by omega]) (by rw [if_pos ⟨cq5, cq13, cq18⟩])
            · skip
              have cq34 : ¬ 4 ≤ k := fun h => cq34 ((cv_le (a := 4) (b := k) rfl rfl (by omega) (by omega)).mpr h)
              have jn53 : ∀ (H : Heap) (locs : List Loc) (ls : Array Slot), Wd G A s H locs (mW G b nw rd asd img kpt txt sz abv blw bds nos fls att bgn tkn wrd vlu sts bst) → lv_has ls 7 [(0, .ref (b 0)), (1, .int x), (2, .int y), (3, .int acc), (4, .int (nI k))] → W p l e (rmx 6 137) s m args below meth c H locs 0 0 Q (F0 m 53 ls [.int (if hasI (nI k) 0 then 0 else (1 : Int32) <<< (x &&& 31))]) := by
                intro   H locs ls hw hl
                have jn69 : ∀ (H : Heap) (locs : List Loc) (ls : Array Slot), Wd G A s H locs (mW G b nw rd asd img kpt txt sz abv blw bds nos fls att bgn tkn wrd vlu sts bst) → lv_has ls 7 [(0, .ref (b 0)), (1, .int x), (2, .int y), (3, .int acc), (4, .int (nI k))] → W p l e (rmx 6 137) s m args below meth c H locs 0 0 Q (F0 m 69 ls [.int (if hasI (nI k) 1 then 0 else (1 : Int32) <<< (y &&& 31)), .int (if hasI (nI k) 0 then 0 else (1 : Int32) <<< (x &&& 31))]) := by
                  intro   H locs ls hw hl
                  refine lv_ior hx hb dX6_rings_69 ?_
                  refine x_topi (y := chM x y k) (rfl) ?_
                  refine lv_istore (lv' := [(5, .int (chM x y k)), (0, .ref (b 0)), (1, .int x), (2, .int y), (3, .int acc), (4, .int (nI k))]) hx hb dX6_rings_70 hl (by decide) rfl (fun ls hl => ?_)
                  have jn119 : ∀ (H : Heap) (locs : List Loc) (ls : Array Slot), Wd G A s H locs (mW G b nw rd asd img kpt txt sz abv blw bds nos fls att bgn tkn wrd vlu sts bst) → lv_has ls 7 [(0, .ref (b 0)), (1, .int x), (2, .int y), (3, .int acc), (4, .int (nI k)), (5, .int (chM x y k))] → W p l e (rmx 6 137) s m args below meth c H locs 0 0 Q (F0 m 119 ls [.int (bI (rgM nw n x y k))]) := by
                    intro   H locs ls hw hl
                    refine lv_istore (lv' := [(6, .int (bI (rgM nw n x y k))), (0, .ref (b 0)), (1, .int x), (2, .int y), (3, .int acc), (4, .int (nI k)), (5, .int (chM x y k))]) hx hb dX6_rings_119 hl (by decide) rfl (fun ls hl => ?_)
                    refine lv_iload_n hx hb dX6_rings_121 rfl (lv_at hl 4 rfl) ?_
                    refine lv_iload hx hb dX6_rings_122 (lv_at hl 0 rfl) ?_
                    refine lv_if_eq (tgt := 134) hx hb dX6_rings_124 rfl (fun cq124 => ?_) (fun cq124 => ?_)
                    · skip
                      have cq124 := bI_0.mp cq124
                      refine lv_iconst (v := 0) hx hb dX6_rings_134 rfl ?_
                      refine lv_ior hx hb dX6_rings_135 ?_
                      refine lv_istore_n (lv' := [(3, .int (acc ||| 0)), (6, .int (bI (rgM nw n x y k))), (0, .ref (b 0)), (1, .int x), (2, .int y), (4, .int (nI k)), (5, .int (chM x y k))]) hx hb dX6_rings_136 rfl hl (by decide) rfl (fun ls hl => ?_)
                      refine lv_iinc (v := nI (k + 1)) (lv' := [(4, .int (nI (k + 1))), (3, .int (acc ||| 0)), (6, .int (bI (rgM nw n x y k))), (0, .ref (b 0)), (1, .int x), (2, .int y), (5, .int (chM x y k))]) hx hb dX6_rings_137 hl (k := 5) rfl (nI_add _ 1) (by decide) rfl (fun ls hl => ?_)
                      refine lv_goto (tgt := 31) hx hb dX6_rings_140 rfl ?_
                      exact ih31 (k + 1) (acc ||| 0) (by omega) (by rw [hiv, btM]; simp [cq124]) (by omega) _ _ _ hw (lv_sub hl [3, 4, 5, 1, 0] rfl)
                    · skip
                      have cq124 := bI_n0.mp cq124
                      refine lv_iconst (v := 1) hx hb dX6_rings_127 rfl ?_
                      refine lv_iload hx hb dX6_rings_128 (lv_at hl 5 rfl) ?_
                      refine lv_ishl hx hb dX6_rings_130 ?_
                      refine lv_goto (tgt := 135) hx hb dX6_rings_131 rfl ?_
                      refine lv_ior hx hb dX6_rings_135 ?_
                      refine lv_istore_n (lv' := [(3, .int (acc ||| ((1 : Int32) <<< ((nI k) &&& 31)))), (6, .int (bI (rgM nw n x y k))), (0, .ref (b 0)), (1, .int x), (2, .int y), (4, .int (nI k)), (5, .int (chM x y k))]) hx hb dX6_rings_136 rfl hl (by decide) rfl (fun ls hl => ?_)
                      refine lv_iinc (v := nI (k + 1)) (lv' := [(4, .int (nI (k + 1))), (3, .int (acc ||| ((1 : Int32) <<< ((nI k) &&& 31)))), (6, .int (bI (rgM nw n x y k))), (0, .ref (b 0)), (1, .int x), (2, .int y), (5, .int (chM x y k))]) hx hb dX6_rings_137 hl (k := 5) rfl (nI_add _ 1) (by decide) rfl (fun ls hl => ?_)
                      refine lv_goto (tgt := 31) hx hb dX6_rings_140 rfl ?_
                      exact ih31 (k + 1) (acc ||| ((1 : Int32) <<< ((nI k) &&& 31))) (by omega) (by rw [hiv, btM]; simp [cq124]) (by omega) _ _ _ hw (lv_sub hl [3, 4, 5, 1, 0] rfl)
                  refine lv_aload_n hx hb dX6_rings_72 rfl (lv_at hl 1 rfl) ?_
                  refine lv_iload_n hx hb dX6_rings_73 rfl (lv_at hl 2 rfl) ?_
                  refine lv_iload hx hb dX6_rings_74 (lv_at hl 0 rfl) ?_
                  refine x_callV (is := [0, 1, 2, 3, 4, 5, 6, 7, 8]) (q0 := 0) (As := [.int x, .int (chM x y k)]) (rest := []) (st1 := [.int (gtM nw n x (chM x y k) n)]) (ws' := mW G b nw rd asd img kpt txt sz abv blw bds nos fls att bgn tkn wrd vlu sts bst) E (c_X6_gets l G b x (chM x y k) nw rd asd img kpt txt sz abv blw bds nos fls att bgn tkn wrd vlu sts bst n (hc) (by omega)) vw_X6_225 hw [0, 1, 2, 3, 4, 5, 6, 7, 8] rfl rfl rfl rfl rfl rfl rfl hl.1 rfl rfl (Nat.le_of_ble_eq_true rfl) ⟨Nat.le_of_ble_eq_true rfl, Nat.le_of_ble_eq_true rfl⟩ (Nat.zero_le _) (Nat.zero_le _) dX6_rings_76 rfl rfl (fun H locs hw => ?_)
                  refine lv_aload_n hx hb dX6_rings_79 rfl (lv_at hl 1 rfl) ?_
                  refine lv_iload_n hx hb dX6_rings_80 rfl (lv_at hl 2 rfl) ?_
                  refine lv_iload hx hb dX6_rings_81 (lv_at hl 0 rfl) ?_
                  refine lv_iconst (v := 1) hx hb dX6_rings_83 rfl ?_
                  refine lv_iload_n hx hb dX6_rings_84 rfl (lv_at hl 2 rfl) ?_
                  refine lv_ishl hx hb dX6_rings_85 ?_
                  refine lv_ixor hx hb dX6_rings_86 ?_
                  refine x_callV (is := [0, 1, 2, 3, 4, 5, 6, 7, 8]) (q0 := 0) (As := [.int x, .int ((chM x y k) ^^^ ((1 : Int32) <<< (x &&& 31)))]) (rest := [.int (gtM nw n x (chM x y k) n)]) (st1 := [.int (gtM nw n x ((chM x y k) ^^^ ((1 : Int32) <<< (x &&& 31))) n), .int (gtM nw n x (chM x y k) n)]) (ws' := mW G b nw rd asd img kpt txt sz abv blw bds nos fls att bgn tkn wrd vlu sts bst) E (c_X6_gets l G b x ((chM x y k) ^^^ ((1 : Int32) <<< (x &&& 31))) nw rd asd img kpt txt sz abv blw bds nos fls att bgn tkn wrd vlu sts bst n (hc) (by omega)) vw_X6_225 hw [0, 1, 2, 3, 4, 5, 6, 7, 8] rfl rfl rfl rfl rfl rfl rfl hl.1 rfl rfl (Nat.le_of_ble_eq_true rfl) ⟨Nat.le_of_ble_eq_true rfl, Nat.le_of_ble_eq_true rfl⟩ (Nat.zero_le _) (Nat.zero_le _) dX6_rings_87 rfl rfl (fun H locs hw => ?_)
                  refine lv_icmp_lt (tgt := 118) hx hb dX6_rings_90 rfl (fun cq90 => ?_) (fun cq90 => ?_)
                  · skip
                    refine lv_iconst (v := 0) hx hb dX6_rings_118 rfl ?_
                    refine x_topi (y := bI (rgM nw n x y k)) (by simp [bI, rgM, cq5, cq13, cq18, cq34, cq90]) ?_
                    exact jn119    _ _ _ hw (lv_sub hl [1, 2, 3, 4, 5, 0] rfl)
                  · skip
                    refine lv_aload_n hx hb dX6_rings_93 rfl (lv_at hl 1 rfl) ?_
                    refine lv_iload_n hx hb dX6_rings_94 rfl (lv_at hl 3 rfl) ?_
                    refine lv_iload hx hb dX6_rings_95 (lv_at hl 0 rfl) ?_
                    refine x_callV (is := [0, 1, 2, 3, 4, 5, 6, 7, 8]) (q0 := 0) (As := [.int y, .int (chM x y k)]) (rest := []) (st1 := [.int (gtM nw n y (chM x y k) n)]) (ws' := mW G b nw rd asd img kpt txt sz abv blw bds nos fls att bgn tkn wrd vlu sts bst) E (c_X6_gets l G b y (chM x y k) nw rd asd img kpt txt sz abv blw bds nos fls att bgn tkn wrd vlu sts bst n (hc) (by omega)) vw_X6_225 hw [0, 1, 2, 3, 4, 5, 6, 7, 8] rfl rfl rfl rfl rfl rfl rfl hl.1 rfl rfl (Nat.le_of_ble_eq_true rfl) ⟨Nat.le_of_ble_eq_true rfl, Nat.le_of_ble_eq_true rfl⟩ (Nat.zero_le _) (Nat.zero_le _) dX6_rings_97 rfl rfl (fun H locs hw => ?_)
                    refine lv_aload_n hx hb dX6_rings_100 rfl (lv_at hl 1 rfl) ?_
                    refine lv_iload_n hx hb dX6_rings_101 rfl (lv_at hl 3 rfl) ?_
                    refine lv_iload hx hb dX6_rings_102 (lv_at hl 0 rfl) ?_
                    refine lv_iconst (v := 1) hx hb dX6_rings_104 rfl ?_
                    refine lv_iload_n hx hb dX6_rings_105 rfl (lv_at hl 3 rfl) ?_
                    refine lv_ishl hx hb dX6_rings_106 ?_
                    refine lv_ixor hx hb dX6_rings_107 ?_
                    refine x_callV (is := [0, 1, 2, 3, 4, 5, 6, 7, 8]) (q0 := 0) (As := [.int y, .int ((chM x y k) ^^^ ((1 : Int32) <<< (y &&& 31)))]) (rest := [.int (gtM nw n y (chM x y k) n)]) (st1 := [.int (gtM nw n y ((chM x y k) ^^^ ((1 : Int32) <<< (y &&& 31))) n), .int (gtM nw n y (chM x y k) n)]) (ws' := mW G b nw rd asd img kpt txt sz abv blw bds nos fls att bgn tkn wrd vlu sts bst) E (c_X6_gets l G b y ((chM x y k) ^^^ ((1 : Int32) <<< (y &&& 31))) nw rd asd img kpt txt sz abv blw bds nos fls att bgn tkn wrd vlu sts bst n (hc) (by omega)) vw_X6_225 hw [0, 1, 2, 3, 4, 5, 6, 7, 8] rfl rfl rfl rfl rfl rfl rfl hl.1 rfl rfl (Nat.le_of_ble_eq_true rfl) ⟨Nat.le_of_ble_eq_true rfl, Nat.le_of_ble_eq_true rfl⟩ (Nat.zero_le _) (Nat.zero_le _) dX6_rings_108 rfl rfl (fun H locs hw => ?_)
                    refine lv_icmp_lt (tgt := 118) hx hb dX6_rings_111 rfl (fun cq111 => ?_) (fun cq111 => ?_)
                    · skip
                      refine lv_iconst (v := 0) hx hb dX6_rings_118 rfl ?_
                      refine x_topi (y := bI (rgM nw n x y k)) (by simp [bI, rgM, cq5, cq13, cq18, cq34, cq90, cq111]) ?_
                      exact jn119    _ _ _ hw (lv_sub hl [1, 2, 3, 4, 5, 0] rfl)
                    · skip
                      refine lv_iconst (v := 1) hx hb dX6_rings_114 rfl ?_
                      refine lv_goto (tgt := 119) hx hb dX6_rings_115 rfl ?_
                      refine x_topi (y := bI (rgM nw n x y k)) (by simp [bI, rgM, cq5, cq13, cq18, cq34, cq90, cq111]) ?_
                      exact jn119    _ _ _ hw (lv_sub hl [1, 2, 3, 4, 5, 0] rfl)
                refine lv_iload hx hb dX6_rings_53 (lv_at hl 4 rfl) ?_
                refine lv_iconst (v := 1) hx hb dX6_rings_55 rfl ?_
                refine x_callS (is := []) (As := [.int (nI k), .int 1]) (rest := [.int (if hasI (nI k) 0 then 0 else (1 : Int32) <<< (x &&& 31))]) (st1 := [.int (bI (hasI (nI k) 1)), .int (if hasI (nI k) 0 then 0 else (1 : Int32) <<< (x &&& 31))]) (ws' := mW G b nw rd asd img kpt txt sz abv blw bds nos fls att bgn tkn wrd vlu sts bst) E (c_X6_has l G (nI k) 1) sw_X6_180 hw [] rfl rfl rfl rfl hl.1 rfl rfl (Nat.le_of_ble_eq_true rfl) ⟨Nat.le_of_ble_eq_true rfl, Nat.le_of_ble_eq_true rfl⟩ (Nat.zero_le _) (Nat.zero_le _) dX6_rings_56 rfl rfl (fun H locs hw => ?_)
                refine lv_if_eq (tgt := 66) hx hb dX6_rings_59 rfl (fun cq59 => ?_) (fun cq59 => ?_)
                · skip
                  have cq59 := bI_0.mp cq59
                  refine lv_iconst (v := 1) hx hb dX6_rings_66 rfl ?_
                  refine lv_iload_n hx hb dX6_rings_67 rfl (lv_at hl 2 rfl) ?_
                  refine lv_ishl hx hb dX6_rings_68 ?_
                  refine x_topi (y := (if hasI (nI k) 1 then 0 else (1 : Int32) <<< (y &&& 31))) (by simp [cq5, cq13, cq18, cq34, cq59]) ?_
                  exact jn69    _ _ _ hw (lv_sub hl [0, 1, 2, 3, 4] rfl)
                · skip
                  have cq59 := bI_n0.mp cq59
                  refine lv_iconst (v := 0) hx hb dX6_rings_62 rfl ?_
                  refine lv_goto (tgt := 69) hx hb dX6_rings_63 rfl ?_
                  refine x_topi (y := (if hasI (nI k) 1 then 0 else (1 : Int32) <<< (y &&& 31))) (by simp [cq5, cq13, cq18, cq34, cq59]) ?_
                  exact jn69    _ _ _ hw (lv_sub hl [0, 1, 2, 3, 4] rfl)
              refine lv_iload hx hb dX6_rings_37 (lv_at hl 4 rfl) ?_
              refine lv_iconst (v := 0) hx hb dX6_rings_39 rfl ?_
              refine x_callS (is := []) (As := [.int (nI k), .int 0]) (rest := []) (st1 := [.int (bI (hasI (nI k) 0))]) (ws' := mW G b nw rd asd img kpt txt sz abv blw bds nos fls att bgn tkn wrd vlu sts bst) E (c_X6_has l G (nI k) 0) sw_X6_180 hw [] rfl rfl rfl rfl hl.1 rfl rfl (Nat.le_of_ble_eq_true rfl) ⟨Nat.le_of_ble_eq_true rfl, Nat.le_of_ble_eq_true rfl⟩ (Nat.zero_le _) (Nat.zero_le _) dX6_rings_40 rfl rfl (fun H locs hw => ?_)
              refine lv_if_eq (tgt := 50) hx hb dX6_rings_43 rfl (fun cq43 => ?_) (fun cq43 => ?_)
              · skip
                have cq43 := bI_0.mp cq43
                refine lv_iconst (v := 1) hx hb dX6_rings_50 rfl ?_
                refine lv_iload_n hx hb dX6_rings_51 rfl (lv_at hl 1 rfl) ?_
                refine lv_ishl hx hb dX6_rings_52 ?_
                have jn69 : ∀ (H : Heap) (locs : List Loc) (ls : Array Slot), Wd G A s H locs (mW G b nw rd asd img kpt txt sz abv blw bds nos fls att bgn tkn wrd vlu sts bst) → lv_has ls 7 [(0, .ref (b 0)), (1, .int x), (2, .int y), (3, .int acc), (4, .int (nI k))] → W p l e (rmx 6 137) s m args below meth c H locs 0 0 Q (F0 m 69 ls [.int (if hasI (nI k) 1 then 0 else (1 : Int32) <<< (y &&& 31)), .int (if hasI (nI k) 0 then 0 else (1 : Int32) <<< (x &&& 31))]) := by
                  intro   H locs ls hw hl
                  refine lv_ior hx hb dX6_rings_69 ?_
                  refine x_topi (y := chM x y k) (rfl) ?_
                  refine lv_istore (lv' := [(5, .int (chM x y k)), (0, .ref (b 0)), (1, .int x), (2, .int y), (3, .int acc), (4, .int (nI k))]) hx hb dX6_rings_70 hl (by decide) rfl (fun ls hl => ?_)
                  have jn119 : ∀ (H : Heap) (locs : List Loc) (ls : Array Slot), Wd G A s H locs (mW G b nw rd asd img kpt txt sz abv blw bds nos fls att bgn tkn wrd vlu sts bst) → lv_has ls 7 [(0, .ref (b 0)), (1, .int x), (2, .int y), (3, .int acc), (4, .int (nI k)), (5, .int (chM x y k))] → W p l e (rmx 6 137) s m args below meth c H locs 0 0 Q (F0 m 119 ls [.int (bI (rgM nw n x y k))]) := by
                    intro   H locs ls hw hl
                    refine lv_istore (lv' := [(6, .int (bI (rgM nw n x y k))), (0, .ref (b 0)), (1, .int x), (2, .int y), (3, .int acc), (4, .int (nI k)), (5, .int (chM x y k))]) hx hb dX6_rings_119 hl (by decide) rfl (fun ls hl => ?_)
                    refine lv_iload_n hx hb dX6_rings_121 rfl (lv_at hl 4 rfl) ?_
                    refine lv_iload hx hb dX6_rings_122 (lv_at hl 0 rfl) ?_
                    refine lv_if_eq (tgt := 134) hx hb dX6_rings_124 rfl (fun cq124 => ?_) (fun cq124 => ?_)
                    · skip
                      have cq124 := bI_0.mp cq124
                      refine lv_iconst (v := 0) hx hb dX6_rings_134 rfl ?_
                      refine lv_ior hx hb dX6_rings_135 ?_
                      refine lv_istore_n (lv' := [(3, .int (acc ||| 0)), (6, .int (bI (rgM nw n x y k))), (0, .ref (b 0)), (1, .int x), (2, .int y), (4, .int (nI k)), (5, .int (chM x y k))]) hx hb dX6_rings_136 rfl hl (by decide) rfl (fun ls hl => ?_)
                      refine lv_iinc (v := nI (k + 1)) (lv' := [(4, .int (nI (k + 1))), (3, .int (acc ||| 0)), (6, .int (bI (rgM nw n x y k))), (0, .ref (b 0)), (1, .int x), (2, .int y), (5, .int (chM x y k))]) hx hb dX6_rings_137 hl (k := 5) rfl (nI_add _ 1) (by decide) rfl (fun ls hl => ?_)
                      refine lv_goto (tgt := 31) hx hb dX6_rings_140 rfl ?_
                      exact ih31 (k + 1) (acc ||| 0) (by omega) (by rw [hiv, btM]; simp [cq124]) (by omega) _ _ _ hw (lv_sub hl [3, 4, 5, 1, 0] rfl)
                    · skip
                      have cq124 := bI_n0.mp cq124
                      refine lv_iconst (v := 1) hx hb dX6_rings_127 rfl ?_
                      refine lv_iload hx hb dX6_rings_128 (lv_at hl 5 rfl) ?_
                      refine lv_ishl hx hb dX6_rings_130 ?_
                      refine lv_goto (tgt := 135) hx hb dX6_rings_131 rfl ?_
                      refine lv_ior hx hb dX6_rings_135 ?_
                      refine lv_istore_n (lv' := [(3, .int (acc ||| ((1 : Int32) <<< ((nI k) &&& 31)))), (6, .int (bI (rgM nw n x y k))), (0, .ref (b 0)), (1, .int x), (2, .int y), (4, .int (nI k)), (5, .int (chM x y k))]) hx hb dX6_rings_136 rfl hl (by decide) rfl (fun ls hl => ?_)
                      refine lv_iinc (v := nI (k + 1)) (lv' := [(4, .int (nI (k + 1))), (3, .int (acc ||| ((1 : Int32) <<< ((nI k) &&& 31)))), (6, .int (bI (rgM nw n x y k))), (0, .ref (b 0)), (1, .int x), (2, .int y), (5, .int (chM x y k))]) hx hb dX6_rings_137 hl (k := 5) rfl (nI_add _ 1) (by decide) rfl (fun ls hl => ?_)
                      refine lv_goto (tgt := 31) hx hb dX6_rings_140 rfl ?_
                      exact ih31 (k + 1) (acc ||| ((1 : Int32) <<< ((nI k) &&& 31))) (by omega) (by rw [hiv, btM]; simp [cq124]) (by omega) _ _ _ hw (lv_sub hl [3, 4, 5, 1, 0] rfl)
                  refine lv_aload_n hx hb dX6_rings_72 rfl (lv_at hl 1 rfl) ?_
                  refine lv_iload_n hx hb dX6_rings_73 rfl (lv_at hl 2 rfl) ?_
                  refine lv_iload hx hb dX6_rings_74 (lv_at hl 0 rfl) ?_
                  refine x_callV (is := [0, 1, 2, 3, 4, 5, 6, 7, 8]) (q0 := 0) (As := [.int x, .int (chM x y k)]) (rest := []) (st1 := [.int (gtM nw n x (chM x y k) n)]) (ws' := mW G b nw rd asd img kpt txt sz abv blw bds nos fls att bgn tkn wrd vlu sts bst) E (c_X6_gets l G b x (chM x y k) nw rd asd img kpt txt sz abv blw bds nos fls att bgn tkn wrd vlu sts bst n (hc) (by omega)) vw_X6_225 hw [0, 1, 2, 3, 4, 5, 6, 7, 8] rfl rfl rfl rfl rfl rfl rfl hl.1 rfl rfl (Nat.le_of_ble_eq_true rfl) ⟨Nat.le_of_ble_eq_true rfl, Nat.le_of_ble_eq_true rfl⟩ (Nat.zero_le _) (Nat.zero_le _) dX6_rings_76 rfl rfl (fun H locs hw => ?_)
                  refine lv_aload_n hx hb dX6_rings_79 rfl (lv_at hl 1 rfl) ?_
                  refine lv_iload_n hx hb dX6_rings_80 rfl (lv_at hl 2 rfl) ?_
                  refine lv_iload hx hb dX6_rings_81 (lv_at hl 0 rfl) ?_
                  refine lv_iconst (v := 1) hx hb dX6_rings_83 rfl ?_
                  refine lv_iload_n hx hb dX6_rings_84 rfl (lv_at hl 2 rfl) ?_
                  refine lv_ishl hx hb dX6_rings_85 ?_
                  refine lv_ixor hx hb dX6_rings_86 ?_
                  refine x_callV (is := [0, 1, 2, 3, 4, 5, 6, 7, 8]) (q0 := 0) (As := [.int x, .int ((chM x y k) ^^^ ((1 : Int32) <<< (x &&& 31)))]) (rest := [.int (gtM nw n x (chM x y k) n)]) (st1 := [.int (gtM nw n x ((chM x y k) ^^^ ((1 : Int32) <<< (x &&& 31))) n), .int (gtM nw n x (chM x y k) n)]) (ws' := mW G b nw rd asd img kpt txt sz abv blw bds nos fls att bgn tkn wrd vlu sts bst) E (c_X6_gets l G b x ((chM x y k) ^^^ ((1 : Int32) <<< (x &&& 31))) nw rd asd img kpt txt sz abv blw bds nos fls att bgn tkn wrd vlu sts bst n (hc) (by omega)) vw_X6_225 hw [0, 1, 2, 3, 4, 5, 6, 7, 8] rfl rfl rfl rfl rfl rfl rfl hl.1 rfl rfl (Nat.le_of_ble_eq_true rfl) ⟨Nat.le_of_ble_eq_true rfl, Nat.le_of_ble_eq_true rfl⟩ (Nat.zero_le _) (Nat.zero_le _) dX6_rings_87 rfl rfl (fun H locs hw => ?_)
                  refine lv_icmp_lt (tgt := 118) hx hb dX6_rings_90 rfl (fun cq90 => ?_) (fun cq90 => ?_)
                  · skip
                    refine lv_iconst (v := 0) hx hb dX6_rings_118 rfl ?_
                    refine x_topi (y := bI (rgM nw n x y k)) (by simp [bI, rgM, cq5, cq13, cq18, cq34, cq43, cq90]) ?_
                    exact jn119    _ _ _ hw (lv_sub hl [1, 2, 3, 4, 5, 0] rfl)
                  · skip
                    refine lv_aload_n hx hb dX6_rings_93 rfl (lv_at hl 1 rfl) ?_
                    refine lv_iload_n hx hb dX6_rings_94 rfl (lv_at hl 3 rfl) ?_
                    refine lv_iload hx hb dX6_rings_95 (lv_at hl 0 rfl) ?_
                    refine x_callV (is := [0, 1, 2, 3, 4, 5, 6, 7, 8]) (q0 := 0) (As := [.int y, .int (chM x y k)]) (rest := []) (st1 := [.int (gtM nw n y (chM x y k) n)]) (ws' := mW G b nw rd asd img kpt txt sz abv blw bds nos fls att bgn tkn wrd vlu sts bst) E (c_X6_gets l G b y (chM x y k) nw rd asd img kpt txt sz abv blw bds nos fls att bgn tkn wrd vlu sts bst n (hc) (by omega)) vw_X6_225 hw [0, 1, 2, 3, 4, 5, 6, 7, 8] rfl rfl rfl rfl rfl rfl rfl hl.1 rfl rfl (Nat.le_of_ble_eq_true rfl) ⟨Nat.le_of_ble_eq_true rfl, Nat.le_of_ble_eq_true rfl⟩ (Nat.zero_le _) (Nat.zero_le _) dX6_rings_97 rfl rfl (fun H locs hw => ?_)
                    refine lv_aload_n hx hb dX6_rings_100 rfl (lv_at hl 1 rfl) ?_
                    refine lv_iload_n hx hb dX6_rings_101 rfl (lv_at hl 3 rfl) ?_
                    refine lv_iload hx hb dX6_rings_102 (lv_at hl 0 rfl) ?_
                    refine lv_iconst (v := 1) hx hb dX6_rings_104 rfl ?_
                    refine lv_iload_n hx hb dX6_rings_105 rfl (lv_at hl 3 rfl) ?_
                    refine lv_ishl hx hb dX6_rings_106 ?_
                    refine lv_ixor hx hb dX6_rings_107 ?_
                    refine x_callV (is := [0, 1, 2, 3, 4, 5, 6, 7, 8]) (q0 := 0) (As := [.int y, .int ((chM x y k) ^^^ ((1 : Int32) <<< (y &&& 31)))]) (rest := [.int (gtM nw n y (chM x y k) n)]) (st1 := [.int (gtM nw n y ((chM x y k) ^^^ ((1 : Int32) <<< (y &&& 31))) n), .int (gtM nw n y (chM x y k) n)]) (ws' := mW G b nw rd asd img kpt txt sz abv blw bds nos fls att bgn tkn wrd vlu sts bst) E (c_X6_gets l G b y ((chM x y k) ^^^ ((1 : Int32) <<< (y &&& 31))) nw rd asd img kpt txt sz abv blw bds nos fls att bgn tkn wrd vlu sts bst n (hc) (by omega)) vw_X6_225 hw [0, 1, 2, 3, 4, 5, 6, 7, 8] rfl rfl rfl rfl rfl rfl rfl hl.1 rfl rfl (Nat.le_of_ble_eq_true rfl) ⟨Nat.le_of_ble_eq_true rfl, Nat.le_of_ble_eq_true rfl⟩ (Nat.zero_le _) (Nat.zero_le _) dX6_rings_108 rfl rfl (fun H locs hw => ?_)
                    refine lv_icmp_lt (tgt := 118) hx hb dX6_rings_111 rfl (fun cq111 => ?_) (fun cq111 => ?_)
                    · skip
                      refine lv_iconst (v := 0) hx hb dX6_rings_118 rfl ?_
                      refine x_topi (y := bI (rgM nw n x y k)) (by simp [bI, rgM, cq5, cq13, cq18, cq34, cq43, cq90, cq111]) ?_
                      exact jn119    _ _ _ hw (lv_sub hl [1, 2, 3, 4, 5, 0] rfl)
                    · skip
                      refine lv_iconst (v := 1) hx hb dX6_rings_114 rfl ?_
                      refine lv_goto (tgt := 119) hx hb dX6_rings_115 rfl ?_
                      refine x_topi (y := bI (rgM nw n x y k)) (by simp [bI, rgM, cq5, cq13, cq18, cq34, cq43, cq90, cq111]) ?_
                      exact jn119    _ _ _ hw (lv_sub hl [1, 2, 3, 4, 5, 0] rfl)
                refine x_topi (y := (if hasI (nI k) 0 then 0 else (1 : Int32) <<< (x &&& 31))) (by simp [cq5, cq13, cq18, cq34, cq43]) ?_
                exact jn53    _ _ _ hw (lv_sub hl [0, 1, 2, 3, 4] rfl)
              · skip
                have cq43 := bI_n0.mp cq43
                refine lv_iconst (v := 0) hx hb dX6_rings_46 rfl ?_
                refine lv_goto (tgt := 53) hx hb dX6_rings_47 rfl ?_
                have jn69 : ∀ (H : Heap) (locs : List Loc) (ls : Array Slot), Wd G A s H locs (mW G b nw rd asd img kpt txt sz abv blw bds nos fls att bgn tkn wrd vlu sts bst) → lv_has ls 7 [(0, .ref (b 0)), (1, .int x), (2, .int y), (3, .int acc), (4, .int (nI k))] → W p l e (rmx 6 137) s m args below meth c H locs 0 0 Q (F0 m 69 ls [.int (if hasI (nI k) 1 then 0 else (1 : Int32) <<< (y &&& 31)), .int (if hasI (nI k) 0 then 0 else (1 : Int32) <<< (x &&& 31))]) := by
                  intro   H locs ls hw hl
                  refine lv_ior hx hb dX6_rings_69 ?_
                  refine x_topi (y := chM x y k) (rfl) ?_
                  refine lv_istore (lv' := [(5, .int (chM x y k)), (0, .ref (b 0)), (1, .int x), (2, .int y), (3, .int acc), (4, .int (nI k))]) hx hb dX6_rings_70 hl (by decide) rfl (fun ls hl => ?_)
                  have jn119 : ∀ (H : Heap) (locs : List Loc) (ls : Array Slot), Wd G A s H locs (mW G b nw rd asd img kpt txt sz abv blw bds nos fls att bgn tkn wrd vlu sts bst) → lv_has ls 7 [(0, .ref (b 0)), (1, .int x), (2, .int y), (3, .int acc), (4, .int (nI k)), (5, .int (chM x y k))] → W p l e (rmx 6 137) s m args below meth c H locs 0 0 Q (F0 m 119 ls [.int (bI (rgM nw n x y k))]) := by
                    intro   H locs ls hw hl
                    refine lv_istore (lv' := [(6, .int (bI (rgM nw n x y k))), (0, .ref (b 0)), (1, .int x), (2, .int y), (3, .int acc), (4, .int (nI k)), (5, .int (chM x y k))]) hx hb dX6_rings_119 hl (by decide) rfl (fun ls hl => ?_)
                    refine lv_iload_n hx hb dX6_rings_121 rfl (lv_at hl 4 rfl) ?_
                    refine lv_iload hx hb dX6_rings_122 (lv_at hl 0 rfl) ?_
                    refine lv_if_eq (tgt := 134) hx hb dX6_rings_124 rfl (fun cq124 => ?_) (fun cq124 => ?_)
                    · skip
                      have cq124 := bI_0.mp cq124
                      refine lv_iconst (v := 0) hx hb dX6_rings_134 rfl ?_
                      refine lv_ior hx hb dX6_rings_135 ?_
                      refine lv_istore_n (lv' := [(3, .int (acc ||| 0)), (6, .int (bI (rgM nw n x y k))), (0, .ref (b 0)), (1, .int x), (2, .int y), (4, .int (nI k)), (5, .int (chM x y k))]) hx hb dX6_rings_136 rfl hl (by decide) rfl (fun ls hl => ?_)
                      refine lv_iinc (v := nI (k + 1)) (lv' := [(4, .int (nI (k + 1))), (3, .int (acc ||| 0)), (6, .int (bI (rgM nw n x y k))), (0, .ref (b 0)), (1, .int x), (2, .int y), (5, .int (chM x y k))]) hx hb dX6_rings_137 hl (k := 5) rfl (nI_add _ 1) (by decide) rfl (fun ls hl => ?_)
                      refine lv_goto (tgt := 31) hx hb dX6_rings_140 rfl ?_
                      exact ih31 (k + 1) (acc ||| 0) (by omega) (by rw [hiv, btM]; simp [cq124]) (by omega) _ _ _ hw (lv_sub hl [3, 4, 5, 1, 0] rfl)
                    · skip
                      have cq124 := bI_n0.mp cq124
                      refine lv_iconst (v := 1) hx hb dX6_rings_127 rfl ?_
                      refine lv_iload hx hb dX6_rings_128 (lv_at hl 5 rfl) ?_
                      refine lv_ishl hx hb dX6_rings_130 ?_
                      refine lv_goto (tgt := 135) hx hb dX6_rings_131 rfl ?_
                      refine lv_ior hx hb dX6_rings_135 ?_
                      refine lv_istore_n (lv' := [(3, .int (acc ||| ((1 : Int32) <<< ((nI k) &&& 31)))), (6, .int (bI (rgM nw n x y k))), (0, .ref (b 0)), (1, .int x), (2, .int y), (4, .int (nI k)), (5, .int (chM x y k))]) hx hb dX6_rings_136 rfl hl (by decide) rfl (fun ls hl => ?_)
                      refine lv_iinc (v := nI (k + 1)) (lv' := [(4, .int (nI (k + 1))), (3, .int (acc ||| ((1 : Int32) <<< ((nI k) &&& 31)))), (6, .int (bI (rgM nw n x y k))), (0, .ref (b 0)), (1, .int x), (2, .int y), (5, .int (chM x y k))]) hx hb dX6_rings_137 hl (k := 5) rfl (nI_add _ 1) (by decide) rfl (fun ls hl => ?_)
                      refine lv_goto (tgt := 31) hx hb dX6_rings_140 rfl ?_
                      exact ih31 (k + 1) (acc ||| ((1 : Int32) <<< ((nI k) &&& 31))) (by omega) (by rw [hiv, btM]; simp [cq124]) (by omega) _ _ _ hw (lv_sub hl [3, 4, 5, 1, 0] rfl)
                  refine lv_aload_n hx hb dX6_rings_72 rfl (lv_at hl 1 rfl) ?_
                  refine lv_iload_n hx hb dX6_rings_73 rfl (lv_at hl 2 rfl) ?_
                  refine lv_iload hx hb dX6_rings_74 (lv_at hl 0 rfl) ?_
                  refine x_callV (is := [0, 1, 2, 3, 4, 5, 6, 7, 8]) (q0 := 0) (As := [.int x, .int (chM x y k)]) (rest := []) (st1 := [.int (gtM nw n x (chM x y k) n)]) (ws' := mW G b nw rd asd img kpt txt sz abv blw bds nos fls att bgn tkn wrd vlu sts bst) E (c_X6_gets l G b x (chM x y k) nw rd asd img kpt txt sz abv blw bds nos fls att bgn tkn wrd vlu sts bst n (hc) (by omega)) vw_X6_225 hw [0, 1, 2, 3, 4, 5, 6, 7, 8] rfl rfl rfl rfl rfl rfl rfl hl.1 rfl rfl (Nat.le_of_ble_eq_true rfl) ⟨Nat.le_of_ble_eq_true rfl, Nat.le_of_ble_eq_true rfl⟩ (Nat.zero_le _) (Nat.zero_le _) dX6_rings_76 rfl rfl (fun H locs hw => ?_)
                  refine lv_aload_n hx hb dX6_rings_79 rfl (lv_at hl 1 rfl) ?_
                  refine lv_iload_n hx hb dX6_rings_80 rfl (lv_at hl 2 rfl) ?_
                  refine lv_iload hx hb dX6_rings_81 (lv_at hl 0 rfl) ?_
                  refine lv_iconst (v := 1) hx hb dX6_rings_83 rfl ?_
                  refine lv_iload_n hx hb dX6_rings_84 rfl (lv_at hl 2 rfl) ?_
                  refine lv_ishl hx hb dX6_rings_85 ?_
                  refine lv_ixor hx hb dX6_rings_86 ?_
                  refine x_callV (is := [0, 1, 2, 3, 4, 5, 6, 7, 8]) (q0 := 0) (As := [.int x, .int ((chM x y k) ^^^ ((1 : Int32) <<< (x &&& 31)))]) (rest := [.int (gtM nw n x (chM x y k) n)]) (st1 := [.int (gtM nw n x ((chM x y k) ^^^ ((1 : Int32) <<< (x &&& 31))) n), .int (gtM nw n x (chM x y k) n)]) (ws' := mW G b nw rd asd img kpt txt sz abv blw bds nos fls att bgn tkn wrd vlu sts bst) E (c_X6_gets l G b x ((chM x y k) ^^^ ((1 : Int32) <<< (x &&& 31))) nw rd asd img kpt txt sz abv blw bds nos fls att bgn tkn wrd vlu sts bst n (hc) (by omega)) vw_X6_225 hw [0, 1, 2, 3, 4, 5, 6, 7, 8] rfl rfl rfl rfl rfl rfl rfl hl.1 rfl rfl (Nat.le_of_ble_eq_true rfl) ⟨Nat.le_of_ble_eq_true rfl, Nat.le_of_ble_eq_true rfl⟩ (Nat.zero_le _) (Nat.zero_le _) dX6_rings_87 rfl rfl (fun H locs hw => ?_)
                  refine lv_icmp_lt (tgt := 118) hx hb dX6_rings_90 rfl (fun cq90 => ?_) (fun cq90 => ?_)
                  · skip
                    refine lv_iconst (v := 0) hx hb dX6_rings_118 rfl ?_
                    refine x_topi (y := bI (rgM nw n x y k)) (by simp [bI, rgM, cq5, cq13, cq18, cq34, cq43, cq90]) ?_
                    exact jn119    _ _ _ hw (lv_sub hl [1, 2, 3, 4, 5, 0] rfl)
                  · skip
                    refine lv_aload_n hx hb dX6_rings_93 rfl (lv_at hl 1 rfl) ?_
                    refine lv_iload_n hx hb dX6_rings_94 rfl (lv_at hl 3 rfl) ?_
                    refine lv_iload hx hb dX6_rings_95 (lv_at hl 0 rfl) ?_
                    refine x_callV (is := [0, 1, 2, 3, 4, 5, 6, 7, 8]) (q0 := 0) (As := [.int y, .int (chM x y k)]) (rest := []) (st1 := [.int (gtM nw n y (chM x y k) n)]) (ws' := mW G b nw rd asd img kpt txt sz abv blw bds nos fls att bgn tkn wrd vlu sts bst) E (c_X6_gets l G b y (chM x y k) nw rd asd img kpt txt sz abv blw bds nos fls att bgn tkn wrd vlu sts bst n (hc) (by omega)) vw_X6_225 hw [0, 1, 2, 3, 4, 5, 6, 7, 8] rfl rfl rfl rfl rfl rfl rfl hl.1 rfl rfl (Nat.le_of_ble_eq_true rfl) ⟨Nat.le_of_ble_eq_true rfl, Nat.le_of_ble_eq_true rfl⟩ (Nat.zero_le _) (Nat.zero_le _) dX6_rings_97 rfl rfl (fun H locs hw => ?_)
                    refine lv_aload_n hx hb dX6_rings_100 rfl (lv_at hl 1 rfl) ?_
                    refine lv_iload_n hx hb dX6_rings_101 rfl (lv_at hl 3 rfl) ?_
                    refine lv_iload hx hb dX6_rings_102 (lv_at hl 0 rfl) ?_
                    refine lv_iconst (v := 1) hx hb dX6_rings_104 rfl ?_
                    refine lv_iload_n hx hb dX6_rings_105 rfl (lv_at hl 3 rfl) ?_
                    refine lv_ishl hx hb dX6_rings_106 ?_
                    refine lv_ixor hx hb dX6_rings_107 ?_
                    refine x_callV (is := [0, 1, 2, 3, 4, 5, 6, 7, 8]) (q0 := 0) (As := [.int y, .int ((chM x y k) ^^^ ((1 : Int32) <<< (y &&& 31)))]) (rest := [.int (gtM nw n y (chM x y k) n)]) (st1 := [.int (gtM nw n y ((chM x y k) ^^^ ((1 : Int32) <<< (y &&& 31))) n), .int (gtM nw n y (chM x y k) n)]) (ws' := mW G b nw rd asd img kpt txt sz abv blw bds nos fls att bgn tkn wrd vlu sts bst) E (c_X6_gets l G b y ((chM x y k) ^^^ ((1 : Int32) <<< (y &&& 31))) nw rd asd img kpt txt sz abv blw bds nos fls att bgn tkn wrd vlu sts bst n (hc) (by omega)) vw_X6_225 hw [0, 1, 2, 3, 4, 5, 6, 7, 8] rfl rfl rfl rfl rfl rfl rfl hl.1 rfl rfl (Nat.le_of_ble_eq_true rfl) ⟨Nat.le_of_ble_eq_true rfl, Nat.le_of_ble_eq_true rfl⟩ (Nat.zero_le _) (Nat.zero_le _) dX6_rings_108 rfl rfl (fun H locs hw => ?_)
                    refine lv_icmp_lt (tgt := 118) hx hb dX6_rings_111 rfl (fun cq111 => ?_) (fun cq111 => ?_)
                    · skip
                      refine lv_iconst (v := 0) hx hb dX6_rings_118 rfl ?_
                      refine x_topi (y := bI (rgM nw n x y k)) (by simp [bI, rgM, cq5, cq13, cq18, cq34, cq43, cq90, cq111]) ?_
                      exact jn119    _ _ _ hw (lv_sub hl [1, 2, 3, 4, 5, 0] rfl)
                    · skip
                      refine lv_iconst (v := 1) hx hb dX6_rings_114 rfl ?_
                      refine lv_goto (tgt := 119) hx hb dX6_rings_115 rfl ?_
                      refine x_topi (y := bI (rgM nw n x y k)) (by simp [bI, rgM, cq5, cq13, cq18, cq34, cq43, cq90, cq111]) ?_
                      exact jn119    _ _ _ hw (lv_sub hl [1, 2, 3, 4, 5, 0] rfl)
                refine x_topi (y := (if hasI (nI k) 0 then 0 else (1 : Int32) <<< (x &&& 31))) (by simp [cq5, cq13, cq18, cq34, cq43]) ?_
                exact jn53    _ _ _ hw (lv_sub hl [0, 1, 2, 3, 4] rfl)
        exact lp31 (4 - 0 + 1) 0 0 (by omega) (rfl) (by omega) _ _ _ hw (lv_sub hl [2, 3, 4, 1, 0] rfl)
      · skip
        refine lv_aload_n hx hb dX6_rings_21 rfl (lv_at hl 0 rfl) ?_
        refine x_callV (is := [0, 1, 2, 3, 4, 5, 6, 7, 8]) (q0 := 0) (As := []) (rest := []) (st1 := [.int (-2)]) (ws' := mW G b nw rd asd img kpt txt sz abv blw (bds + 1) nos fls att bgn tkn wrd vlu sts bst) E (c_X6_bad l G b nw rd asd img kpt txt sz abv blw bds nos fls att bgn tkn wrd vlu sts bst) vw_X6_63 hw [0, 1, 2, 3, 4, 5, 6, 7, 8] rfl rfl rfl rfl rfl rfl rfl hl.1 rfl rfl (Nat.le_of_ble_eq_true rfl) ⟨Nat.le_of_ble_eq_true rfl, Nat.le_of_ble_eq_true rfl⟩ (Nat.zero_le _) (Nat.zero_le _) dX6_rings_22 rfl rfl (fun H locs hw => ?_)
        exact x_iret E hA rt hw dX6_rings_25 (by simp [cq5, cq13, cq18]) (by simp [cq5, cq13, cq18])
set_option maxHeartbeats 1000000 in
set_option maxRecDepth 100000 in
theorem c_X6_eyes (l : Launch) (G : GG) (b : Nat → Nat) (x : Int32) (nw : Nat → Int32) (rd : Nat → Int32) (asd : Nat → Int32) (img : Nat → Int32) (kpt : Nat → Int32) (txt : Nat → Int32) (sz : Int32) (abv : Int64) (blw : Int64) (bds : Int32) (nos : Int32) (fls : Int32) (att : Int32) (bgn : Int32) (tkn : Int32) (wrd : Int64) (vlu : Int32) (sts : Nat → Int32) (bst : Nat → Int32) (n : Nat) (hc : nw 22 = nI n) (hn : n ≤ 6) : CT l G yX6_eyes cX6_eyes 10 (some .int) 5 112 [.ref (b 0), .int x] (mW G b nw rd asd img kpt txt sz abv blw bds nos fls att bgn tkn wrd vlu sts bst) (some (.int (if inI x 0 10 then 1 else -2))) (mW G b nw rd asd img kpt txt sz (if inI x 0 10 then lN (eyU nw n x / Nat.gcd (eyU nw n x) 10) else abv) (if inI x 0 10 then lN (10 / Nat.gcd (eyU nw n x) 10) else blw) (if inI x 0 10 then bds else bds + 1) nos fls att bgn tkn wrd vlu sts bst) := by
  refine CT.mk (own := RX6) (la := [(0, .ref (b 0)), (1, .int x)]) (by decide) rfl (Nat.le_of_ble_eq_true rfl) rfl ?_
  intro p e s m args below meth c A Q E hA hw rt ls hl
  have hx := E.1
  have hb := E.2.1
  refine lv_iload_n hx hb dX6_eyes_0 rfl (lv_at hl 1 rfl) ?_
  refine lv_i2l (v := x.toInt64) hx hb dX6_eyes_1 rfl ?_
  refine lv_lconst (v := 0) hx hb dX6_eyes_2 rfl ?_
  refine lv_ldc2 hx hb E.2.2.2.1 (E.2.2.2.2.2.2.w kc_X6_228) dX6_eyes_3 ?_
  refine x_callS (is := []) (As := [.long x.toInt64, .long 0, .long 10]) (rest := []) (st1 := [.int (bI (inL x.toInt64 0 10))]) (ws' := mW G b nw rd asd img kpt txt sz abv blw bds nos fls att bgn tkn wrd vlu sts bst) E (c_X6_in l G x.toInt64 0 10) sw_X6_55 hw [] rfl rfl rfl rfl hl.1 rfl rfl (Nat.le_of_ble_eq_true rfl) ⟨Nat.le_of_ble_eq_true rfl, Nat.le_of_ble_eq_true rfl⟩ (Nat.zero_le _) (Nat.zero_le _) dX6_eyes_6 rfl rfl (fun H locs hw => ?_)
  refine x_topi (y := bI (inI x 0 10)) (congrArg bI (inL_I x 0 10 rfl rfl)) ?_
  refine lv_if_ne (tgt := 17) hx hb dX6_eyes_9 rfl (fun cq9 => ?_) (fun cq9 => ?_)
  · skip
    have cq9 := bI_n0.mp cq9
    obtain ⟨cx, -, hcx, ecx⟩ := inI_nat (a := 0) (b := 10) (by omega) (by omega) rfl rfl cq9
    obtain ⟨cnt, hcnt, ecnt⟩ := bitsV_btM (f := bitesM nw n) hn
    have eU : eyU nw n x = (cnt * (10 - cx)) := by rw [eyU, bitrM, ecnt, ecx, nI_clamp (by omega), nI_clamp (by omega)]
    have hU : (cnt * (10 - cx)) ≤ 60 := Nat.le_trans (Nat.mul_le_mul hcnt (Nat.sub_le 10 cx)) (by omega)
    refine lv_aload_n hx hb dX6_eyes_17 rfl (lv_at hl 0 rfl) ?_
    refine x_get E hw fw_X6_7 0 rfl rfl dX6_eyes_18 ?_
    refine x_callS (is := [1]) (As := [.ref (b 1)]) (rest := []) (st1 := [.int (bitrM nw n)]) (ws' := mW G b nw rd asd img kpt txt sz abv blw bds nos fls att bgn tkn wrd vlu sts bst) E (c_X6_biters l G (b 1) nw 255 n (by omega) (by omega) (hc) (by omega)) sw_X6_176 hw [1] rfl rfl rfl rfl hl.1 rfl rfl (Nat.le_of_ble_eq_true rfl) ⟨Nat.le_of_ble_eq_true rfl, Nat.le_of_ble_eq_true rfl⟩ (Nat.zero_le _) (Nat.zero_le _) dX6_eyes_21 rfl rfl (fun H locs hw => ?_)
    refine x_callS (is := []) (As := [.int (bitrM nw n)]) (rest := []) (st1 := [.int (bitsV (bitrM nw n))]) (ws' := mW G b nw rd asd img kpt txt sz abv blw bds nos fls att bgn tkn wrd vlu sts bst) E (c_X6_bits l G (bitrM nw n)) sw_X6_184 hw [] rfl rfl rfl rfl hl.1 rfl rfl (Nat.le_of_ble_eq_true rfl) ⟨Nat.le_of_ble_eq_true rfl, Nat.le_of_ble_eq_true rfl⟩ (Nat.zero_le _) (Nat.zero_le _) dX6_eyes_24 rfl rfl (fun H locs hw => ?_)
    refine x_topi (y := nI cnt) (ecnt) ?_
    refine lv_i2l (v := (nI cnt).toInt64) hx hb dX6_eyes_27 rfl ?_
    refine lv_bipush (v := 10) hx hb dX6_eyes_28 rfl ?_
    refine lv_iload_n hx hb dX6_eyes_30 rfl (lv_at hl 1 rfl) ?_
    refine lv_isub hx hb dX6_eyes_31 ?_
    refine x_topi (y := nI (10 - cx)) (by rw [ecx]; exact pk_sub (a := 10) (b := cx) hcx) ?_
    refine lv_i2l (v := (nI (10 - cx)).toInt64) hx hb dX6_eyes_32 rfl ?_
    refine lv_lmul hx hb dX6_eyes_33 ?_
    refine x_topl (y := lN (cnt * (10 - cx))) (by rw [nI_l (by omega), nI_l (by omega), lN_mul]) ?_
    refine lv_lstore_n (lv' := [(2, .long (lN (cnt * (10 - cx)))), (0, .ref (b 0)), (1, .int x)]) hx hb dX6_eyes_34 rfl hl (by decide) rfl (fun ls hl => ?_)
    refine lv_lload_n hx hb dX6_eyes_35 rfl (lv_at hl 0 rfl) ?_
    refine lv_lstore (lv' := [(4, .long (lN (cnt * (10 - cx)))), (2, .long (lN (cnt * (10 - cx)))), (0, .ref (b 0)), (1, .int x)]) hx hb dX6_eyes_36 hl (by decide) rfl (fun ls hl => ?_)
    refine lv_ldc2 hx hb E.2.2.2.1 (E.2.2.2.2.2.2.w kc_X6_228) dX6_eyes_38 ?_
    refine lv_lstore (lv' := [(6, .long 10), (4, .long (lN (cnt * (10 - cx)))), (2, .long (lN (cnt * (10 - cx)))), (0, .ref (b 0)), (1, .int x)]) hx hb dX6_eyes_41 hl (by decide) rfl (fun ls hl => ?_)
    have lp43 : ∀ (fuel : Nat), ∀ (a2 : Nat) (b2 : Nat) (ha2 : a2 ≤ 60) (hb2 : b2 ≤ 10) (hg : Nat.gcd a2 b2 = Nat.gcd (cnt * (10 - cx)) 10), b2 < fuel → ∀ (H : Heap) (locs : List Loc) (ls : Array Slot), Wd G A s H locs (mW G b nw rd asd img kpt txt sz abv blw bds nos fls att bgn tkn wrd vlu sts bst) → lv_has ls 10 [(0, .ref (b 0)), (1, .int x), (2, .long (lN (cnt * (10 - cx)))), (4, .long (lN a2)), (6, .long (lN b2))] → W p l e (rmx 5 112) s m args below meth c H locs 0 0 Q (F0 m 43 ls []) := by
      intro fuel
      induction fuel with
      | zero => intro a2 b2 ha2 hb2 hg hfu; exact absurd hfu (Nat.not_lt_zero _)
      | succ fuel ih43 =>
        intro a2 b2 ha2 hb2 hg hfu H locs ls hw hl
        refine lv_lload hx hb dX6_eyes_43 (lv_at hl 4 rfl) ?_
        refine lv_lconst (v := 0) hx hb dX6_eyes_45 rfl ?_
        refine W.lcmp hx hb dX6_eyes_46 ?_
        refine lv_if_eq (tgt := 68) hx hb dX6_eyes_47 rfl (fun cq47 => ?_) (fun cq47 => ?_)
        · skip
          have cq47 := (lg_cmp_eq (lN b2) 0).mp cq47
          have hb0 : b2 = 0 := (pk_lEQ (a := b2) (b := 0) (by omega) (by omega)).mp cq47
          rw [hb0, Nat.gcd_zero_right] at hg
          have hgp : 0 < a2 := by rw [hg]; exact Nat.gcd_pos_of_pos_right _ (by omega)
          have ha0 : ¬ lN a2 = 0 := fun h => absurd ((pk_lEQ (a := a2) (b := 0) (by omega) (by omega)).mp h) (by omega)
          refine lv_aload_n hx hb dX6_eyes_68 rfl (lv_at hl 0 rfl) ?_
          refine lv_lload_n hx hb dX6_eyes_69 rfl (lv_at hl 2 rfl) ?_
          refine lv_lload hx hb dX6_eyes_70 (lv_at hl 3 rfl) ?_
          refine lv_ldiv hx hb dX6_eyes_72 (ha0) ?_
          refine x_topl (y := lN ((cnt * (10 - cx)) / a2)) (pk_lDiv (by omega) (by omega) (by omega)) ?_
          refine x_put (ws' := mW G b nw rd asd img kpt txt sz (lN ((cnt * (10 - cx)) / a2)) blw bds nos fls att bgn tkn wrd vlu sts bst) (ty := .long) E hw fw_X6_230 0 rfl rfl rfl (by decide +kernel) rfl rfl (Nat.le_of_ble_eq_true rfl) dX6_eyes_73 rfl (fun H locs hw => ?_)
          refine lv_aload_n hx hb dX6_eyes_76 rfl (lv_at hl 0 rfl) ?_
          refine lv_ldc2 hx hb E.2.2.2.1 (E.2.2.2.2.2.2.w kc_X6_228) dX6_eyes_77 ?_
          refine lv_lload hx hb dX6_eyes_80 (lv_at hl 3 rfl) ?_
          refine lv_ldiv hx hb dX6_eyes_82 (ha0) ?_
          refine x_topl (y := lN (10 / a2)) (pk_lDiv (a := 10) (by omega) (by omega) (by omega)) ?_
          refine x_put (ws' := mW G b nw rd asd img kpt txt sz (lN ((cnt * (10 - cx)) / a2)) (lN (10 / a2)) bds nos fls att bgn tkn wrd vlu sts bst) (ty := .long) E hw fw_X6_29 0 rfl rfl rfl (by decide +kernel) rfl rfl (Nat.le_of_ble_eq_true rfl) dX6_eyes_83 rfl (fun H locs hw => ?_)
          refine lv_iconst (v := 1) hx hb dX6_eyes_86 rfl ?_
          exact x_iret E hA rt hw dX6_eyes_87 (by simp [cq9]) (by simp only [cq9, if_true]; rw [eU, ← hg])
        · skip
          have cq47 := mt (lg_cmp_eq (lN b2) 0).mpr cq47
          have hb0 : b2 ≠ 0 := fun h => cq47 (by rw [h]; rfl)
          have hmd := Nat.mod_lt a2 (Nat.pos_of_ne_zero hb0)
          refine lv_lload hx hb dX6_eyes_50 (lv_at hl 3 rfl) ?_
          refine lv_lload hx hb dX6_eyes_52 (lv_at hl 4 rfl) ?_
          refine lv_lrem hx hb dX6_eyes_54 (cq47) ?_
          refine x_topl (y := lN (a2 % b2)) (pk_lRem (by omega) (by omega) (by omega)) ?_
          refine lv_lstore (lv' := [(8, .long (lN (a2 % b2))), (0, .ref (b 0)), (1, .int x), (2, .long (lN (cnt * (10 - cx)))), (4, .long (lN a2)), (6, .long (lN b2))]) hx hb dX6_eyes_55 hl (by decide) rfl (fun ls hl => ?_)
          refine lv_lload hx hb dX6_eyes_57 (lv_at hl 5 rfl) ?_
          refine lv_lstore (lv' := [(4, .long (lN b2)), (8, .long (lN (a2 % b2))), (0, .ref (b 0)), (1, .int x), (2, .long (lN (cnt * (10 - cx)))), (6, .long (lN b2))]) hx hb dX6_eyes_59 hl (by decide) rfl (fun ls hl => ?_)
          refine lv_lload hx hb dX6_eyes_61 (lv_at hl 1 rfl) ?_
          refine lv_lstore (lv' := [(6, .long (lN (a2 % b2))), (4, .long (lN b2)), (8, .long (lN (a2 % b2))), (0, .ref (b 0)), (1, .int x), (2, .long (lN (cnt * (10 - cx))))]) hx hb dX6_eyes_63 hl (by decide) rfl (fun ls hl => ?_)
          refine lv_goto (tgt := 43) hx hb dX6_eyes_65 rfl ?_
          exact ih43 b2 (a2 % b2) (by omega) (by omega) (by rw [Nat.gcd_comm b2, ← Nat.gcd_rec, Nat.gcd_comm]; exact hg) (by omega) _ _ _ hw (lv_sub hl [3, 4, 5, 1, 0] rfl)
    exact lp43 (10 + 1) (cnt * (10 - cx)) 10 (hU) (by omega) (rfl) (by omega) _ _ _ hw (lv_sub hl [3, 4, 2, 1, 0] rfl)
  · skip
    have cq9 := bI_0.mp cq9
    refine lv_aload_n hx hb dX6_eyes_12 rfl (lv_at hl 0 rfl) ?_
    refine x_callV (is := [0, 1, 2, 3, 4, 5, 6, 7, 8]) (q0 := 0) (As := []) (rest := []) (st1 := [.int (-2)]) (ws' := mW G b nw rd asd img kpt txt sz abv blw (bds + 1) nos fls att bgn tkn wrd vlu sts bst) E (c_X6_bad l G b nw rd asd img kpt txt sz abv blw bds nos fls att bgn tkn wrd vlu sts bst) vw_X6_63 hw [0, 1, 2, 3, 4, 5, 6, 7, 8] rfl rfl rfl rfl rfl rfl rfl hl.1 rfl rfl (Nat.le_of_ble_eq_true rfl) ⟨Nat.le_of_ble_eq_true rfl, Nat.le_of_ble_eq_true rfl⟩ (Nat.zero_le _) (Nat.zero_le _) dX6_eyes_13 rfl rfl (fun H locs hw => ?_)
    exact x_iret E hA rt hw dX6_eyes_16 (by simp [cq9]) (by simp [cq9])
set_option maxHeartbeats 1000000 in
set_option maxRecDepth 100000 in
theorem c_X6_weeks (l : Launch) (G : GG) (b : Nat → Nat) (x : Int32) (y : Int32) (nw : Nat → Int32) (rd : Nat → Int32) (asd : Nat → Int32) (img : Nat → Int32) (kpt : Nat → Int32) (txt : Nat → Int32) (sz : Int32) (abv : Int64) (blw : Int64) (bds : Int32) (nos : Int32) (fls : Int32) (att : Int32) (bgn : Int32) (tkn : Int32) (wrd : Int64) (vlu : Int32) (sts : Nat → Int32) (bst : Nat → Int32) (n : Nat) (hc : nw 22 = nI n) (hn : n ≤ 6) : CE l G yX6_weeks cX6_weeks 8 (some .int) 7 157 [.ref (b 0), .int x, .int y] (mW G b nw rd asd img kpt txt sz abv blw bds nos fls att bgn tkn wrd vlu sts bst) (some (.int (if inI x 0 999999 = true ∧ inI y 0 60 = true then (wkS nw n x.toInt64 y.toNatClampNeg).2 else -2))) (fun uu : (Nat → Int32) => mW G b nw rd uu img kpt txt sz abv blw (if inI x 0 999999 = true ∧ inI y 0 60 = true then bds else bds + 1) nos fls att bgn tkn wrd vlu sts bst) := by
  refine CE.mk (own := RX6) (la := [(0, .ref (b 0)), (1, .int x), (2, .int y)]) (by decide) rfl (Nat.le_of_ble_eq_true rfl) rfl ?_
  intro p e s m args below meth c A Q E hA hw rt ls hl
  have hx := E.1
  have hb := E.2.1
  refine lv_iload_n hx hb dX6_weeks_0 rfl (lv_at hl 1 rfl) ?_
  refine lv_i2l (v := x.toInt64) hx hb dX6_weeks_1 rfl ?_
  refine lv_lconst (v := 0) hx hb dX6_weeks_2 rfl ?_
  refine lv_ldc2 hx hb E.2.2.2.1 (E.2.2.2.2.2.2.w kc_X6_233) dX6_weeks_3 ?_
  refine x_callS (is := []) (As := [.long x.toInt64, .long 0, .long 999999]) (rest := []) (st1 := [.int (bI (inL x.toInt64 0 999999))]) (ws' := mW G b nw rd asd img kpt txt sz abv blw bds nos fls att bgn tkn wrd vlu sts bst) E (c_X6_in l G x.toInt64 0 999999) sw_X6_55 hw [] rfl rfl rfl rfl hl.1 rfl rfl (Nat.le_of_ble_eq_true rfl) ⟨Nat.le_of_ble_eq_true rfl, Nat.le_of_ble_eq_true rfl⟩ (Nat.zero_le _) (Nat.zero_le _) dX6_weeks_6 rfl rfl (fun H locs hw => ?_)
  refine x_topi (y := bI (inI x 0 999999)) (congrArg bI (inL_I x 0 999999 rfl rfl)) ?_
  refine lv_if_eq (tgt := 24) hx hb dX6_weeks_9 rfl (fun cq9 => ?_) (fun cq9 => ?_)
  · skip
    have cq9 := bI_0.mp cq9
    refine lv_aload_n hx hb dX6_weeks_24 rfl (lv_at hl 0 rfl) ?_
    refine x_callV (is := [0, 1, 2, 3, 4, 5, 6, 7, 8]) (q0 := 0) (As := []) (rest := []) (st1 := [.int (-2)]) (ws' := mW G b nw rd asd img kpt txt sz abv blw (bds + 1) nos fls att bgn tkn wrd vlu sts bst) E (c_X6_bad l G b nw rd asd img kpt txt sz abv blw bds nos fls att bgn tkn wrd vlu sts bst) vw_X6_63 hw [0, 1, 2, 3, 4, 5, 6, 7, 8] rfl rfl rfl rfl rfl rfl rfl hl.1 rfl rfl (Nat.le_of_ble_eq_true rfl) ⟨Nat.le_of_ble_eq_true rfl, Nat.le_of_ble_eq_true rfl⟩ (Nat.zero_le _) (Nat.zero_le _) dX6_weeks_25 rfl rfl (fun H locs hw => ?_)
    exact x_iretE (asd) E hA rt hw dX6_weeks_28 (by simp [cq9]) (by simp [cq9])
  · skip
    have cq9 := bI_n0.mp cq9
    refine lv_iload_n hx hb dX6_weeks_12 rfl (lv_at hl 2 rfl) ?_
    refine lv_i2l (v := y.toInt64) hx hb dX6_weeks_13 rfl ?_
    refine lv_lconst (v := 0) hx hb dX6_weeks_14 rfl ?_
    refine lv_ldc2 hx hb E.2.2.2.1 (E.2.2.2.2.2.2.w kc_X6_188) dX6_weeks_15 ?_
    refine x_callS (is := []) (As := [.long y.toInt64, .long 0, .long 60]) (rest := []) (st1 := [.int (bI (inL y.toInt64 0 60))]) (ws' := mW G b nw rd asd img kpt txt sz abv blw bds nos fls att bgn tkn wrd vlu sts bst) E (c_X6_in l G y.toInt64 0 60) sw_X6_55 hw [] rfl rfl rfl rfl hl.1 rfl rfl (Nat.le_of_ble_eq_true rfl) ⟨Nat.le_of_ble_eq_true rfl, Nat.le_of_ble_eq_true rfl⟩ (Nat.zero_le _) (Nat.zero_le _) dX6_weeks_18 rfl rfl (fun H locs hw => ?_)
    refine x_topi (y := bI (inI y 0 60)) (congrArg bI (inL_I y 0 60 rfl rfl)) ?_
    refine lv_if_ne (tgt := 29) hx hb dX6_weeks_21 rfl (fun cq21 => ?_) (fun cq21 => ?_)
    · skip
      have cq21 := bI_n0.mp cq21
      obtain ⟨mm, hm1, hm2, em⟩ := inI_nat (a := 0) (b := 60) (by omega) (by omega) rfl rfl cq21
      have eym : y.toNatClampNeg = mm := by rw [em, nI_clamp (by omega)]
      refine lv_iload_n hx hb dX6_weeks_29 rfl (lv_at hl 1 rfl) ?_
      refine lv_i2l (v := x.toInt64) hx hb dX6_weeks_30 rfl ?_
      refine lv_lstore_n (lv' := [(3, .long x.toInt64), (0, .ref (b 0)), (1, .int x), (2, .int y)]) hx hb dX6_weeks_31 rfl hl (by decide) rfl (fun ls hl => ?_)
      refine lv_iconst (v := 0) hx hb dX6_weeks_32 rfl ?_
      refine lv_istore (lv' := [(5, .int 0), (3, .long x.toInt64), (0, .ref (b 0)), (1, .int x), (2, .int y)]) hx hb dX6_weeks_33 hl (by decide) rfl (fun ls hl => ?_)
      refine lv_iconst (v := 0) hx hb dX6_weeks_35 rfl ?_
      refine lv_istore (lv' := [(6, .int 0), (5, .int 0), (3, .long x.toInt64), (0, .ref (b 0)), (1, .int x), (2, .int y)]) hx hb dX6_weeks_36 hl (by decide) rfl (fun ls hl => ?_)
      have lp38 : ∀ (fuel : Nat), ∀ (k : Nat) (xl : Int64) (sm : Int32) (t : Nat → Int32) (hk : k ≤ mm) (hxl : xl = (wkS nw n x.toInt64 k).1) (hsm : sm = (wkS nw n x.toInt64 k).2), (mm - k) < fuel → ∀ (H : Heap) (locs : List Loc) (ls : Array Slot), Wd G A s H locs (mW G b nw rd t img kpt txt sz abv blw bds nos fls att bgn tkn wrd vlu sts bst) → lv_has ls 8 [(0, .ref (b 0)), (1, .int x), (2, .int y), (3, .long xl), (5, .int sm), (6, .int (nI k))] → W p l e (rmx 7 157) s m args below meth c H locs 0 0 Q (F0 m 38 ls []) := by
        intro fuel
        induction fuel with
        | zero => intro k xl sm t hk hxl hsm hfu; exact absurd hfu (Nat.not_lt_zero _)
        | succ fuel ih38 =>
          intro k xl sm t hk hxl hsm hfu H locs ls hw hl
          refine lv_iload hx hb dX6_weeks_38 (lv_at hl 5 rfl) ?_
          refine lv_iload_n hx hb dX6_weeks_40 rfl (lv_at hl 2 rfl) ?_
          refine lv_icmp_ge (tgt := 119) hx hb dX6_weeks_41 rfl (fun cq41 => ?_) (fun cq41 => ?_)
          · skip
            have cq41 : mm ≤ k := (cv_le (a := mm) (b := k) em rfl (by omega) (by omega)).mp cq41
            refine lv_iload hx hb dX6_weeks_119 (lv_at hl 4 rfl) ?_
            exact x_iretE (t) E hA rt hw dX6_weeks_121 (by rw [if_pos ⟨cq9, cq21⟩, eym, hsm, show k = mm by omega]) (by rw [if_pos ⟨cq9, cq21⟩])
          · skip
            have cq41 : ¬ mm ≤ k := fun h => cq41 ((cv_le (a := mm) (b := k) em rfl (by omega) (by omega)).mpr h)
            refine lv_aload_n hx hb dX6_weeks_44 rfl (lv_at hl 0 rfl) ?_
            refine x_callV (is := [0, 1, 2, 3, 4, 5, 6, 7, 8]) (q0 := 0) (As := []) (rest := []) (st1 := []) (ws' := mW G b nw rd nw img kpt txt sz abv blw bds nos fls att bgn tkn wrd vlu sts bst) E (c_X6_layAside l G b nw rd t img kpt txt sz abv blw bds nos fls att bgn tkn wrd vlu sts bst) vw_X6_205 hw [0, 1, 2, 3, 4, 5, 6, 7, 8] rfl rfl rfl rfl rfl rfl rfl hl.1 rfl rfl (Nat.le_of_ble_eq_true rfl) ⟨Nat.le_of_ble_eq_true rfl, Nat.le_of_ble_eq_true rfl⟩ (Nat.zero_le _) (Nat.zero_le _) dX6_weeks_45 rfl rfl (fun H locs hw => ?_)
            refine lv_iconst (v := 0) hx hb dX6_weeks_48 rfl ?_
            refine lv_istore (lv' := [(7, .int 0), (0, .ref (b 0)), (1, .int x), (2, .int y), (3, .long xl), (5, .int sm), (6, .int (nI k))]) hx hb dX6_weeks_49 hl (by decide) rfl (fun ls hl => ?_)
            have lp51 : ∀ (fuel : Nat), ∀ (i : Nat) (x2 : Int64) (t2 : Nat → Int32) (hii : i ≤ n) (hx2 : x2 = wkX xl i) (ht2 : t2 = wkA nw xl i), (n - i) < fuel → ∀ (H : Heap) (locs : List Loc) (ls : Array Slot), Wd G A s H locs (mW G b nw rd t2 img kpt txt sz abv blw bds nos fls att bgn tkn wrd vlu sts bst) → lv_has ls 8 [(0, .ref (b 0)), (1, .int x), (2, .int y), (3, .long x2), (5, .int sm), (6, .int (nI k)), (7, .int (nI i))] → W p l e (rmx 7 157) s m args below meth c H locs 0 0 Q (F0 m 51 ls []) := by
              intro fuel
              induction fuel with
              | zero => intro i x2 t2 hii hx2 ht2 hfu; exact absurd hfu (Nat.not_lt_zero _)
              | succ fuel ih51 =>
                intro i x2 t2 hii hx2 ht2 hfu H locs ls hw hl
                refine lv_iload hx hb dX6_weeks_51 (lv_at hl 6 rfl) ?_
                refine lv_aload_n hx hb dX6_weeks_53 rfl (lv_at hl 0 rfl) ?_
                refine x_get E hw fw_X6_7 0 rfl rfl dX6_weeks_54 ?_
                refine lv_bipush (v := 22) hx hb dX6_weeks_57 rfl ?_
                refine x_iald E hw 1 rfl 22 (rfl) (by omega) (by omega) dX6_weeks_59 ?_
                refine lv_icmp_ge (tgt := 103) hx hb dX6_weeks_60 rfl (fun cq60 => ?_) (fun cq60 => ?_)
                · skip
                  have cq60 : n ≤ i := (cv_le (a := n) (b := i) hc rfl (by omega) (by omega)).mp cq60
                  refine lv_iload hx hb dX6_weeks_103 (lv_at hl 4 rfl) ?_
                  refine lv_aload_n hx hb dX6_weeks_105 rfl (lv_at hl 0 rfl) ?_
                  refine lv_iconst (v := 3) hx hb dX6_weeks_106 rfl ?_
                  refine x_callV (is := [0, 1, 2, 3, 4, 5, 6, 7, 8]) (q0 := 0) (As := [.int 3]) (rest := [.int sm]) (st1 := [.int (brM n 3 t2), .int sm]) (ws' := mW G b nw rd (goN n 3 t2) img kpt txt sz abv blw bds nos fls att bgn tkn wrd vlu sts bst) E (c_X6_bitesIn l G b 3 3 (rfl) nw rd t2 img kpt txt sz abv blw bds nos fls att bgn tkn wrd vlu sts bst n (by rw [ht2, wkA_out (by omega) i (by omega)]; exact hc) (by omega) (by omega)) vw_X6_208 hw [0, 1, 2, 3, 4, 5, 6, 7, 8] rfl rfl rfl rfl rfl rfl rfl hl.1 rfl rfl (Nat.le_of_ble_eq_true rfl) ⟨Nat.le_of_ble_eq_true rfl, Nat.le_of_ble_eq_true rfl⟩ (Nat.zero_le _) (Nat.zero_le _) dX6_weeks_107 rfl rfl (fun H locs hw => ?_)
                  refine lv_iadd hx hb dX6_weeks_110 ?_
                  refine lv_istore (lv' := [(5, .int (sm + (brM n 3 t2))), (0, .ref (b 0)), (1, .int x), (2, .int y), (3, .long x2), (6, .int (nI k)), (7, .int (nI i))]) hx hb dX6_weeks_111 hl (by decide) rfl (fun ls hl => ?_)
                  refine lv_iinc (v := nI (k + 1)) (lv' := [(6, .int (nI (k + 1))), (5, .int (sm + (brM n 3 t2))), (0, .ref (b 0)), (1, .int x), (2, .int y), (3, .long x2), (7, .int (nI i))]) hx hb dX6_weeks_113 hl (k := 5) rfl (nI_add _ 1) (by decide) rfl (fun ls hl => ?_)
                  refine lv_goto (tgt := 38) hx hb dX6_weeks_116 rfl ?_
                  exact ih38 (k + 1) x2 (sm + (brM n 3 t2)) (goN n 3 t2) (by omega) (by rw [hx2, show i = n by omega, hxl]; rfl) (by rw [ht2, show i = n by omega, hsm, hxl]; rfl) (by omega) _ _ _ hw (lv_sub hl [2, 3, 4, 5, 1, 0] rfl)
                · skip
                  have cq60 : ¬ n ≤ i := fun h => cq60 ((cv_le (a := n) (b := i) hc rfl (by omega) (by omega)).mpr h)
                  refine lv_lload_n hx hb dX6_weeks_63 rfl (lv_at hl 3 rfl) ?_
                  refine lv_ldc2 hx hb E.2.2.2.1 (E.2.2.2.2.2.2.w kc_X6_235) dX6_weeks_64 ?_
                  refine lv_lmul hx hb dX6_weeks_67 ?_
                  refine lv_ldc2 hx hb E.2.2.2.1 (E.2.2.2.2.2.2.w kc_X6_237) dX6_weeks_68 ?_
                  refine lv_ladd hx hb dX6_weeks_71 ?_
                  refine lv_ldc2 hx hb E.2.2.2.1 (E.2.2.2.2.2.2.w kc_X6_239) dX6_weeks_72 ?_
                  refine lv_lrem hx hb dX6_weeks_75 (by decide) ?_
                  refine x_topl (y := lcg x2) (rfl) ?_
                  refine lv_lstore_n (lv' := [(3, .long (lcg x2)), (0, .ref (b 0)), (1, .int x), (2, .int y), (5, .int sm), (6, .int (nI k)), (7, .int (nI i))]) hx hb dX6_weeks_76 rfl hl (by decide) rfl (fun ls hl => ?_)
                  refine lv_aload_n hx hb dX6_weeks_77 rfl (lv_at hl 1 rfl) ?_
                  refine x_get E hw fw_X6_16 0 rfl rfl dX6_weeks_78 ?_
                  refine lv_bipush (v := 6) hx hb dX6_weeks_81 rfl ?_
                  refine lv_iload hx hb dX6_weeks_83 (lv_at hl 6 rfl) ?_
                  refine lv_iadd hx hb dX6_weeks_85 ?_
                  refine lv_lload_n hx hb dX6_weeks_86 rfl (lv_at hl 0 rfl) ?_
                  refine lv_ldc2 hx hb E.2.2.2.1 (E.2.2.2.2.2.2.w kc_X6_241) dX6_weeks_87 ?_
                  refine lv_ldiv hx hb dX6_weeks_90 (by decide) ?_
                  refine lv_ldc2 hx hb E.2.2.2.1 (E.2.2.2.2.2.2.w kc_X6_243) dX6_weeks_91 ?_
                  refine lv_lrem hx hb dX6_weeks_94 (by decide) ?_
                  refine lv_l2i (v := (((lcg x2) / 65536) - ((lcg x2) / 65536) / 31 * 31).toInt32) hx hb dX6_weeks_95 rfl ?_
                  refine x_topi (y := hgO (lcg x2)) (rfl) ?_
                  refine x_iast (ws' := mW G b nw rd (upd t2 (6 + i) (hgO (lcg x2))) img kpt txt sz abv blw bds nos fls att bgn tkn wrd vlu sts bst) E hw 3 rfl (6 + i) ((ix_add (a := 6) (b := i) rfl rfl)) (by omega) (by omega) dX6_weeks_96 rfl (fun H locs hw => ?_)
                  refine lv_iinc (v := nI (i + 1)) (lv' := [(7, .int (nI (i + 1))), (3, .long (lcg x2)), (0, .ref (b 0)), (1, .int x), (2, .int y), (5, .int sm), (6, .int (nI k))]) hx hb dX6_weeks_97 hl (k := 6) rfl (nI_add _ 1) (by decide) rfl (fun ls hl => ?_)
                  refine lv_goto (tgt := 51) hx hb dX6_weeks_100 rfl ?_
                  exact ih51 (i + 1) (lcg x2) (upd t2 (6 + i) (hgO (lcg x2))) (by omega) (by rw [hx2]; rfl) (by rw [ht2, hx2]; rfl) (by omega) _ _ _ hw (lv_sub hl [2, 3, 4, 1, 5, 6, 0] rfl)
            exact lp51 (n - 0 + 1) 0 xl nw (by omega) (rfl) (rfl) (by omega) _ _ _ hw (lv_sub hl [1, 2, 3, 4, 5, 6, 0] rfl)
      exact lp38 (mm - 0 + 1) 0 x.toInt64 0 asd (by omega) (rfl) (rfl) (by omega) _ _ _ hw (lv_sub hl [3, 4, 5, 2, 1, 0] rfl)
    · skip
      have cq21 := bI_0.mp cq21
      refine lv_aload_n hx hb dX6_weeks_24 rfl (lv_at hl 0 rfl) ?_
      refine x_callV (is := [0, 1, 2, 3, 4, 5, 6, 7, 8]) (q0 := 0) (As := []) (rest := []) (st1 := [.int (-2)]) (ws' := mW G b nw rd asd img kpt txt sz abv blw (bds + 1) nos fls att bgn tkn wrd vlu sts bst) E (c_X6_bad l G b nw rd asd img kpt txt sz abv blw bds nos fls att bgn tkn wrd vlu sts bst) vw_X6_63 hw [0, 1, 2, 3, 4, 5, 6, 7, 8] rfl rfl rfl rfl rfl rfl rfl hl.1 rfl rfl (Nat.le_of_ble_eq_true rfl) ⟨Nat.le_of_ble_eq_true rfl, Nat.le_of_ble_eq_true rfl⟩ (Nat.zero_le _) (Nat.zero_le _) dX6_weeks_25 rfl rfl (fun H locs hw => ?_)
      exact x_iretE (asd) E hA rt hw dX6_weeks_28 (by simp [cq9, cq21]) (by simp [cq9, cq21])
set_option maxHeartbeats 1000000 in
set_option maxRecDepth 100000 in
theorem c_X6_part (l : Launch) (G : GG) (b : Nat → Nat) (x : Int32) (nw : Nat → Int32) (rd : Nat → Int32) (asd : Nat → Int32) (img : Nat → Int32) (kpt : Nat → Int32) (txt : Nat → Int32) (sz : Int32) (abv : Int64) (blw : Int64) (bds : Int32) (nos : Int32) (fls : Int32) (att : Int32) (bgn : Int32) (tkn : Int32) (wrd : Int64) (vlu : Int32) (sts : Nat → Int32) (bst : Nat → Int32) : CT l G yX6_part cX6_part 2 (some .long) 1 25 [.ref (b 0), .int x] (mW G b nw rd asd img kpt txt sz abv blw bds nos fls att bgn tkn wrd vlu sts bst) (some (.long (if inI x 0 1 then (if x = 0 then abv else blw) else -2))) (mW G b nw rd asd img kpt txt sz abv blw (if inI x 0 1 then bds else bds + 1) nos fls att bgn tkn wrd vlu sts bst) := by
  refine CT.mk (own := RX6) (la := [(0, .ref (b 0)), (1, .int x)]) (by decide) rfl (Nat.le_of_ble_eq_true rfl) rfl ?_
  intro p e s m args below meth c A Q E hA hw rt ls hl
  have hx := E.1
  have hb := E.2.1
  refine lv_iload_n hx hb dX6_part_0 rfl (lv_at hl 1 rfl) ?_
  refine lv_i2l (v := x.toInt64) hx hb dX6_part_1 rfl ?_
  refine lv_lconst (v := 0) hx hb dX6_part_2 rfl ?_
  refine lv_lconst (v := 1) hx hb dX6_part_3 rfl ?_
  refine x_callS (is := []) (As := [.long x.toInt64, .long 0, .long 1]) (rest := []) (st1 := [.int (bI (inL x.toInt64 0 1))]) (ws' := mW G b nw rd asd img kpt txt sz abv blw bds nos fls att bgn tkn wrd vlu sts bst) E (c_X6_in l G x.toInt64 0 1) sw_X6_55 hw [] rfl rfl rfl rfl hl.1 rfl rfl (Nat.le_of_ble_eq_true rfl) ⟨Nat.le_of_ble_eq_true rfl, Nat.le_of_ble_eq_true rfl⟩ (Nat.zero_le _) (Nat.zero_le _) dX6_part_4 rfl rfl (fun H locs hw => ?_)
  refine x_topi (y := bI (inI x 0 1)) (congrArg bI (inL_I x 0 1 rfl rfl)) ?_
  refine lv_if_ne (tgt := 16) hx hb dX6_part_7 rfl (fun cq7 => ?_) (fun cq7 => ?_)
  · skip
    have cq7 := bI_n0.mp cq7
    refine lv_iload_n hx hb dX6_part_16 rfl (lv_at hl 1 rfl) ?_
    refine lv_if_ne (tgt := 27) hx hb dX6_part_17 rfl (fun cq17 => ?_) (fun cq17 => ?_)
    · skip
      refine lv_aload_n hx hb dX6_part_27 rfl (lv_at hl 0 rfl) ?_
      refine x_get E hw fw_X6_29 0 rfl rfl dX6_part_28 ?_
      exact x_lret E hA rt hw dX6_part_31 (by rw [if_pos cq7]; simp [cq17]) (by simp [cq7])
    · skip
      refine lv_aload_n hx hb dX6_part_20 rfl (lv_at hl 0 rfl) ?_
      refine x_get E hw fw_X6_230 0 rfl rfl dX6_part_21 ?_
      refine lv_goto (tgt := 31) hx hb dX6_part_24 rfl ?_
      exact x_lret E hA rt hw dX6_part_31 (by rw [if_pos cq7]; simp [cq17]) (by simp [cq7])
  · skip
    have cq7 := bI_0.mp cq7
    refine lv_aload_n hx hb dX6_part_10 rfl (lv_at hl 0 rfl) ?_
    refine x_callV (is := [0, 1, 2, 3, 4, 5, 6, 7, 8]) (q0 := 0) (As := []) (rest := []) (st1 := [.int (-2)]) (ws' := mW G b nw rd asd img kpt txt sz abv blw (bds + 1) nos fls att bgn tkn wrd vlu sts bst) E (c_X6_bad l G b nw rd asd img kpt txt sz abv blw bds nos fls att bgn tkn wrd vlu sts bst) vw_X6_63 hw [0, 1, 2, 3, 4, 5, 6, 7, 8] rfl rfl rfl rfl rfl rfl rfl hl.1 rfl rfl (Nat.le_of_ble_eq_true rfl) ⟨Nat.le_of_ble_eq_true rfl, Nat.le_of_ble_eq_true rfl⟩ (Nat.zero_le _) (Nat.zero_le _) dX6_part_11 rfl rfl (fun H locs hw => ?_)
    refine lv_i2l (v := (-2 : Int32).toInt64) hx hb dX6_part_14 rfl ?_
    exact x_lret E hA rt hw dX6_part_15 (by simp [cq7]; try rfl) (by simp [cq7])
set_option maxHeartbeats 1000000 in
set_option maxRecDepth 100000 in
theorem c_X6_image (l : Launch) (G : GG) (b : Nat → Nat) (x : Int32) (nw : Nat → Int32) (rd : Nat → Int32) (asd : Nat → Int32) (img : Nat → Int32) (kpt : Nat → Int32) (txt : Nat → Int32) (sz : Int32) (abv : Int64) (blw : Int64) (bds : Int32) (nos : Int32) (fls : Int32) (att : Int32) (bgn : Int32) (tkn : Int32) (wrd : Int64) (vlu : Int32) (sts : Nat → Int32) (bst : Nat → Int32) : CT l G yX6_image cX6_image 2 (some .int) 1 25 [.ref (b 0), .int x] (mW G b nw rd asd img kpt txt sz abv blw bds nos fls att bgn tkn wrd vlu sts bst) (some (.int (if inI x 0 1 then 1 else -2))) (mW G b nw rd asd (if inI x 0 1 then va_cpy nw img 0 (255 * x.toNatClampNeg) 255 else img) (if inI x 0 1 then upd kpt x.toNatClampNeg (vp_nar .boolean 1) else kpt) txt sz abv blw (if inI x 0 1 then bds else bds + 1) nos fls att bgn tkn wrd vlu sts bst) := by
  refine CT.mk (own := RX6) (la := [(0, .ref (b 0)), (1, .int x)]) (by decide) rfl (Nat.le_of_ble_eq_true rfl) rfl ?_
  intro p e s m args below meth c A Q E hA hw rt ls hl
  have hx := E.1
  have hb := E.2.1
  refine lv_iload_n hx hb dX6_image_0 rfl (lv_at hl 1 rfl) ?_
  refine lv_i2l (v := x.toInt64) hx hb dX6_image_1 rfl ?_
  refine lv_lconst (v := 0) hx hb dX6_image_2 rfl ?_
  refine lv_lconst (v := 1) hx hb dX6_image_3 rfl ?_
  refine x_callS (is := []) (As := [.long x.toInt64, .long 0, .long 1]) (rest := []) (st1 := [.int (bI (inL x.toInt64 0 1))]) (ws' := mW G b nw rd asd img kpt txt sz abv blw bds nos fls att bgn tkn wrd vlu sts bst) E (c_X6_in l G x.toInt64 0 1) sw_X6_55 hw [] rfl rfl rfl rfl hl.1 rfl rfl (Nat.le_of_ble_eq_true rfl) ⟨Nat.le_of_ble_eq_true rfl, Nat.le_of_ble_eq_true rfl⟩ (Nat.zero_le _) (Nat.zero_le _) dX6_image_4 rfl rfl (fun H locs hw => ?_)
  refine x_topi (y := bI (inI x 0 1)) (congrArg bI (inL_I x 0 1 rfl rfl)) ?_
  refine lv_if_ne (tgt := 15) hx hb dX6_image_7 rfl (fun cq7 => ?_) (fun cq7 => ?_)
  · skip
    have cq7 := bI_n0.mp cq7
    obtain ⟨k, -, hk, ek⟩ := inI_nat (a := 0) (b := 1) (by omega) (by omega) rfl rfl cq7
    have exk : x.toNatClampNeg = k := by rw [ek, nI_clamp (by omega)]
    refine lv_aload_n hx hb dX6_image_15 rfl (lv_at hl 0 rfl) ?_
    refine x_get E hw fw_X6_7 0 rfl rfl dX6_image_16 ?_
    refine lv_iconst (v := 0) hx hb dX6_image_19 rfl ?_
    refine lv_aload_n hx hb dX6_image_20 rfl (lv_at hl 0 rfl) ?_
    refine x_get E hw fw_X6_19 0 rfl rfl dX6_image_21 ?_
    refine lv_sipush (v := 255) hx hb dX6_image_24 rfl ?_
    refine lv_iload_n hx hb dX6_image_27 rfl (lv_at hl 1 rfl) ?_
    refine lv_imul hx hb dX6_image_28 ?_
    refine lv_sipush (v := 255) hx hb dX6_image_29 rfl ?_
    refine x_callS (is := [1, 4]) (As := [.ref (b 1), .int 0, .ref (b 4), .int (255 * x), .int 255]) (rest := []) (st1 := []) (ws' := mW G b nw rd asd (va_cpy nw img 0 (255 * k) 255) kpt txt sz abv blw bds nos fls att bgn tkn wrd vlu sts bst) E (c_copies l G (b 1) (b 4) 0 0 (rfl) (255 * x) (255 * k) ((ix_mul (a := 255) (b := k) rfl ek)) 255 255 (rfl) nw img 255 510 (by omega) (by omega) (by omega) (by omega)) sw_X6_152 hw [1, 4] rfl rfl rfl rfl hl.1 rfl rfl (Nat.le_of_ble_eq_true rfl) ⟨Nat.le_of_ble_eq_true rfl, Nat.le_of_ble_eq_true rfl⟩ (Nat.zero_le _) (Nat.zero_le _) dX6_image_32 rfl rfl (fun H locs hw => ?_)
    refine lv_aload_n hx hb dX6_image_35 rfl (lv_at hl 0 rfl) ?_
    refine x_get E hw fw_X6_22 0 rfl rfl dX6_image_36 ?_
    refine lv_iload_n hx hb dX6_image_39 rfl (lv_at hl 1 rfl) ?_
    refine lv_iconst (v := 1) hx hb dX6_image_40 rfl ?_
    refine x_zast (ws' := mW G b nw rd asd (va_cpy nw img 0 (255 * k) 255) (upd kpt k (vp_nar .boolean 1)) txt sz abv blw bds nos fls att bgn tkn wrd vlu sts bst) E hw 5 rfl k (ek) (by omega) (by omega) dX6_image_41 rfl (fun H locs hw => ?_)
    refine lv_iconst (v := 1) hx hb dX6_image_42 rfl ?_
    exact x_iret E hA rt hw dX6_image_43 (by simp [cq7]) (by simp [cq7, exk])
  · skip
    have cq7 := bI_0.mp cq7
    refine lv_aload_n hx hb dX6_image_10 rfl (lv_at hl 0 rfl) ?_
    refine x_callV (is := [0, 1, 2, 3, 4, 5, 6, 7, 8]) (q0 := 0) (As := []) (rest := []) (st1 := [.int (-2)]) (ws' := mW G b nw rd asd img kpt txt sz abv blw (bds + 1) nos fls att bgn tkn wrd vlu sts bst) E (c_X6_bad l G b nw rd asd img kpt txt sz abv blw bds nos fls att bgn tkn wrd vlu sts bst) vw_X6_63 hw [0, 1, 2, 3, 4, 5, 6, 7, 8] rfl rfl rfl rfl rfl rfl rfl hl.1 rfl rfl (Nat.le_of_ble_eq_true rfl) ⟨Nat.le_of_ble_eq_true rfl, Nat.le_of_ble_eq_true rfl⟩ (Nat.zero_le _) (Nat.zero_le _) dX6_image_11 rfl rfl (fun H locs hw => ?_)
    exact x_iret E hA rt hw dX6_image_14 (by simp [cq7]) (by simp [cq7])
set_option maxHeartbeats 1000000 in
set_option maxRecDepth 100000 in
theorem c_X6_from (l : Launch) (G : GG) (b : Nat → Nat) (x : Int32) (nw : Nat → Int32) (rd : Nat → Int32) (asd : Nat → Int32) (img : Nat → Int32) (kpt : Nat → Int32) (txt : Nat → Int32) (sz : Int32) (abv : Int64) (blw : Int64) (bds : Int32) (nos : Int32) (fls : Int32) (att : Int32) (bgn : Int32) (tkn : Int32) (wrd : Int64) (vlu : Int32) (sts : Nat → Int32) (bst : Nat → Int32) : CT l G yX6_from cX6_from 2 (some .int) 1 25 [.ref (b 0), .int x] (mW G b nw rd asd img kpt txt sz abv blw bds nos fls att bgn tkn wrd vlu sts bst) (some (.int (if inI x 0 1 then (if kpt x.toNatClampNeg = 0 then -3 else 1) else -2))) (mW G b (if inI x 0 1 = true ∧ ¬ kpt x.toNatClampNeg = 0 then (fun j => img (255 * x.toNatClampNeg + j)) else nw) rd asd img kpt txt sz abv blw (if inI x 0 1 then bds else bds + 1) (if inI x 0 1 = true ∧ kpt x.toNatClampNeg = 0 then nos + 1 else nos) fls att bgn tkn wrd vlu sts bst) := by
  refine CT.mk (own := RX6) (la := [(0, .ref (b 0)), (1, .int x)]) (by decide) rfl (Nat.le_of_ble_eq_true rfl) rfl ?_
  intro p e s m args below meth c A Q E hA hw rt ls hl
  have hx := E.1
  have hb := E.2.1
  refine lv_iload_n hx hb dX6_from_0 rfl (lv_at hl 1 rfl) ?_
  refine lv_i2l (v := x.toInt64) hx hb dX6_from_1 rfl ?_
  refine lv_lconst (v := 0) hx hb dX6_from_2 rfl ?_
  refine lv_lconst (v := 1) hx hb dX6_from_3 rfl ?_
  refine x_callS (is := []) (As := [.long x.toInt64, .long 0, .long 1]) (rest := []) (st1 := [.int (bI (inL x.toInt64 0 1))]) (ws' := mW G b nw rd asd img kpt txt sz abv blw bds nos fls att bgn tkn wrd vlu sts bst) E (c_X6_in l G x.toInt64 0 1) sw_X6_55 hw [] rfl rfl rfl rfl hl.1 rfl rfl (Nat.le_of_ble_eq_true rfl) ⟨Nat.le_of_ble_eq_true rfl, Nat.le_of_ble_eq_true rfl⟩ (Nat.zero_le _) (Nat.zero_le _) dX6_from_4 rfl rfl (fun H locs hw => ?_)
  refine x_topi (y := bI (inI x 0 1)) (congrArg bI (inL_I x 0 1 rfl rfl)) ?_
  refine lv_if_ne (tgt := 15) hx hb dX6_from_7 rfl (fun cq7 => ?_) (fun cq7 => ?_)
  · skip
    have cq7 := bI_n0.mp cq7
    obtain ⟨k, -, hk, ek⟩ := inI_nat (a := 0) (b := 1) (by omega) (by omega) rfl rfl cq7
    have exk : x.toNatClampNeg = k := by rw [ek, nI_clamp (by omega)]
    refine lv_aload_n hx hb dX6_from_15 rfl (lv_at hl 0 rfl) ?_
    refine x_get E hw fw_X6_22 0 rfl rfl dX6_from_16 ?_
    refine lv_iload_n hx hb dX6_from_19 rfl (lv_at hl 1 rfl) ?_
    refine x_zald E hw 5 rfl k (ek) (by omega) (by omega) dX6_from_20 ?_
    refine lv_if_ne (tgt := 29) hx hb dX6_from_21 rfl (fun cq21 => ?_) (fun cq21 => ?_)
    · skip
      refine lv_aload_n hx hb dX6_from_29 rfl (lv_at hl 0 rfl) ?_
      refine x_get E hw fw_X6_19 0 rfl rfl dX6_from_30 ?_
      refine lv_sipush (v := 255) hx hb dX6_from_33 rfl ?_
      refine lv_iload_n hx hb dX6_from_36 rfl (lv_at hl 1 rfl) ?_
      refine lv_imul hx hb dX6_from_37 ?_
      refine lv_aload_n hx hb dX6_from_38 rfl (lv_at hl 0 rfl) ?_
      refine x_get E hw fw_X6_7 0 rfl rfl dX6_from_39 ?_
      refine lv_iconst (v := 0) hx hb dX6_from_42 rfl ?_
      refine lv_sipush (v := 255) hx hb dX6_from_43 rfl ?_
      refine x_callS (is := [4, 1]) (As := [.ref (b 4), .int (255 * x), .ref (b 1), .int 0, .int 255]) (rest := []) (st1 := []) (ws' := mW G b (va_cpy img nw (255 * k) 0 255) rd asd img kpt txt sz abv blw bds nos fls att bgn tkn wrd vlu sts bst) E (c_copies l G (b 4) (b 1) (255 * x) (255 * k) ((ix_mul (a := 255) (b := k) rfl ek)) 0 0 (rfl) 255 255 (rfl) img nw 510 255 (by omega) (by omega) (by omega) (by omega)) sw_X6_152 hw [4, 1] rfl rfl rfl rfl hl.1 rfl rfl (Nat.le_of_ble_eq_true rfl) ⟨Nat.le_of_ble_eq_true rfl, Nat.le_of_ble_eq_true rfl⟩ (Nat.zero_le _) (Nat.zero_le _) dX6_from_46 rfl rfl (fun H locs hw => ?_)
      have hw := Wd.arr (ws' := mW G b (fun j => img (255 * k + j)) rd asd img kpt txt sz abv blw bds nos fls att bgn tkn wrd vlu sts bst) (g := fun j => img (255 * k + j)) hw 1 rfl (fun j hj => by rw [pk_cpy_in (Nat.zero_le j) (by omega)]; simp) rfl
      refine lv_iconst (v := 1) hx hb dX6_from_49 rfl ?_
      exact x_iret E hA rt hw dX6_from_50 (by simp [cq7, cq21, exk]) (by simp [cq7, cq21, exk])
    · skip
      refine lv_aload_n hx hb dX6_from_24 rfl (lv_at hl 0 rfl) ?_
      refine x_callV (is := [0, 1, 2, 3, 4, 5, 6, 7, 8]) (q0 := 0) (As := []) (rest := []) (st1 := [.int (-3)]) (ws' := mW G b nw rd asd img kpt txt sz abv blw bds (nos + 1) fls att bgn tkn wrd vlu sts bst) E (c_X6_no l G b nw rd asd img kpt txt sz abv blw bds nos fls att bgn tkn wrd vlu sts bst) vw_X6_77 hw [0, 1, 2, 3, 4, 5, 6, 7, 8] rfl rfl rfl rfl rfl rfl rfl hl.1 rfl rfl (Nat.le_of_ble_eq_true rfl) ⟨Nat.le_of_ble_eq_true rfl, Nat.le_of_ble_eq_true rfl⟩ (Nat.zero_le _) (Nat.zero_le _) dX6_from_25 rfl rfl (fun H locs hw => ?_)
      exact x_iret E hA rt hw dX6_from_28 (by simp [cq7, cq21, exk]) (by simp [cq7, cq21, exk])
  · skip
    have cq7 := bI_0.mp cq7
    refine lv_aload_n hx hb dX6_from_10 rfl (lv_at hl 0 rfl) ?_
    refine x_callV (is := [0, 1, 2, 3, 4, 5, 6, 7, 8]) (q0 := 0) (As := []) (rest := []) (st1 := [.int (-2)]) (ws' := mW G b nw rd asd img kpt txt sz abv blw (bds + 1) nos fls att bgn tkn wrd vlu sts bst) E (c_X6_bad l G b nw rd asd img kpt txt sz abv blw bds nos fls att bgn tkn wrd vlu sts bst) vw_X6_63 hw [0, 1, 2, 3, 4, 5, 6, 7, 8] rfl rfl rfl rfl rfl rfl rfl hl.1 rfl rfl (Nat.le_of_ble_eq_true rfl) ⟨Nat.le_of_ble_eq_true rfl, Nat.le_of_ble_eq_true rfl⟩ (Nat.zero_le _) (Nat.zero_le _) dX6_from_11 rfl rfl (fun H locs hw => ?_)
    exact x_iret E hA rt hw dX6_from_14 (by simp [cq7]) (by simp [cq7])
set_option maxHeartbeats 1000000 in
set_option maxRecDepth 100000 in
theorem c_X6_status (l : Launch) (G : GG) (b : Nat → Nat) (x : Int32) (nw : Nat → Int32) (rd : Nat → Int32) (asd : Nat → Int32) (img : Nat → Int32) (kpt : Nat → Int32) (txt : Nat → Int32) (sz : Int32) (abv : Int64) (blw : Int64) (bds : Int32) (nos : Int32) (fls : Int32) (att : Int32) (bgn : Int32) (tkn : Int32) (wrd : Int64) (vlu : Int32) (sts : Nat → Int32) (bst : Nat → Int32) : CT l G yX6_status cX6_status 2 (some .int) 0 0 [.ref (b 0), .int x] (mW G b nw rd asd img kpt txt sz abv blw bds nos fls att bgn tkn wrd vlu sts bst) (some (.int (if x = 0 then bds else if x = 1 then nos else if x = 2 then fls else -1))) (mW G b nw rd asd img kpt txt sz abv blw (if x = 0 ∨ x = 1 ∨ x = 2 then bds else bds + 1) nos fls att bgn tkn wrd vlu sts bst) := by
  refine CT.mk (own := RX6) (la := [(0, .ref (b 0)), (1, .int x)]) (by decide) rfl (Nat.le_of_ble_eq_true rfl) rfl ?_
  intro p e s m args below meth c A Q E hA hw rt ls hl
  have hx := E.1
  have hb := E.2.1
  refine lv_iload_n hx hb dX6_status_0 rfl (lv_at hl 1 rfl) ?_
  by_cases cq1_0 : x = (0 : Int32)
  · skip
    refine lv_tableIn (off := 27) (tgt := 28) hx hb dX6_status_1 (by rw [cq1_0]; decide) (by rw [cq1_0]; decide) (by rw [cq1_0]; rfl) rfl ?_
    refine lv_aload_n hx hb dX6_status_28 rfl (lv_at hl 0 rfl) ?_
    refine x_get E hw fw_X6_43 0 rfl rfl dX6_status_29 ?_
    exact x_iret E hA rt hw dX6_status_32 (by simp [cq1_0]) (by simp [cq1_0])
  by_cases cq1_1 : x = (1 : Int32)
  · skip
    refine lv_tableIn (off := 32) (tgt := 33) hx hb dX6_status_1 (by rw [cq1_1]; decide) (by rw [cq1_1]; decide) (by rw [cq1_1]; rfl) rfl ?_
    refine lv_aload_n hx hb dX6_status_33 rfl (lv_at hl 0 rfl) ?_
    refine x_get E hw fw_X6_47 0 rfl rfl dX6_status_34 ?_
    exact x_iret E hA rt hw dX6_status_37 (by simp [cq1_0, cq1_1]) (by simp [cq1_0, cq1_1])
  by_cases cq1_2 : x = (2 : Int32)
  · skip
    refine lv_tableIn (off := 37) (tgt := 38) hx hb dX6_status_1 (by rw [cq1_2]; decide) (by rw [cq1_2]; decide) (by rw [cq1_2]; rfl) rfl ?_
    refine lv_aload_n hx hb dX6_status_38 rfl (lv_at hl 0 rfl) ?_
    refine x_get E hw fw_X6_50 0 rfl rfl dX6_status_39 ?_
    exact x_iret E hA rt hw dX6_status_42 (by simp [cq1_0, cq1_1, cq1_2]) (by simp [cq1_0, cq1_1, cq1_2])
  refine lv_tableOut (tgt := 43) hx hb dX6_status_1 (by have g0 := lv_neT (a := 0) cq1_0 rfl; have g1 := lv_neT (a := 1) cq1_1 rfl; have g2 := lv_neT (a := 2) cq1_2 rfl; omega) rfl ?_
  refine lv_aload_n hx hb dX6_status_43 rfl (lv_at hl 0 rfl) ?_
  refine lv_dup hx hb dX6_status_44 rfl ?_
  refine x_get E hw fw_X6_43 0 rfl rfl dX6_status_45 ?_
  refine lv_iconst (v := 1) hx hb dX6_status_48 rfl ?_
  refine lv_iadd hx hb dX6_status_49 ?_
  refine x_put (ws' := mW G b nw rd asd img kpt txt sz abv blw (bds + 1) nos fls att bgn tkn wrd vlu sts bst) (ty := .int) E hw fw_X6_43 0 rfl rfl rfl (by decide +kernel) rfl rfl (Nat.le_of_ble_eq_true rfl) dX6_status_50 rfl (fun H locs hw => ?_)
  refine lv_iconst (v := -1) hx hb dX6_status_53 rfl ?_
  exact x_iret E hA rt hw dX6_status_54 (by simp [cq1_0, cq1_1, cq1_2]) (by simp [cq1_0, cq1_1, cq1_2])
set_option maxHeartbeats 1000000 in
set_option maxRecDepth 100000 in
theorem c_X6_counted (l : Launch) (G : GG) (b : Nat → Nat) (x : Int32) (nw : Nat → Int32) (rd : Nat → Int32) (asd : Nat → Int32) (img : Nat → Int32) (kpt : Nat → Int32) (txt : Nat → Int32) (sz : Int32) (abv : Int64) (blw : Int64) (bds : Int32) (nos : Int32) (fls : Int32) (att : Int32) (bgn : Int32) (tkn : Int32) (wrd : Int64) (vlu : Int32) (sts : Nat → Int32) (bst : Nat → Int32) : CT l G yX6_counted cX6_counted 2 (some .int) 0 0 [.ref (b 0), .int x] (mW G b nw rd asd img kpt txt sz abv blw bds nos fls att bgn tkn wrd vlu sts bst) (some (.int (cnM nw sz x))) (mW G b nw rd asd img kpt txt sz abv blw bds nos fls att bgn tkn wrd vlu sts bst) := by
  refine CT.mk (own := RX6) (la := [(0, .ref (b 0)), (1, .int x)]) (by decide) rfl (Nat.le_of_ble_eq_true rfl) rfl ?_
  intro p e s m args below meth c A Q E hA hw rt ls hl
  have hx := E.1
  have hb := E.2.1
  refine lv_iload_n hx hb dX6_counted_0 rfl (lv_at hl 1 rfl) ?_
  by_cases cq1_0 : x = (0 : Int32)
  · skip
    refine lv_tableIn (off := 43) (tgt := 44) hx hb dX6_counted_1 (by rw [cq1_0]; decide) (by rw [cq1_0]; decide) (by rw [cq1_0]; rfl) rfl ?_
    refine lv_aload_n hx hb dX6_counted_44 rfl (lv_at hl 0 rfl) ?_
    refine x_get E hw fw_X6_7 0 rfl rfl dX6_counted_45 ?_
    refine lv_bipush (v := 22) hx hb dX6_counted_48 rfl ?_
    refine x_iald E hw 1 rfl 22 (rfl) (by omega) (by omega) dX6_counted_50 ?_
    exact x_iret E hA rt hw dX6_counted_51 (by simp [cnM, cq1_0]) rfl
  by_cases cq1_1 : x = (1 : Int32)
  · skip
    refine lv_tableIn (off := 51) (tgt := 52) hx hb dX6_counted_1 (by rw [cq1_1]; decide) (by rw [cq1_1]; decide) (by rw [cq1_1]; rfl) rfl ?_
    refine lv_aload_n hx hb dX6_counted_52 rfl (lv_at hl 0 rfl) ?_
    refine x_get E hw fw_X6_7 0 rfl rfl dX6_counted_53 ?_
    refine lv_bipush (v := 21) hx hb dX6_counted_56 rfl ?_
    refine x_iald E hw 1 rfl 21 (rfl) (by omega) (by omega) dX6_counted_58 ?_
    exact x_iret E hA rt hw dX6_counted_59 (by simp [cnM, cq1_0, cq1_1]) rfl
  by_cases cq1_2 : x = (2 : Int32)
  · skip
    refine lv_tableIn (off := 59) (tgt := 60) hx hb dX6_counted_1 (by rw [cq1_2]; decide) (by rw [cq1_2]; decide) (by rw [cq1_2]; rfl) rfl ?_
    refine lv_aload_n hx hb dX6_counted_60 rfl (lv_at hl 0 rfl) ?_
    refine x_get E hw fw_X6_7 0 rfl rfl dX6_counted_61 ?_
    refine lv_bipush (v := 18) hx hb dX6_counted_64 rfl ?_
    refine x_iald E hw 1 rfl 18 (rfl) (by omega) (by omega) dX6_counted_66 ?_
    exact x_iret E hA rt hw dX6_counted_67 (by simp [cnM, cq1_0, cq1_1, cq1_2]) rfl
  by_cases cq1_3 : x = (3 : Int32)
  · skip
    refine lv_tableIn (off := 67) (tgt := 68) hx hb dX6_counted_1 (by rw [cq1_3]; decide) (by rw [cq1_3]; decide) (by rw [cq1_3]; rfl) rfl ?_
    refine lv_aload_n hx hb dX6_counted_68 rfl (lv_at hl 0 rfl) ?_
    refine x_get E hw fw_X6_7 0 rfl rfl dX6_counted_69 ?_
    refine lv_bipush (v := 19) hx hb dX6_counted_72 rfl ?_
    refine x_iald E hw 1 rfl 19 (rfl) (by omega) (by omega) dX6_counted_74 ?_
    exact x_iret E hA rt hw dX6_counted_75 (by simp [cnM, cq1_0, cq1_1, cq1_2, cq1_3]) rfl
  by_cases cq1_4 : x = (4 : Int32)
  · skip
    refine lv_tableIn (off := 75) (tgt := 76) hx hb dX6_counted_1 (by rw [cq1_4]; decide) (by rw [cq1_4]; decide) (by rw [cq1_4]; rfl) rfl ?_
    refine lv_aload_n hx hb dX6_counted_76 rfl (lv_at hl 0 rfl) ?_
    refine x_get E hw fw_X6_7 0 rfl rfl dX6_counted_77 ?_
    refine lv_bipush (v := 20) hx hb dX6_counted_80 rfl ?_
    refine x_iald E hw 1 rfl 20 (rfl) (by omega) (by omega) dX6_counted_82 ?_
    exact x_iret E hA rt hw dX6_counted_83 (by simp [cnM, cq1_0, cq1_1, cq1_2, cq1_3, cq1_4]) rfl
  by_cases cq1_5 : x = (5 : Int32)
  · skip
    refine lv_tableIn (off := 83) (tgt := 84) hx hb dX6_counted_1 (by rw [cq1_5]; decide) (by rw [cq1_5]; decide) (by rw [cq1_5]; rfl) rfl ?_
    refine lv_aload_n hx hb dX6_counted_84 rfl (lv_at hl 0 rfl) ?_
    refine x_get E hw fw_X6_7 0 rfl rfl dX6_counted_85 ?_
    refine lv_bipush (v := 35) hx hb dX6_counted_88 rfl ?_
    refine x_iald E hw 1 rfl 35 (rfl) (by omega) (by omega) dX6_counted_90 ?_
    exact x_iret E hA rt hw dX6_counted_91 (by simp [cnM, cq1_0, cq1_1, cq1_2, cq1_3, cq1_4, cq1_5]) rfl
  by_cases cq1_6 : x = (6 : Int32)
  · skip
    refine lv_tableIn (off := 91) (tgt := 92) hx hb dX6_counted_1 (by rw [cq1_6]; decide) (by rw [cq1_6]; decide) (by rw [cq1_6]; rfl) rfl ?_
    refine lv_aload_n hx hb dX6_counted_92 rfl (lv_at hl 0 rfl) ?_
    refine x_get E hw fw_X6_7 0 rfl rfl dX6_counted_93 ?_
    refine lv_bipush (v := 78) hx hb dX6_counted_96 rfl ?_
    refine x_iald E hw 1 rfl 78 (rfl) (by omega) (by omega) dX6_counted_98 ?_
    exact x_iret E hA rt hw dX6_counted_99 (by simp [cnM, cq1_0, cq1_1, cq1_2, cq1_3, cq1_4, cq1_5, cq1_6]) rfl
  refine lv_tableOut (tgt := 100) hx hb dX6_counted_1 (by have g0 := lv_neT (a := 0) cq1_0 rfl; have g1 := lv_neT (a := 1) cq1_1 rfl; have g2 := lv_neT (a := 2) cq1_2 rfl; have g3 := lv_neT (a := 3) cq1_3 rfl; have g4 := lv_neT (a := 4) cq1_4 rfl; have g5 := lv_neT (a := 5) cq1_5 rfl; have g6 := lv_neT (a := 6) cq1_6 rfl; omega) rfl ?_
  refine lv_aload_n hx hb dX6_counted_100 rfl (lv_at hl 0 rfl) ?_
  refine x_get E hw fw_X6_89 0 rfl rfl dX6_counted_101 ?_
  exact x_iret E hA rt hw dX6_counted_104 (by simp [cnM, cq1_0, cq1_1, cq1_2, cq1_3, cq1_4, cq1_5, cq1_6]) rfl
set_option maxHeartbeats 1000000 in
set_option maxRecDepth 100000 in
theorem c_X6_count (l : Launch) (G : GG) (b : Nat → Nat) (x : Int32) (nw : Nat → Int32) (rd : Nat → Int32) (asd : Nat → Int32) (img : Nat → Int32) (kpt : Nat → Int32) (txt : Nat → Int32) (sz : Int32) (abv : Int64) (blw : Int64) (bds : Int32) (nos : Int32) (fls : Int32) (att : Int32) (bgn : Int32) (tkn : Int32) (wrd : Int64) (vlu : Int32) (sts : Nat → Int32) (bst : Nat → Int32) : CT l G yX6_count cX6_count 2 (some .int) 1 25 [.ref (b 0), .int x] (mW G b nw rd asd img kpt txt sz abv blw bds nos fls att bgn tkn wrd vlu sts bst) (some (.int (if inI x 0 7 then cnM nw sz x else -2))) (mW G b nw rd asd img kpt txt sz abv blw (if inI x 0 7 then bds else bds + 1) nos fls att bgn tkn wrd vlu sts bst) := by
  refine CT.mk (own := RX6) (la := [(0, .ref (b 0)), (1, .int x)]) (by decide) rfl (Nat.le_of_ble_eq_true rfl) rfl ?_
  intro p e s m args below meth c A Q E hA hw rt ls hl
  have hx := E.1
  have hb := E.2.1
  refine lv_iload_n hx hb dX6_count_0 rfl (lv_at hl 1 rfl) ?_
  refine lv_i2l (v := x.toInt64) hx hb dX6_count_1 rfl ?_
  refine lv_lconst (v := 0) hx hb dX6_count_2 rfl ?_
  refine lv_ldc2 hx hb E.2.2.2.1 (E.2.2.2.2.2.2.w kc_X6_53) dX6_count_3 ?_
  refine x_callS (is := []) (As := [.long x.toInt64, .long 0, .long 7]) (rest := []) (st1 := [.int (bI (inL x.toInt64 0 7))]) (ws' := mW G b nw rd asd img kpt txt sz abv blw bds nos fls att bgn tkn wrd vlu sts bst) E (c_X6_in l G x.toInt64 0 7) sw_X6_55 hw [] rfl rfl rfl rfl hl.1 rfl rfl (Nat.le_of_ble_eq_true rfl) ⟨Nat.le_of_ble_eq_true rfl, Nat.le_of_ble_eq_true rfl⟩ (Nat.zero_le _) (Nat.zero_le _) dX6_count_6 rfl rfl (fun H locs hw => ?_)
  refine x_topi (y := bI (inI x 0 7)) (congrArg bI (inL_I x 0 7 rfl rfl)) ?_
  refine lv_if_eq (tgt := 20) hx hb dX6_count_9 rfl (fun cq9 => ?_) (fun cq9 => ?_)
  · skip
    have cq9 := bI_0.mp cq9
    refine lv_aload_n hx hb dX6_count_20 rfl (lv_at hl 0 rfl) ?_
    refine x_callV (is := [0, 1, 2, 3, 4, 5, 6, 7, 8]) (q0 := 0) (As := []) (rest := []) (st1 := [.int (-2)]) (ws' := mW G b nw rd asd img kpt txt sz abv blw (bds + 1) nos fls att bgn tkn wrd vlu sts bst) E (c_X6_bad l G b nw rd asd img kpt txt sz abv blw bds nos fls att bgn tkn wrd vlu sts bst) vw_X6_63 hw [0, 1, 2, 3, 4, 5, 6, 7, 8] rfl rfl rfl rfl rfl rfl rfl hl.1 rfl rfl (Nat.le_of_ble_eq_true rfl) ⟨Nat.le_of_ble_eq_true rfl, Nat.le_of_ble_eq_true rfl⟩ (Nat.zero_le _) (Nat.zero_le _) dX6_count_21 rfl rfl (fun H locs hw => ?_)
    exact x_iret E hA rt hw dX6_count_24 (by simp [cq9]) (by simp [cq9])
  · skip
    have cq9 := bI_n0.mp cq9
    refine lv_aload_n hx hb dX6_count_12 rfl (lv_at hl 0 rfl) ?_
    refine lv_iload_n hx hb dX6_count_13 rfl (lv_at hl 1 rfl) ?_
    refine x_callV (is := [0, 1, 2, 3, 4, 5, 6, 7, 8]) (q0 := 0) (As := [.int x]) (rest := []) (st1 := [.int (cnM nw sz x)]) (ws' := mW G b nw rd asd img kpt txt sz abv blw bds nos fls att bgn tkn wrd vlu sts bst) E (c_X6_counted l G b x nw rd asd img kpt txt sz abv blw bds nos fls att bgn tkn wrd vlu sts bst) vw_X6_245 hw [0, 1, 2, 3, 4, 5, 6, 7, 8] rfl rfl rfl rfl rfl rfl rfl hl.1 rfl rfl (Nat.le_of_ble_eq_true rfl) ⟨Nat.le_of_ble_eq_true rfl, Nat.le_of_ble_eq_true rfl⟩ (Nat.zero_le _) (Nat.zero_le _) dX6_count_14 rfl rfl (fun H locs hw => ?_)
    refine lv_goto (tgt := 24) hx hb dX6_count_17 rfl ?_
    exact x_iret E hA rt hw dX6_count_24 (by simp [cq9]) (by simp [cq9])
set_option maxHeartbeats 1000000 in
set_option maxRecDepth 100000 in
theorem c_X6_digest (l : Launch) (G : GG) (b : Nat → Nat) (nw : Nat → Int32) (rd : Nat → Int32) (asd : Nat → Int32) (img : Nat → Int32) (kpt : Nat → Int32) (txt : Nat → Int32) (sz : Int32) (abv : Int64) (blw : Int64) (bds : Int32) (nos : Int32) (fls : Int32) (att : Int32) (bgn : Int32) (tkn : Int32) (wrd : Int64) (vlu : Int32) (sts : Nat → Int32) (bst : Nat → Int32) (n : Nat) (z : Nat) (hc : nw 22 = nI n) (hn : n ≤ 6) (hz35 : nw 35 = nI z) (hz6 : z ≤ 6) : CT l G yX6_digest cX6_digest 4 (some .long) 1 21 [.ref (b 0)] (mW G b nw rd asd img kpt txt sz abv blw bds nos fls att bgn tkn wrd vlu sts bst) (some (.long (31 * (31 * dg3 nw (dg2 nw (dg1 nw sz 8) n) (7 * z) + abv) + blw))) (mW G b nw rd asd img kpt txt sz abv blw bds nos fls att bgn tkn wrd vlu sts bst) := by
  refine CT.mk (own := RX6) (la := [(0, .ref (b 0))]) (by decide) rfl (Nat.le_of_ble_eq_true rfl) rfl ?_
  intro p e s m args below meth c A Q E hA hw rt ls hl
  have hx := E.1
  have hb := E.2.1
  refine lv_ldc2 hx hb E.2.2.2.1 (E.2.2.2.2.2.2.w kc_X6_248) dX6_digest_0 ?_
  refine lv_lstore_n (lv' := [(1, .long 1429), (0, .ref (b 0))]) hx hb dX6_digest_3 rfl hl (by decide) rfl (fun ls hl => ?_)
  refine lv_iconst (v := 0) hx hb dX6_digest_4 rfl ?_
  refine lv_istore_n (lv' := [(3, .int 0), (1, .long 1429), (0, .ref (b 0))]) hx hb dX6_digest_5 rfl hl (by decide) rfl (fun ls hl => ?_)
  have lp6 : ∀ (fuel : Nat), ∀ (k : Nat) (h_ : Int64) (hk : k ≤ 8) (hh : h_ = dg1 nw sz k), (8 - k) < fuel → ∀ (H : Heap) (locs : List Loc) (ls : Array Slot), Wd G A s H locs (mW G b nw rd asd img kpt txt sz abv blw bds nos fls att bgn tkn wrd vlu sts bst) → lv_has ls 4 [(0, .ref (b 0)), (1, .long h_), (3, .int (nI k))] → W p l e (rmx 1 21) s m args below meth c H locs 0 0 Q (F0 m 6 ls []) := by
    intro fuel
    induction fuel with
    | zero => intro k h_ hk hh hfu; exact absurd hfu (Nat.not_lt_zero _)
    | succ fuel ih6 =>
      intro k h_ hk hh hfu H locs ls hw hl
      refine lv_iload_n hx hb dX6_digest_6 rfl (lv_at hl 2 rfl) ?_
      refine lv_bipush (v := 8) hx hb dX6_digest_7 rfl ?_
      refine lv_icmp_ge (tgt := 31) hx hb dX6_digest_9 rfl (fun cq9 => ?_) (fun cq9 => ?_)
      · skip
        have cq9 : 8 ≤ k := (cv_le (a := 8) (b := k) rfl rfl (by omega) (by omega)).mp cq9
        refine lv_iconst (v := 0) hx hb dX6_digest_31 rfl ?_
        refine lv_istore_n (lv' := [(3, .int 0), (0, .ref (b 0)), (1, .long h_)]) hx hb dX6_digest_32 rfl hl (by decide) rfl (fun ls hl => ?_)
        have lp33 : ∀ (fuel : Nat), ∀ (i : Nat) (h2 : Int64) (hii : i ≤ n) (hh2 : h2 = dg2 nw (dg1 nw sz 8) i), (n - i) < fuel → ∀ (H : Heap) (locs : List Loc) (ls : Array Slot), Wd G A s H locs (mW G b nw rd asd img kpt txt sz abv blw bds nos fls att bgn tkn wrd vlu sts bst) → lv_has ls 4 [(0, .ref (b 0)), (1, .long h2), (3, .int (nI i))] → W p l e (rmx 1 21) s m args below meth c H locs 0 0 Q (F0 m 33 ls []) := by
          intro fuel
          induction fuel with
          | zero => intro i h2 hii hh2 hfu; exact absurd hfu (Nat.not_lt_zero _)
          | succ fuel ih33 =>
            intro i h2 hii hh2 hfu H locs ls hw hl
            refine lv_iload_n hx hb dX6_digest_33 rfl (lv_at hl 2 rfl) ?_
            refine lv_aload_n hx hb dX6_digest_34 rfl (lv_at hl 0 rfl) ?_
            refine x_get E hw fw_X6_7 0 rfl rfl dX6_digest_35 ?_
            refine lv_bipush (v := 22) hx hb dX6_digest_38 rfl ?_
            refine x_iald E hw 1 rfl 22 (rfl) (by omega) (by omega) dX6_digest_40 ?_
            refine lv_icmp_ge (tgt := 134) hx hb dX6_digest_41 rfl (fun cq41 => ?_) (fun cq41 => ?_)
            · skip
              have cq41 : n ≤ i := (cv_le (a := n) (b := i) hc rfl (by omega) (by omega)).mp cq41
              refine lv_iconst (v := 0) hx hb dX6_digest_134 rfl ?_
              refine lv_istore_n (lv' := [(3, .int 0), (0, .ref (b 0)), (1, .long h2)]) hx hb dX6_digest_135 rfl hl (by decide) rfl (fun ls hl => ?_)
              have lp136 : ∀ (fuel : Nat), ∀ (j : Nat) (h3 : Int64) (hj : j ≤ 7 * z) (hh3 : h3 = dg3 nw (dg2 nw (dg1 nw sz 8) n) j), (7 * z - j) < fuel → ∀ (H : Heap) (locs : List Loc) (ls : Array Slot), Wd G A s H locs (mW G b nw rd asd img kpt txt sz abv blw bds nos fls att bgn tkn wrd vlu sts bst) → lv_has ls 4 [(0, .ref (b 0)), (1, .long h3), (3, .int (nI j))] → W p l e (rmx 1 21) s m args below meth c H locs 0 0 Q (F0 m 136 ls []) := by
                intro fuel
                induction fuel with
                | zero => intro j h3 hj hh3 hfu; exact absurd hfu (Nat.not_lt_zero _)
                | succ fuel ih136 =>
                  intro j h3 hj hh3 hfu H locs ls hw hl
                  refine lv_iload_n hx hb dX6_digest_136 rfl (lv_at hl 2 rfl) ?_
                  refine lv_bipush (v := 7) hx hb dX6_digest_137 rfl ?_
                  refine lv_aload_n hx hb dX6_digest_139 rfl (lv_at hl 0 rfl) ?_
                  refine x_get E hw fw_X6_7 0 rfl rfl dX6_digest_140 ?_
                  refine lv_bipush (v := 35) hx hb dX6_digest_143 rfl ?_
                  refine x_iald E hw 1 rfl 35 (rfl) (by omega) (by omega) dX6_digest_145 ?_
                  refine lv_imul hx hb dX6_digest_146 ?_
                  refine lv_icmp_ge (tgt := 173) hx hb dX6_digest_147 rfl (fun cq147 => ?_) (fun cq147 => ?_)
                  · skip
                    have cq147 : 7 * z ≤ j := (cv_le (a := 7 * z) (b := j) (ix_mul (a := 7) (b := z) rfl hz35) rfl (by omega) (by omega)).mp cq147
                    refine lv_ldc2 hx hb E.2.2.2.1 (E.2.2.2.2.2.2.w kc_X6_243) dX6_digest_173 ?_
                    refine lv_ldc2 hx hb E.2.2.2.1 (E.2.2.2.2.2.2.w kc_X6_243) dX6_digest_176 ?_
                    refine lv_lload_n hx hb dX6_digest_179 rfl (lv_at hl 1 rfl) ?_
                    refine lv_lmul hx hb dX6_digest_180 ?_
                    refine lv_aload_n hx hb dX6_digest_181 rfl (lv_at hl 0 rfl) ?_
                    refine x_get E hw fw_X6_230 0 rfl rfl dX6_digest_182 ?_
                    refine lv_ladd hx hb dX6_digest_185 ?_
                    refine lv_lmul hx hb dX6_digest_186 ?_
                    refine lv_aload_n hx hb dX6_digest_187 rfl (lv_at hl 0 rfl) ?_
                    refine x_get E hw fw_X6_29 0 rfl rfl dX6_digest_188 ?_
                    refine lv_ladd hx hb dX6_digest_191 ?_
                    exact x_lret E hA rt hw dX6_digest_192 (by rw [hh3, show j = 7 * z by omega]) rfl
                  · skip
                    have cq147 : ¬ 7 * z ≤ j := fun h => cq147 ((cv_le (a := 7 * z) (b := j) (ix_mul (a := 7) (b := z) rfl hz35) rfl (by omega) (by omega)).mpr h)
                    refine lv_ldc2 hx hb E.2.2.2.1 (E.2.2.2.2.2.2.w kc_X6_243) dX6_digest_150 ?_
                    refine lv_lload_n hx hb dX6_digest_153 rfl (lv_at hl 1 rfl) ?_
                    refine lv_lmul hx hb dX6_digest_154 ?_
                    refine lv_aload_n hx hb dX6_digest_155 rfl (lv_at hl 0 rfl) ?_
                    refine x_get E hw fw_X6_7 0 rfl rfl dX6_digest_156 ?_
                    refine lv_bipush (v := 36) hx hb dX6_digest_159 rfl ?_
                    refine lv_iload_n hx hb dX6_digest_161 rfl (lv_at hl 2 rfl) ?_
                    refine lv_iadd hx hb dX6_digest_162 ?_
                    refine x_iald E hw 1 rfl (36 + j) ((ix_add (a := 36) (b := j) rfl rfl)) (by omega) (by omega) dX6_digest_163 ?_
                    refine lv_i2l (v := (nw (36 + j)).toInt64) hx hb dX6_digest_164 rfl ?_
                    refine lv_ladd hx hb dX6_digest_165 ?_
                    refine lv_lstore_n (lv' := [(1, .long ((31 * h3) + ((nw (36 + j)).toInt64))), (0, .ref (b 0)), (3, .int (nI j))]) hx hb dX6_digest_166 rfl hl (by decide) rfl (fun ls hl => ?_)
                    refine lv_iinc (v := nI (j + 1)) (lv' := [(3, .int (nI (j + 1))), (1, .long ((31 * h3) + ((nw (36 + j)).toInt64))), (0, .ref (b 0))]) hx hb dX6_digest_167 hl (k := 2) rfl (nI_add _ 1) (by decide) rfl (fun ls hl => ?_)
                    refine lv_goto (tgt := 136) hx hb dX6_digest_170 rfl ?_
                    exact ih136 (j + 1) ((31 * h3) + ((nw (36 + j)).toInt64)) (by omega) (by rw [hh3]; rfl) (by omega) _ _ _ hw (lv_sub hl [2, 1, 0] rfl)
              exact lp136 (7 * z - 0 + 1) 0 h2 (by omega) (by rw [hh2, show i = n by omega]; rfl) (by omega) _ _ _ hw (lv_sub hl [1, 2, 0] rfl)
            · skip
              have cq41 : ¬ n ≤ i := fun h => cq41 ((cv_le (a := n) (b := i) hc rfl (by omega) (by omega)).mpr h)
              refine lv_ldc2 hx hb E.2.2.2.1 (E.2.2.2.2.2.2.w kc_X6_243) dX6_digest_44 ?_
              refine lv_lload_n hx hb dX6_digest_47 rfl (lv_at hl 1 rfl) ?_
              refine lv_lmul hx hb dX6_digest_48 ?_
              refine lv_aload_n hx hb dX6_digest_49 rfl (lv_at hl 0 rfl) ?_
              refine x_get E hw fw_X6_7 0 rfl rfl dX6_digest_50 ?_
              refine lv_bipush (v := 23) hx hb dX6_digest_53 rfl ?_
              refine lv_iload_n hx hb dX6_digest_55 rfl (lv_at hl 2 rfl) ?_
              refine lv_iadd hx hb dX6_digest_56 ?_
              refine x_iald E hw 1 rfl (23 + i) ((ix_add (a := 23) (b := i) rfl rfl)) (by omega) (by omega) dX6_digest_57 ?_
              refine lv_i2l (v := (nw (23 + i)).toInt64) hx hb dX6_digest_58 rfl ?_
              refine lv_ladd hx hb dX6_digest_59 ?_
              refine lv_lstore_n (lv' := [(1, .long ((31 * h2) + ((nw (23 + i)).toInt64))), (0, .ref (b 0)), (3, .int (nI i))]) hx hb dX6_digest_60 rfl hl (by decide) rfl (fun ls hl => ?_)
              refine lv_ldc2 hx hb E.2.2.2.1 (E.2.2.2.2.2.2.w kc_X6_243) dX6_digest_61 ?_
              refine lv_lload_n hx hb dX6_digest_64 rfl (lv_at hl 0 rfl) ?_
              refine lv_lmul hx hb dX6_digest_65 ?_
              refine lv_aload_n hx hb dX6_digest_66 rfl (lv_at hl 1 rfl) ?_
              refine x_get E hw fw_X6_7 0 rfl rfl dX6_digest_67 ?_
              refine lv_iconst (v := 0) hx hb dX6_digest_70 rfl ?_
              refine lv_iload_n hx hb dX6_digest_71 rfl (lv_at hl 2 rfl) ?_
              refine lv_iadd hx hb dX6_digest_72 ?_
              refine x_iald E hw 1 rfl i ((ix_0add (b := i) rfl)) (by omega) (by omega) dX6_digest_73 ?_
              refine lv_i2l (v := (nw i).toInt64) hx hb dX6_digest_74 rfl ?_
              refine lv_ladd hx hb dX6_digest_75 ?_
              refine lv_lstore_n (lv' := [(1, .long ((31 * ((31 * h2) + ((nw (23 + i)).toInt64))) + ((nw i).toInt64))), (0, .ref (b 0)), (3, .int (nI i))]) hx hb dX6_digest_76 rfl hl (by decide) rfl (fun ls hl => ?_)
              refine lv_ldc2 hx hb E.2.2.2.1 (E.2.2.2.2.2.2.w kc_X6_243) dX6_digest_77 ?_
              refine lv_lload_n hx hb dX6_digest_80 rfl (lv_at hl 0 rfl) ?_
              refine lv_lmul hx hb dX6_digest_81 ?_
              refine lv_aload_n hx hb dX6_digest_82 rfl (lv_at hl 1 rfl) ?_
              refine x_get E hw fw_X6_7 0 rfl rfl dX6_digest_83 ?_
              refine lv_bipush (v := 29) hx hb dX6_digest_86 rfl ?_
              refine lv_iload_n hx hb dX6_digest_88 rfl (lv_at hl 2 rfl) ?_
              refine lv_iadd hx hb dX6_digest_89 ?_
              refine x_iald E hw 1 rfl (29 + i) ((ix_add (a := 29) (b := i) rfl rfl)) (by omega) (by omega) dX6_digest_90 ?_
              refine lv_i2l (v := (nw (29 + i)).toInt64) hx hb dX6_digest_91 rfl ?_
              refine lv_ladd hx hb dX6_digest_92 ?_
              refine lv_lstore_n (lv' := [(1, .long ((31 * ((31 * ((31 * h2) + ((nw (23 + i)).toInt64))) + ((nw i).toInt64))) + ((nw (29 + i)).toInt64))), (0, .ref (b 0)), (3, .int (nI i))]) hx hb dX6_digest_93 rfl hl (by decide) rfl (fun ls hl => ?_)
              refine lv_ldc2 hx hb E.2.2.2.1 (E.2.2.2.2.2.2.w kc_X6_243) dX6_digest_94 ?_
              refine lv_lload_n hx hb dX6_digest_97 rfl (lv_at hl 0 rfl) ?_
              refine lv_lmul hx hb dX6_digest_98 ?_
              refine lv_aload_n hx hb dX6_digest_99 rfl (lv_at hl 1 rfl) ?_
              refine x_get E hw fw_X6_7 0 rfl rfl dX6_digest_100 ?_
              refine lv_bipush (v := 6) hx hb dX6_digest_103 rfl ?_
              refine lv_iload_n hx hb dX6_digest_105 rfl (lv_at hl 2 rfl) ?_
              refine lv_iadd hx hb dX6_digest_106 ?_
              refine x_iald E hw 1 rfl (6 + i) ((ix_add (a := 6) (b := i) rfl rfl)) (by omega) (by omega) dX6_digest_107 ?_
              refine lv_i2l (v := (nw (6 + i)).toInt64) hx hb dX6_digest_108 rfl ?_
              refine lv_ladd hx hb dX6_digest_109 ?_
              refine lv_lstore_n (lv' := [(1, .long ((31 * ((31 * ((31 * ((31 * h2) + ((nw (23 + i)).toInt64))) + ((nw i).toInt64))) + ((nw (29 + i)).toInt64))) + ((nw (6 + i)).toInt64))), (0, .ref (b 0)), (3, .int (nI i))]) hx hb dX6_digest_110 rfl hl (by decide) rfl (fun ls hl => ?_)
              refine lv_ldc2 hx hb E.2.2.2.1 (E.2.2.2.2.2.2.w kc_X6_243) dX6_digest_111 ?_
              refine lv_lload_n hx hb dX6_digest_114 rfl (lv_at hl 0 rfl) ?_
              refine lv_lmul hx hb dX6_digest_115 ?_
              refine lv_aload_n hx hb dX6_digest_116 rfl (lv_at hl 1 rfl) ?_
              refine x_get E hw fw_X6_7 0 rfl rfl dX6_digest_117 ?_
              refine lv_bipush (v := 12) hx hb dX6_digest_120 rfl ?_
              refine lv_iload_n hx hb dX6_digest_122 rfl (lv_at hl 2 rfl) ?_
              refine lv_iadd hx hb dX6_digest_123 ?_
              refine x_iald E hw 1 rfl (12 + i) ((ix_add (a := 12) (b := i) rfl rfl)) (by omega) (by omega) dX6_digest_124 ?_
              refine lv_i2l (v := (nw (12 + i)).toInt64) hx hb dX6_digest_125 rfl ?_
              refine lv_ladd hx hb dX6_digest_126 ?_
              refine lv_lstore_n (lv' := [(1, .long ((31 * ((31 * ((31 * ((31 * ((31 * h2) + ((nw (23 + i)).toInt64))) + ((nw i).toInt64))) + ((nw (29 + i)).toInt64))) + ((nw (6 + i)).toInt64))) + ((nw (12 + i)).toInt64))), (0, .ref (b 0)), (3, .int (nI i))]) hx hb dX6_digest_127 rfl hl (by decide) rfl (fun ls hl => ?_)
              refine lv_iinc (v := nI (i + 1)) (lv' := [(3, .int (nI (i + 1))), (1, .long ((31 * ((31 * ((31 * ((31 * ((31 * h2) + ((nw (23 + i)).toInt64))) + ((nw i).toInt64))) + ((nw (29 + i)).toInt64))) + ((nw (6 + i)).toInt64))) + ((nw (12 + i)).toInt64))), (0, .ref (b 0))]) hx hb dX6_digest_128 hl (k := 2) rfl (nI_add _ 1) (by decide) rfl (fun ls hl => ?_)
              refine lv_goto (tgt := 33) hx hb dX6_digest_131 rfl ?_
              exact ih33 (i + 1) ((31 * ((31 * ((31 * ((31 * ((31 * h2) + ((nw (23 + i)).toInt64))) + ((nw i).toInt64))) + ((nw (29 + i)).toInt64))) + ((nw (6 + i)).toInt64))) + ((nw (12 + i)).toInt64)) (by omega) (by rw [hh2]; rfl) (by omega) _ _ _ hw (lv_sub hl [2, 1, 0] rfl)
        exact lp33 (n - 0 + 1) 0 h_ (by omega) (by rw [hh, show k = 8 by omega]; rfl) (by omega) _ _ _ hw (lv_sub hl [1, 2, 0] rfl)
      · skip
        have cq9 : ¬ 8 ≤ k := fun h => cq9 ((cv_le (a := 8) (b := k) rfl rfl (by omega) (by omega)).mpr h)
        refine lv_ldc2 hx hb E.2.2.2.1 (E.2.2.2.2.2.2.w kc_X6_243) dX6_digest_12 ?_
        refine lv_lload_n hx hb dX6_digest_15 rfl (lv_at hl 1 rfl) ?_
        refine lv_lmul hx hb dX6_digest_16 ?_
        refine lv_aload_n hx hb dX6_digest_17 rfl (lv_at hl 0 rfl) ?_
        refine lv_iload_n hx hb dX6_digest_18 rfl (lv_at hl 2 rfl) ?_
        refine x_callV (is := [0, 1, 2, 3, 4, 5, 6, 7, 8]) (q0 := 0) (As := [.int (nI k)]) (rest := [.long (31 * h_)]) (st1 := [.int (cnM nw sz (nI k)), .long (31 * h_)]) (ws' := mW G b nw rd asd img kpt txt sz abv blw bds nos fls att bgn tkn wrd vlu sts bst) E (c_X6_counted l G b (nI k) nw rd asd img kpt txt sz abv blw bds nos fls att bgn tkn wrd vlu sts bst) vw_X6_245 hw [0, 1, 2, 3, 4, 5, 6, 7, 8] rfl rfl rfl rfl rfl rfl rfl hl.1 rfl rfl (Nat.le_of_ble_eq_true rfl) ⟨Nat.le_of_ble_eq_true rfl, Nat.le_of_ble_eq_true rfl⟩ (Nat.zero_le _) (Nat.zero_le _) dX6_digest_19 rfl rfl (fun H locs hw => ?_)
        refine lv_i2l (v := (cnM nw sz (nI k)).toInt64) hx hb dX6_digest_22 rfl ?_
        refine lv_ladd hx hb dX6_digest_23 ?_
        refine lv_lstore_n (lv' := [(1, .long ((31 * h_) + ((cnM nw sz (nI k)).toInt64))), (0, .ref (b 0)), (3, .int (nI k))]) hx hb dX6_digest_24 rfl hl (by decide) rfl (fun ls hl => ?_)
        refine lv_iinc (v := nI (k + 1)) (lv' := [(3, .int (nI (k + 1))), (1, .long ((31 * h_) + ((cnM nw sz (nI k)).toInt64))), (0, .ref (b 0))]) hx hb dX6_digest_25 hl (k := 2) rfl (nI_add _ 1) (by decide) rfl (fun ls hl => ?_)
        refine lv_goto (tgt := 6) hx hb dX6_digest_28 rfl ?_
        exact ih6 (k + 1) ((31 * h_) + ((cnM nw sz (nI k)).toInt64)) (by omega) (by rw [hh]; rfl) (by omega) _ _ _ hw (lv_sub hl [2, 1, 0] rfl)
  exact lp6 (8 - 0 + 1) 0 1429 (by omega) (rfl) (by omega) _ _ _ hw (lv_sub hl [2, 1, 0] rfl)

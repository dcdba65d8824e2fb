set_option maxHeartbeats 1000000 in
set_option maxRecDepth 100000 in
theorem c_X6_table (l : Launch) (G : GG) (b : Nat → Nat) (x : Int32) (nw : Nat → Int32) (rd : Nat → Int32) (asd : Nat → Int32) (img : Nat → Int32) (kpt : Nat → Int32) (txt : Nat → Int32) (sz : Int32) (abv : Int64) (blw : Int64) (bds : Int32) (nos : Int32) (fls : Int32) (att : Int32) (bgn : Int32) (tkn : Int32) (wrd : Int64) (vlu : Int32) (sts : Nat → Int32) (bst : Nat → Int32) : CT l G yX6_table cX6_table 3 (some .int) 2 45 [.ref (b 0), .int x] (mW G b nw rd asd img kpt txt sz abv blw bds nos fls att bgn tkn wrd vlu sts bst) (some (.int (if inI x 0 7 then nw 22 else -2))) (mW G b (if inI x 0 7 then upd bg0 20 x else nw) rd asd img kpt txt sz abv blw (if inI x 0 7 then bds else bds + 1) nos fls att bgn tkn wrd vlu sts bst) := by
  refine CT.mk (own := RX6) (la := [(0, .ref (b 0)), (1, .int x)]) (by decide) rfl (Nat.le_of_ble_eq_true rfl) rfl ?_
  intro p e s m args below meth c A Q E hA hw rt ls hl
  have hx := E.1
  have hb := E.2.1
  refine lv_iload_n hx hb dX6_table_0 rfl (lv_at hl 1 rfl) ?_
  refine x_callS (is := []) (As := [.int x]) (rest := []) (st1 := [.int (bI (inI x 0 7))]) (ws' := mW G b nw rd asd img kpt txt sz abv blw bds nos fls att bgn tkn wrd vlu sts bst) E (c_X6_isSeat l G x) sw_X6_59 hw [] rfl rfl rfl rfl hl.1 rfl rfl (Nat.le_of_ble_eq_true rfl) ⟨Nat.le_of_ble_eq_true rfl, Nat.le_of_ble_eq_true rfl⟩ (Nat.zero_le _) (Nat.zero_le _) dX6_table_1 rfl rfl (fun H locs hw => ?_)
  refine lv_if_ne (tgt := 12) hx hb dX6_table_4 rfl (fun cq4 => ?_) (fun cq4 => ?_)
  · skip
    have cq4 := bI_n0.mp cq4
    refine lv_aload_n hx hb dX6_table_12 rfl (lv_at hl 0 rfl) ?_
    refine x_get E hw fw_X6_7 0 rfl rfl dX6_table_13 ?_
    refine lv_bipush (v := 22) hx hb dX6_table_16 rfl ?_
    refine x_iald E hw 1 rfl 22 (rfl) (by omega) (by omega) dX6_table_18 ?_
    refine lv_istore_n (lv' := [(2, .int (nw 22)), (0, .ref (b 0)), (1, .int x)]) hx hb dX6_table_19 rfl hl (by decide) rfl (fun ls hl => ?_)
    refine lv_aload_n hx hb dX6_table_20 rfl (lv_at hl 1 rfl) ?_
    refine x_get E hw fw_X6_7 0 rfl rfl dX6_table_21 ?_
    refine lv_iload_n hx hb dX6_table_24 rfl (lv_at hl 2 rfl) ?_
    refine x_callS (is := [1]) (As := [.ref (b 1), .int x]) (rest := []) (st1 := []) (ws' := mW G b (upd bg0 20 x) rd asd img kpt txt sz abv blw bds nos fls att bgn tkn wrd vlu sts bst) E (c_X6_begins l G (b 1) x nw) sw_X6_39 hw [1] rfl rfl rfl rfl hl.1 rfl rfl (Nat.le_of_ble_eq_true rfl) ⟨Nat.le_of_ble_eq_true rfl, Nat.le_of_ble_eq_true rfl⟩ (Nat.zero_le _) (Nat.zero_le _) dX6_table_25 rfl rfl (fun H locs hw => ?_)
    refine lv_iload_n hx hb dX6_table_28 rfl (lv_at hl 0 rfl) ?_
    exact x_iret E hA rt hw dX6_table_29 (by simp [cq4]) (by simp [cq4])
  · skip
    have cq4 := bI_0.mp cq4
    refine lv_aload_n hx hb dX6_table_7 rfl (lv_at hl 0 rfl) ?_
    refine x_callV (is := [0, 1, 2, 3, 4, 5, 6, 7, 8]) (q0 := 0) (As := []) (rest := []) (st1 := [.int (-2)]) (ws' := mW G b nw rd asd img kpt txt sz abv blw (bds + 1) nos fls att bgn tkn wrd vlu sts bst) E (c_X6_bad l G b nw rd asd img kpt txt sz abv blw bds nos fls att bgn tkn wrd vlu sts bst) vw_X6_63 hw [0, 1, 2, 3, 4, 5, 6, 7, 8] rfl rfl rfl rfl rfl rfl rfl hl.1 rfl rfl (Nat.le_of_ble_eq_true rfl) ⟨Nat.le_of_ble_eq_true rfl, Nat.le_of_ble_eq_true rfl⟩ (Nat.zero_le _) (Nat.zero_le _) dX6_table_8 rfl rfl (fun H locs hw => ?_)
    exact x_iret E hA rt hw dX6_table_11 (by simp [cq4]) (by simp [cq4])
set_option maxHeartbeats 1000000 in
set_option maxRecDepth 100000 in
theorem c_X6_child (l : Launch) (G : GG) (b : Nat → Nat) (xk : Int32) (xs : Int32) (xw : Int32) (xh : Int32) (nw : Nat → Int32) (rd : Nat → Int32) (asd : Nat → Int32) (img : Nat → Int32) (kpt : Nat → Int32) (txt : Nat → Int32) (sz : Int32) (abv : Int64) (blw : Int64) (bds : Int32) (nos : Int32) (fls : Int32) (att : Int32) (bgn : Int32) (tkn : Int32) (wrd : Int64) (vlu : Int32) (sts : Nat → Int32) (bst : Nat → Int32) (n : Nat) (hc : nw 22 = nI n) (hn : n ≤ 6) : CT l G yX6_child cX6_child 5 (some .int) 2 45 [.ref (b 0), .int xk, .int xs, .int xw, .int xh] (mW G b nw rd asd img kpt txt sz abv blw bds nos fls att bgn tkn wrd vlu sts bst) (some (.int (if (inI xk 0 5 && (inI xs 0 7 && (inI xw 0 20 && inI xh 0 30))) = true then (if fi nw xs n 0 = -1 then (if n = 6 then -4 else nI n) else -3) else -2))) (mW G b (if (inI xk 0 5 && (inI xs 0 7 && (inI xw 0 20 && inI xh 0 30))) = true ∧ fi nw xs n 0 = -1 ∧ ¬ n = 6 then upd (cmM nw n xk xs xw xh) 78 0 else nw) rd asd img kpt txt sz abv blw (if (inI xk 0 5 && (inI xs 0 7 && (inI xw 0 20 && inI xh 0 30))) = true then bds else bds + 1) (if (inI xk 0 5 && (inI xs 0 7 && (inI xw 0 20 && inI xh 0 30))) = true ∧ ¬ fi nw xs n 0 = -1 then nos + 1 else nos) (if (inI xk 0 5 && (inI xs 0 7 && (inI xw 0 20 && inI xh 0 30))) = true ∧ fi nw xs n 0 = -1 ∧ n = 6 then fls + 1 else fls) att bgn tkn wrd vlu sts bst) := by
  refine CT.mk (own := RX6) (la := [(0, .ref (b 0)), (1, .int xk), (2, .int xs), (3, .int xw), (4, .int xh)]) (by decide) rfl (Nat.le_of_ble_eq_true rfl) rfl ?_
  intro p e s m args below meth c A Q E hA hw rt ls hl
  have hx := E.1
  have hb := E.2.1
  refine lv_iload_n hx hb dX6_child_0 rfl (lv_at hl 1 rfl) ?_
  refine lv_i2l (v := xk.toInt64) hx hb dX6_child_1 rfl ?_
  refine lv_lconst (v := 0) hx hb dX6_child_2 rfl ?_
  refine lv_ldc2 hx hb E.2.2.2.1 (E.2.2.2.2.2.2.w kc_X6_67) dX6_child_3 ?_
  refine x_callS (is := []) (As := [.long xk.toInt64, .long 0, .long 5]) (rest := []) (st1 := [.int (bI (inL xk.toInt64 0 5))]) (ws' := mW G b nw rd asd img kpt txt sz abv blw bds nos fls att bgn tkn wrd vlu sts bst) E (c_X6_in l G xk.toInt64 0 5) sw_X6_55 hw [] rfl rfl rfl rfl hl.1 rfl rfl (Nat.le_of_ble_eq_true rfl) ⟨Nat.le_of_ble_eq_true rfl, Nat.le_of_ble_eq_true rfl⟩ (Nat.zero_le _) (Nat.zero_le _) dX6_child_6 rfl rfl (fun H locs hw => ?_)
  refine x_topi (y := bI (inI xk 0 5)) (congrArg bI (inL_I xk 0 5 rfl rfl)) ?_
  refine lv_if_eq (tgt := 44) hx hb dX6_child_9 rfl (fun cq9 => ?_) (fun cq9 => ?_)
  · skip
    have cq9 := bI_0.mp cq9
    refine lv_aload_n hx hb dX6_child_44 rfl (lv_at hl 0 rfl) ?_
    refine x_callV (is := [0, 1, 2, 3, 4, 5, 6, 7, 8]) (q0 := 0) (As := []) (rest := []) (st1 := [.int (-2)]) (ws' := mW G b nw rd asd img kpt txt sz abv blw (bds + 1) nos fls att bgn tkn wrd vlu sts bst) E (c_X6_bad l G b nw rd asd img kpt txt sz abv blw bds nos fls att bgn tkn wrd vlu sts bst) vw_X6_63 hw [0, 1, 2, 3, 4, 5, 6, 7, 8] rfl rfl rfl rfl rfl rfl rfl hl.1 rfl rfl (Nat.le_of_ble_eq_true rfl) ⟨Nat.le_of_ble_eq_true rfl, Nat.le_of_ble_eq_true rfl⟩ (Nat.zero_le _) (Nat.zero_le _) dX6_child_45 rfl rfl (fun H locs hw => ?_)
    exact x_iret E hA rt hw dX6_child_48 (by simp [cq9]) (by simp [cmM, cq9])
  · skip
    have cq9 := bI_n0.mp cq9
    refine lv_iload_n hx hb dX6_child_12 rfl (lv_at hl 2 rfl) ?_
    refine x_callS (is := []) (As := [.int xs]) (rest := []) (st1 := [.int (bI (inI xs 0 7))]) (ws' := mW G b nw rd asd img kpt txt sz abv blw bds nos fls att bgn tkn wrd vlu sts bst) E (c_X6_isSeat l G xs) sw_X6_59 hw [] rfl rfl rfl rfl hl.1 rfl rfl (Nat.le_of_ble_eq_true rfl) ⟨Nat.le_of_ble_eq_true rfl, Nat.le_of_ble_eq_true rfl⟩ (Nat.zero_le _) (Nat.zero_le _) dX6_child_13 rfl rfl (fun H locs hw => ?_)
    refine lv_if_eq (tgt := 44) hx hb dX6_child_16 rfl (fun cq16 => ?_) (fun cq16 => ?_)
    · skip
      have cq16 := bI_0.mp cq16
      refine lv_aload_n hx hb dX6_child_44 rfl (lv_at hl 0 rfl) ?_
      refine x_callV (is := [0, 1, 2, 3, 4, 5, 6, 7, 8]) (q0 := 0) (As := []) (rest := []) (st1 := [.int (-2)]) (ws' := mW G b nw rd asd img kpt txt sz abv blw (bds + 1) nos fls att bgn tkn wrd vlu sts bst) E (c_X6_bad l G b nw rd asd img kpt txt sz abv blw bds nos fls att bgn tkn wrd vlu sts bst) vw_X6_63 hw [0, 1, 2, 3, 4, 5, 6, 7, 8] rfl rfl rfl rfl rfl rfl rfl hl.1 rfl rfl (Nat.le_of_ble_eq_true rfl) ⟨Nat.le_of_ble_eq_true rfl, Nat.le_of_ble_eq_true rfl⟩ (Nat.zero_le _) (Nat.zero_le _) dX6_child_45 rfl rfl (fun H locs hw => ?_)
      exact x_iret E hA rt hw dX6_child_48 (by simp [cq9, cq16]) (by simp [cmM, cq9, cq16])
    · skip
      have cq16 := bI_n0.mp cq16
      refine lv_iload_n hx hb dX6_child_19 rfl (lv_at hl 3 rfl) ?_
      refine lv_i2l (v := xw.toInt64) hx hb dX6_child_20 rfl ?_
      refine lv_lconst (v := 0) hx hb dX6_child_21 rfl ?_
      refine lv_ldc2 hx hb E.2.2.2.1 (E.2.2.2.2.2.2.w kc_X6_69) dX6_child_22 ?_
      refine x_callS (is := []) (As := [.long xw.toInt64, .long 0, .long 20]) (rest := []) (st1 := [.int (bI (inL xw.toInt64 0 20))]) (ws' := mW G b nw rd asd img kpt txt sz abv blw bds nos fls att bgn tkn wrd vlu sts bst) E (c_X6_in l G xw.toInt64 0 20) sw_X6_55 hw [] rfl rfl rfl rfl hl.1 rfl rfl (Nat.le_of_ble_eq_true rfl) ⟨Nat.le_of_ble_eq_true rfl, Nat.le_of_ble_eq_true rfl⟩ (Nat.zero_le _) (Nat.zero_le _) dX6_child_25 rfl rfl (fun H locs hw => ?_)
      refine x_topi (y := bI (inI xw 0 20)) (congrArg bI (inL_I xw 0 20 rfl rfl)) ?_
      refine lv_if_eq (tgt := 44) hx hb dX6_child_28 rfl (fun cq28 => ?_) (fun cq28 => ?_)
      · skip
        have cq28 := bI_0.mp cq28
        refine lv_aload_n hx hb dX6_child_44 rfl (lv_at hl 0 rfl) ?_
        refine x_callV (is := [0, 1, 2, 3, 4, 5, 6, 7, 8]) (q0 := 0) (As := []) (rest := []) (st1 := [.int (-2)]) (ws' := mW G b nw rd asd img kpt txt sz abv blw (bds + 1) nos fls att bgn tkn wrd vlu sts bst) E (c_X6_bad l G b nw rd asd img kpt txt sz abv blw bds nos fls att bgn tkn wrd vlu sts bst) vw_X6_63 hw [0, 1, 2, 3, 4, 5, 6, 7, 8] rfl rfl rfl rfl rfl rfl rfl hl.1 rfl rfl (Nat.le_of_ble_eq_true rfl) ⟨Nat.le_of_ble_eq_true rfl, Nat.le_of_ble_eq_true rfl⟩ (Nat.zero_le _) (Nat.zero_le _) dX6_child_45 rfl rfl (fun H locs hw => ?_)
        exact x_iret E hA rt hw dX6_child_48 (by simp [cq9, cq16, cq28]) (by simp [cmM, cq9, cq16, cq28])
      · skip
        have cq28 := bI_n0.mp cq28
        refine lv_iload hx hb dX6_child_31 (lv_at hl 4 rfl) ?_
        refine lv_i2l (v := xh.toInt64) hx hb dX6_child_33 rfl ?_
        refine lv_lconst (v := 0) hx hb dX6_child_34 rfl ?_
        refine lv_ldc2 hx hb E.2.2.2.1 (E.2.2.2.2.2.2.w kc_X6_71) dX6_child_35 ?_
        refine x_callS (is := []) (As := [.long xh.toInt64, .long 0, .long 30]) (rest := []) (st1 := [.int (bI (inL xh.toInt64 0 30))]) (ws' := mW G b nw rd asd img kpt txt sz abv blw bds nos fls att bgn tkn wrd vlu sts bst) E (c_X6_in l G xh.toInt64 0 30) sw_X6_55 hw [] rfl rfl rfl rfl hl.1 rfl rfl (Nat.le_of_ble_eq_true rfl) ⟨Nat.le_of_ble_eq_true rfl, Nat.le_of_ble_eq_true rfl⟩ (Nat.zero_le _) (Nat.zero_le _) dX6_child_38 rfl rfl (fun H locs hw => ?_)
        refine x_topi (y := bI (inI xh 0 30)) (congrArg bI (inL_I xh 0 30 rfl rfl)) ?_
        refine lv_if_ne (tgt := 49) hx hb dX6_child_41 rfl (fun cq41 => ?_) (fun cq41 => ?_)
        · skip
          have cq41 := bI_n0.mp cq41
          refine lv_aload_n hx hb dX6_child_49 rfl (lv_at hl 0 rfl) ?_
          refine x_get E hw fw_X6_7 0 rfl rfl dX6_child_50 ?_
          refine lv_iload_n hx hb dX6_child_53 rfl (lv_at hl 2 rfl) ?_
          refine x_callS (is := [1]) (As := [.ref (b 1), .int xs]) (rest := []) (st1 := [.int (fi nw xs n 0)]) (ws' := mW G b nw rd asd img kpt txt sz abv blw bds nos fls att bgn tkn wrd vlu sts bst) E (c_X6_whoIs l G (b 1) xs nw 255 n (by omega) (by omega) (hc) (by omega)) sw_X6_73 hw [1] rfl rfl rfl rfl hl.1 rfl rfl (Nat.le_of_ble_eq_true rfl) ⟨Nat.le_of_ble_eq_true rfl, Nat.le_of_ble_eq_true rfl⟩ (Nat.zero_le _) (Nat.zero_le _) dX6_child_54 rfl rfl (fun H locs hw => ?_)
          refine lv_iconst (v := -1) hx hb dX6_child_57 rfl ?_
          refine lv_icmp_eq (tgt := 66) hx hb dX6_child_58 rfl (fun cq58 => ?_) (fun cq58 => ?_)
          · skip
            refine lv_aload_n hx hb dX6_child_66 rfl (lv_at hl 0 rfl) ?_
            refine x_get E hw fw_X6_7 0 rfl rfl dX6_child_67 ?_
            refine lv_bipush (v := 22) hx hb dX6_child_70 rfl ?_
            refine x_iald E hw 1 rfl 22 (rfl) (by omega) (by omega) dX6_child_72 ?_
            refine lv_bipush (v := 6) hx hb dX6_child_73 rfl ?_
            refine lv_icmp_ne (tgt := 83) hx hb dX6_child_75 rfl (fun cq75 => ?_) (fun cq75 => ?_)
            · skip
              have cq75 : ¬ n = 6 := fun h => cq75 ((cv_eq (a := n) (b := 6) hc rfl (by omega) (by omega)).mpr h)
              refine lv_aload_n hx hb dX6_child_83 rfl (lv_at hl 0 rfl) ?_
              refine x_get E hw fw_X6_7 0 rfl rfl dX6_child_84 ?_
              refine lv_iload_n hx hb dX6_child_87 rfl (lv_at hl 1 rfl) ?_
              refine lv_iload_n hx hb dX6_child_88 rfl (lv_at hl 2 rfl) ?_
              refine lv_iload_n hx hb dX6_child_89 rfl (lv_at hl 3 rfl) ?_
              refine lv_iload hx hb dX6_child_90 (lv_at hl 4 rfl) ?_
              refine x_callS (is := [1]) (As := [.ref (b 1), .int xk, .int xs, .int xw, .int xh]) (rest := []) (st1 := []) (ws' := mW G b (upd (upd (upd (upd (upd nw (23 + n) xk) n xs) (29 + n) xw) (6 + n) xh) 22 (nI (n + 1))) rd asd img kpt txt sz abv blw bds nos fls att bgn tkn wrd vlu sts bst) E (c_X6_comes l G (b 1) xk xs xw xh nw 255 n (by omega) (by omega) (hc) (by omega)) sw_X6_83 hw [1] rfl rfl rfl rfl hl.1 rfl rfl (Nat.le_of_ble_eq_true rfl) ⟨Nat.le_of_ble_eq_true rfl, Nat.le_of_ble_eq_true rfl⟩ (Nat.zero_le _) (Nat.zero_le _) dX6_child_92 rfl rfl (fun H locs hw => ?_)
              refine lv_aload_n hx hb dX6_child_95 rfl (lv_at hl 0 rfl) ?_
              refine x_get E hw fw_X6_7 0 rfl rfl dX6_child_96 ?_
              refine lv_bipush (v := 78) hx hb dX6_child_99 rfl ?_
              refine lv_iconst (v := 0) hx hb dX6_child_101 rfl ?_
              refine x_iast (ws' := mW G b (upd (upd (upd (upd (upd (upd nw (23 + n) xk) n xs) (29 + n) xw) (6 + n) xh) 22 (nI (n + 1))) 78 0) rd asd img kpt txt sz abv blw bds nos fls att bgn tkn wrd vlu sts bst) E hw 1 rfl 78 (rfl) (by omega) (by omega) dX6_child_102 rfl (fun H locs hw => ?_)
              refine lv_aload_n hx hb dX6_child_103 rfl (lv_at hl 0 rfl) ?_
              refine x_get E hw fw_X6_7 0 rfl rfl dX6_child_104 ?_
              refine lv_bipush (v := 22) hx hb dX6_child_107 rfl ?_
              refine x_iald E hw 1 rfl 22 (rfl) (by omega) (by omega) dX6_child_109 ?_
              refine lv_iconst (v := 1) hx hb dX6_child_110 rfl ?_
              refine lv_isub hx hb dX6_child_111 ?_
              refine x_topi (y := nI n) (by rw [upd_ne _ _ (by omega), upd_at]; exact nI_pred n) ?_
              exact x_iret E hA rt hw dX6_child_112 (by simp [cq9, cq16, cq28, cq41, cq58, cq75]) (by simp [cmM, cq9, cq16, cq28, cq41, cq58, cq75])
            · skip
              have cq75 : n = 6 := (cv_eq (a := n) (b := 6) hc rfl (by omega) (by omega)).mp cq75
              rw [cq75] at cq58
              refine lv_aload_n hx hb dX6_child_78 rfl (lv_at hl 0 rfl) ?_
              refine x_callV (is := [0, 1, 2, 3, 4, 5, 6, 7, 8]) (q0 := 0) (As := []) (rest := []) (st1 := [.int (-4)]) (ws' := mW G b nw rd asd img kpt txt sz abv blw bds nos (fls + 1) att bgn tkn wrd vlu sts bst) E (c_X6_full l G b nw rd asd img kpt txt sz abv blw bds nos fls att bgn tkn wrd vlu sts bst) vw_X6_80 hw [0, 1, 2, 3, 4, 5, 6, 7, 8] rfl rfl rfl rfl rfl rfl rfl hl.1 rfl rfl (Nat.le_of_ble_eq_true rfl) ⟨Nat.le_of_ble_eq_true rfl, Nat.le_of_ble_eq_true rfl⟩ (Nat.zero_le _) (Nat.zero_le _) dX6_child_79 rfl rfl (fun H locs hw => ?_)
              exact x_iret E hA rt hw dX6_child_82 (by simp [cq9, cq16, cq28, cq41, cq58, cq75]) (by simp [cmM, cq9, cq16, cq28, cq41, cq58, cq75])
          · skip
            refine lv_aload_n hx hb dX6_child_61 rfl (lv_at hl 0 rfl) ?_
            refine x_callV (is := [0, 1, 2, 3, 4, 5, 6, 7, 8]) (q0 := 0) (As := []) (rest := []) (st1 := [.int (-3)]) (ws' := mW G b nw rd asd img kpt txt sz abv blw bds (nos + 1) fls att bgn tkn wrd vlu sts bst) E (c_X6_no l G b nw rd asd img kpt txt sz abv blw bds nos fls att bgn tkn wrd vlu sts bst) vw_X6_77 hw [0, 1, 2, 3, 4, 5, 6, 7, 8] rfl rfl rfl rfl rfl rfl rfl hl.1 rfl rfl (Nat.le_of_ble_eq_true rfl) ⟨Nat.le_of_ble_eq_true rfl, Nat.le_of_ble_eq_true rfl⟩ (Nat.zero_le _) (Nat.zero_le _) dX6_child_62 rfl rfl (fun H locs hw => ?_)
            exact x_iret E hA rt hw dX6_child_65 (by simp [cq9, cq16, cq28, cq41, cq58]) (by simp [cmM, cq9, cq16, cq28, cq41, cq58])
        · skip
          have cq41 := bI_0.mp cq41
          refine lv_aload_n hx hb dX6_child_44 rfl (lv_at hl 0 rfl) ?_
          refine x_callV (is := [0, 1, 2, 3, 4, 5, 6, 7, 8]) (q0 := 0) (As := []) (rest := []) (st1 := [.int (-2)]) (ws' := mW G b nw rd asd img kpt txt sz abv blw (bds + 1) nos fls att bgn tkn wrd vlu sts bst) E (c_X6_bad l G b nw rd asd img kpt txt sz abv blw bds nos fls att bgn tkn wrd vlu sts bst) vw_X6_63 hw [0, 1, 2, 3, 4, 5, 6, 7, 8] rfl rfl rfl rfl rfl rfl rfl hl.1 rfl rfl (Nat.le_of_ble_eq_true rfl) ⟨Nat.le_of_ble_eq_true rfl, Nat.le_of_ble_eq_true rfl⟩ (Nat.zero_le _) (Nat.zero_le _) dX6_child_45 rfl rfl (fun H locs hw => ?_)
          exact x_iret E hA rt hw dX6_child_48 (by simp [cq9, cq16, cq28, cq41]) (by simp [cmM, cq9, cq16, cq28, cq41])
set_option maxHeartbeats 1000000 in
set_option maxRecDepth 100000 in
theorem c_X6_type (l : Launch) (G : GG) (b : Nat → Nat) (x : Int32) (nw : Nat → Int32) (rd : Nat → Int32) (asd : Nat → Int32) (img : Nat → Int32) (kpt : Nat → Int32) (txt : Nat → Int32) (sz : Int32) (abv : Int64) (blw : Int64) (bds : Int32) (nos : Int32) (fls : Int32) (att : Int32) (bgn : Int32) (tkn : Int32) (wrd : Int64) (vlu : Int32) (sts : Nat → Int32) (bst : Nat → Int32) (z : Nat) (hz : sz = nI z) (hz1 : z ≤ 150) : CT l G yX6_type cX6_type 2 (some .int) 1 25 [.ref (b 0), .int x] (mW G b nw rd asd img kpt txt sz abv blw bds nos fls att bgn tkn wrd vlu sts bst) (some (.int (if inI x 0 127 then (if z = 150 then -4 else sz + 1) else -2))) (mW G b nw rd asd img kpt (if inI x 0 127 = true ∧ ¬ z = 150 then upd txt z x else txt) (if inI x 0 127 = true ∧ ¬ z = 150 then sz + 1 else sz) abv blw (if inI x 0 127 then bds else bds + 1) nos (if inI x 0 127 = true ∧ z = 150 then fls + 1 else fls) att bgn tkn wrd vlu sts bst) := by
  refine CT.mk (own := RX6) (la := [(0, .ref (b 0)), (1, .int x)]) (by decide) rfl (Nat.le_of_ble_eq_true rfl) rfl ?_
  intro p e s m args below meth c A Q E hA hw rt ls hl
  have hx := E.1
  have hb := E.2.1
  refine lv_iload_n hx hb dX6_type_0 rfl (lv_at hl 1 rfl) ?_
  refine lv_i2l (v := x.toInt64) hx hb dX6_type_1 rfl ?_
  refine lv_lconst (v := 0) hx hb dX6_type_2 rfl ?_
  refine lv_ldc2 hx hb E.2.2.2.1 (E.2.2.2.2.2.2.w kc_X6_87) dX6_type_3 ?_
  refine x_callS (is := []) (As := [.long x.toInt64, .long 0, .long 127]) (rest := []) (st1 := [.int (bI (inL x.toInt64 0 127))]) (ws' := mW G b nw rd asd img kpt txt sz abv blw bds nos fls att bgn tkn wrd vlu sts bst) E (c_X6_in l G x.toInt64 0 127) sw_X6_55 hw [] rfl rfl rfl rfl hl.1 rfl rfl (Nat.le_of_ble_eq_true rfl) ⟨Nat.le_of_ble_eq_true rfl, Nat.le_of_ble_eq_true rfl⟩ (Nat.zero_le _) (Nat.zero_le _) dX6_type_6 rfl rfl (fun H locs hw => ?_)
  refine x_topi (y := bI (inI x 0 127)) (congrArg bI (inL_I x 0 127 rfl rfl)) ?_
  refine lv_if_ne (tgt := 17) hx hb dX6_type_9 rfl (fun cq9 => ?_) (fun cq9 => ?_)
  · skip
    have cq9 := bI_n0.mp cq9
    refine lv_aload_n hx hb dX6_type_17 rfl (lv_at hl 0 rfl) ?_
    refine x_get E hw fw_X6_89 0 rfl rfl dX6_type_18 ?_
    refine lv_sipush (v := 150) hx hb dX6_type_21 rfl ?_
    refine lv_icmp_ne (tgt := 32) hx hb dX6_type_24 rfl (fun cq24 => ?_) (fun cq24 => ?_)
    · skip
      have cq24 : ¬ z = 150 := fun h => cq24 ((cv_eq (a := z) (b := 150) hz rfl (by omega) (by omega)).mpr h)
      refine lv_aload_n hx hb dX6_type_32 rfl (lv_at hl 0 rfl) ?_
      refine x_get E hw fw_X6_26 0 rfl rfl dX6_type_33 ?_
      refine lv_aload_n hx hb dX6_type_36 rfl (lv_at hl 0 rfl) ?_
      refine x_get E hw fw_X6_89 0 rfl rfl dX6_type_37 ?_
      refine lv_iload_n hx hb dX6_type_40 rfl (lv_at hl 1 rfl) ?_
      refine x_iast (ws' := mW G b nw rd asd img kpt (upd txt z x) sz abv blw bds nos fls att bgn tkn wrd vlu sts bst) E hw 6 rfl z (hz) (by omega) (by omega) dX6_type_41 rfl (fun H locs hw => ?_)
      refine lv_aload_n hx hb dX6_type_42 rfl (lv_at hl 0 rfl) ?_
      refine lv_dup hx hb dX6_type_43 rfl ?_
      refine x_get E hw fw_X6_89 0 rfl rfl dX6_type_44 ?_
      refine lv_iconst (v := 1) hx hb dX6_type_47 rfl ?_
      refine lv_iadd hx hb dX6_type_48 ?_
      refine x_put (ws' := mW G b nw rd asd img kpt (upd txt z x) (sz + 1) abv blw bds nos fls att bgn tkn wrd vlu sts bst) (ty := .int) E hw fw_X6_89 0 rfl rfl rfl (by decide +kernel) rfl rfl (Nat.le_of_ble_eq_true rfl) dX6_type_49 rfl (fun H locs hw => ?_)
      refine lv_aload_n hx hb dX6_type_52 rfl (lv_at hl 0 rfl) ?_
      refine x_get E hw fw_X6_89 0 rfl rfl dX6_type_53 ?_
      exact x_iret E hA rt hw dX6_type_56 (by simp [cq9, cq24]) (by simp [cq9, cq24])
    · skip
      have cq24 : z = 150 := (cv_eq (a := z) (b := 150) hz rfl (by omega) (by omega)).mp cq24
      refine lv_aload_n hx hb dX6_type_27 rfl (lv_at hl 0 rfl) ?_
      refine x_callV (is := [0, 1, 2, 3, 4, 5, 6, 7, 8]) (q0 := 0) (As := []) (rest := []) (st1 := [.int (-4)]) (ws' := mW G b nw rd asd img kpt txt sz abv blw bds nos (fls + 1) att bgn tkn wrd vlu sts bst) E (c_X6_full l G b nw rd asd img kpt txt sz abv blw bds nos fls att bgn tkn wrd vlu sts bst) vw_X6_80 hw [0, 1, 2, 3, 4, 5, 6, 7, 8] rfl rfl rfl rfl rfl rfl rfl hl.1 rfl rfl (Nat.le_of_ble_eq_true rfl) ⟨Nat.le_of_ble_eq_true rfl, Nat.le_of_ble_eq_true rfl⟩ (Nat.zero_le _) (Nat.zero_le _) dX6_type_28 rfl rfl (fun H locs hw => ?_)
      exact x_iret E hA rt hw dX6_type_31 (by simp [cq9, cq24]) (by simp [cq9, cq24])
  · skip
    have cq9 := bI_0.mp cq9
    refine lv_aload_n hx hb dX6_type_12 rfl (lv_at hl 0 rfl) ?_
    refine x_callV (is := [0, 1, 2, 3, 4, 5, 6, 7, 8]) (q0 := 0) (As := []) (rest := []) (st1 := [.int (-2)]) (ws' := mW G b nw rd asd img kpt txt sz abv blw (bds + 1) nos fls att bgn tkn wrd vlu sts bst) E (c_X6_bad l G b nw rd asd img kpt txt sz abv blw bds nos fls att bgn tkn wrd vlu sts bst) vw_X6_63 hw [0, 1, 2, 3, 4, 5, 6, 7, 8] rfl rfl rfl rfl rfl rfl rfl hl.1 rfl rfl (Nat.le_of_ble_eq_true rfl) ⟨Nat.le_of_ble_eq_true rfl, Nat.le_of_ble_eq_true rfl⟩ (Nat.zero_le _) (Nat.zero_le _) dX6_type_13 rfl rfl (fun H locs hw => ?_)
    exact x_iret E hA rt hw dX6_type_16 (by simp [cq9]) (by simp [cq9])
set_option maxHeartbeats 1000000 in
set_option maxRecDepth 100000 in
theorem c_X6_clear (l : Launch) (G : GG) (b : Nat → Nat) (nw : Nat → Int32) (rd : Nat → Int32) (asd : Nat → Int32) (img : Nat → Int32) (kpt : Nat → Int32) (txt : Nat → Int32) (sz : Int32) (abv : Int64) (blw : Int64) (bds : Int32) (nos : Int32) (fls : Int32) (att : Int32) (bgn : Int32) (tkn : Int32) (wrd : Int64) (vlu : Int32) (sts : Nat → Int32) (bst : Nat → Int32) : CT l G yX6_clear cX6_clear 2 (some .int) 0 0 [.ref (b 0)] (mW G b nw rd asd img kpt txt sz abv blw bds nos fls att bgn tkn wrd vlu sts bst) (some (.int sz)) (mW G b nw rd asd img kpt txt 0 abv blw bds nos fls att bgn tkn wrd vlu sts bst) := by
  refine CT.mk (own := RX6) (la := [(0, .ref (b 0))]) (by decide) rfl (Nat.le_of_ble_eq_true rfl) rfl ?_
  intro p e s m args below meth c A Q E hA hw rt ls hl
  have hx := E.1
  have hb := E.2.1
  refine lv_aload_n hx hb dX6_clear_0 rfl (lv_at hl 0 rfl) ?_
  refine x_get E hw fw_X6_89 0 rfl rfl dX6_clear_1 ?_
  refine lv_istore_n (lv' := [(1, .int sz), (0, .ref (b 0))]) hx hb dX6_clear_4 rfl hl (by decide) rfl (fun ls hl => ?_)
  refine lv_aload_n hx hb dX6_clear_5 rfl (lv_at hl 1 rfl) ?_
  refine lv_iconst (v := 0) hx hb dX6_clear_6 rfl ?_
  refine x_put (ws' := mW G b nw rd asd img kpt txt 0 abv blw bds nos fls att bgn tkn wrd vlu sts bst) (ty := .int) E hw fw_X6_89 0 rfl rfl rfl (by decide +kernel) rfl rfl (Nat.le_of_ble_eq_true rfl) dX6_clear_7 rfl (fun H locs hw => ?_)
  refine lv_iload_n hx hb dX6_clear_10 rfl (lv_at hl 0 rfl) ?_
  exact x_iret E hA rt hw dX6_clear_11 (rfl) rfl
set_option maxHeartbeats 1000000 in
set_option maxRecDepth 100000 in
theorem c_X6_remember (l : Launch) (G : GG) (b : Nat → Nat) (nw : Nat → Int32) (rd : Nat → Int32) (asd : Nat → Int32) (img : Nat → Int32) (kpt : Nat → Int32) (txt : Nat → Int32) (sz : Int32) (abv : Int64) (blw : Int64) (bds : Int32) (nos : Int32) (fls : Int32) (att : Int32) (bgn : Int32) (tkn : Int32) (wrd : Int64) (vlu : Int32) (sts : Nat → Int32) (bst : Nat → Int32) (n : Nat) (u : Nat) (hu8 : nw 78 = nI u) (hu : u ≤ 8) : CT l G yX6_remember cX6_remember 2 none 1 25 [.ref (b 0)] (mW G b nw rd asd img kpt txt sz abv blw bds nos fls att bgn tkn wrd vlu sts bst) none (mW G b (rmb nw u) rd asd img kpt txt sz abv blw bds nos fls att bgn tkn wrd vlu sts bst) := by
  refine CT.mk (own := RX6) (la := [(0, .ref (b 0))]) (by decide) rfl (Nat.le_of_ble_eq_true rfl) rfl ?_
  intro p e s m args below meth c A Q E hA hw rt ls hl
  have hx := E.1
  have hb := E.2.1
  refine lv_aload_n hx hb dX6_remember_0 rfl (lv_at hl 0 rfl) ?_
  refine x_get E hw fw_X6_7 0 rfl rfl dX6_remember_1 ?_
  refine lv_bipush (v := 78) hx hb dX6_remember_4 rfl ?_
  refine x_iald E hw 1 rfl 78 (rfl) (by omega) (by omega) dX6_remember_6 ?_
  refine lv_bipush (v := 8) hx hb dX6_remember_7 rfl ?_
  refine lv_icmp_ne (tgt := 59) hx hb dX6_remember_9 rfl (fun cq9 => ?_) (fun cq9 => ?_)
  · skip
    have cq9 : ¬ u = 8 := fun h => cq9 ((cv_eq (a := u) (b := 8) hu8 rfl (by omega) (by omega)).mpr h)
    refine lv_aload_n hx hb dX6_remember_59 rfl (lv_at hl 0 rfl) ?_
    refine x_get E hw fw_X6_7 0 rfl rfl dX6_remember_60 ?_
    refine lv_iconst (v := 0) hx hb dX6_remember_63 rfl ?_
    refine lv_aload_n hx hb dX6_remember_64 rfl (lv_at hl 0 rfl) ?_
    refine x_get E hw fw_X6_7 0 rfl rfl dX6_remember_65 ?_
    refine lv_bipush (v := 79) hx hb dX6_remember_68 rfl ?_
    refine lv_bipush (v := 22) hx hb dX6_remember_70 rfl ?_
    refine lv_aload_n hx hb dX6_remember_72 rfl (lv_at hl 0 rfl) ?_
    refine x_get E hw fw_X6_7 0 rfl rfl dX6_remember_73 ?_
    refine lv_bipush (v := 78) hx hb dX6_remember_76 rfl ?_
    refine x_iald E hw 1 rfl 78 (rfl) (by omega) (by omega) dX6_remember_78 ?_
    refine lv_imul hx hb dX6_remember_79 ?_
    refine lv_iadd hx hb dX6_remember_80 ?_
    refine lv_bipush (v := 22) hx hb dX6_remember_81 rfl ?_
    refine x_callS (is := [1]) (As := [.ref (b 1), .int 0, .ref (b 1), .int (79 + (22 * (nw 78))), .int 22]) (rest := []) (st1 := []) (ws' := mW G b (va_cpy nw nw 0 (79 + (22 * u)) 22) rd asd img kpt txt sz abv blw bds nos fls att bgn tkn wrd vlu sts bst) E (c_copiesS l G (b 1) 0 0 (rfl) (79 + (22 * (nw 78))) (79 + (22 * u)) ((ix_add (a := 79) (b := 22 * u) rfl (ix_mul (a := 22) (b := u) rfl hu8))) 22 22 (rfl) nw 255 (by omega) (by omega) (by omega) (by omega)) sw_X6_152 hw [1] rfl rfl rfl rfl hl.1 rfl rfl (Nat.le_of_ble_eq_true rfl) ⟨Nat.le_of_ble_eq_true rfl, Nat.le_of_ble_eq_true rfl⟩ (Nat.zero_le _) (Nat.zero_le _) dX6_remember_83 rfl rfl (fun H locs hw => ?_)
    refine lv_aload_n hx hb dX6_remember_86 rfl (lv_at hl 0 rfl) ?_
    refine x_get E hw fw_X6_7 0 rfl rfl dX6_remember_87 ?_
    refine lv_bipush (v := 78) hx hb dX6_remember_90 rfl ?_
    refine lv_dup2_11 hx hb dX6_remember_92 rfl rfl ?_
    refine x_iald E hw 1 rfl 78 (rfl) (by omega) (by omega) dX6_remember_93 ?_
    refine lv_iconst (v := 1) hx hb dX6_remember_94 rfl ?_
    refine lv_iadd hx hb dX6_remember_95 ?_
    refine x_topi (y := nI (u + 1)) (by rw [pk_cpy_out (by omega), hu8]; exact nI_add u 1) ?_
    refine x_iast (ws' := mW G b (upd (va_cpy nw nw 0 (79 + (22 * u)) 22) 78 (nI (u + 1))) rd asd img kpt txt sz abv blw bds nos fls att bgn tkn wrd vlu sts bst) E hw 1 rfl 78 (rfl) (by omega) (by omega) dX6_remember_96 rfl (fun H locs hw => ?_)
    exact x_vret E hA rt hw dX6_remember_97 (by simp [rmb, rmF, cq9])
  · skip
    have cq9 : u = 8 := (cv_eq (a := u) (b := 8) hu8 rfl (by omega) (by omega)).mp cq9
    refine lv_iconst (v := 0) hx hb dX6_remember_12 rfl ?_
    refine lv_istore_n (lv' := [(1, .int 0), (0, .ref (b 0))]) hx hb dX6_remember_13 rfl hl (by decide) rfl (fun ls hl => ?_)
    have lp14 : ∀ (fuel : Nat), ∀ (k : Nat) (t : Nat → Int32) (hk : k ≤ 154) (ht : t = shf nw k), (154 - k) < fuel → ∀ (H : Heap) (locs : List Loc) (ls : Array Slot), Wd G A s H locs (mW G b t rd asd img kpt txt sz abv blw bds nos fls att bgn tkn wrd vlu sts bst) → lv_has ls 2 [(0, .ref (b 0)), (1, .int (nI k))] → W p l e (rmx 1 25) s m args below meth c H locs 0 0 Q (F0 m 14 ls []) := by
      intro fuel
      induction fuel with
      | zero => intro k t hk ht hfu; exact absurd hfu (Nat.not_lt_zero _)
      | succ fuel ih14 =>
        intro k t hk ht hfu H locs ls hw hl
        refine lv_iload_n hx hb dX6_remember_14 rfl (lv_at hl 1 rfl) ?_
        refine lv_sipush (v := 154) hx hb dX6_remember_15 rfl ?_
        refine lv_icmp_ge (tgt := 48) hx hb dX6_remember_18 rfl (fun cq18 => ?_) (fun cq18 => ?_)
        · skip
          have cq18 : 154 ≤ k := (cv_le (a := 154) (b := k) rfl rfl (by omega) (by omega)).mp cq18
          have ek : k = 154 := by omega
          rw [ht, ek] at hw
          refine lv_aload_n hx hb dX6_remember_48 rfl (lv_at hl 0 rfl) ?_
          refine x_get E hw fw_X6_7 0 rfl rfl dX6_remember_49 ?_
          refine lv_bipush (v := 78) hx hb dX6_remember_52 rfl ?_
          refine lv_dup2_11 hx hb dX6_remember_54 rfl rfl ?_
          refine x_iald E hw 1 rfl 78 (rfl) (by omega) (by omega) dX6_remember_55 ?_
          refine lv_iconst (v := 1) hx hb dX6_remember_56 rfl ?_
          refine lv_isub hx hb dX6_remember_57 ?_
          refine x_topi (y := nI 7) (by rw [shf_out (by omega), hu8, cq9]; rfl) ?_
          refine x_iast (ws' := mW G b (upd (shf nw 154) 78 (nI 7)) rd asd img kpt txt sz abv blw bds nos fls att bgn tkn wrd vlu sts bst) E hw 1 rfl 78 (rfl) (by omega) (by omega) dX6_remember_58 rfl (fun H locs hw => ?_)
          refine lv_aload_n hx hb dX6_remember_59 rfl (lv_at hl 0 rfl) ?_
          refine x_get E hw fw_X6_7 0 rfl rfl dX6_remember_60 ?_
          refine lv_iconst (v := 0) hx hb dX6_remember_63 rfl ?_
          refine lv_aload_n hx hb dX6_remember_64 rfl (lv_at hl 0 rfl) ?_
          refine x_get E hw fw_X6_7 0 rfl rfl dX6_remember_65 ?_
          refine lv_bipush (v := 79) hx hb dX6_remember_68 rfl ?_
          refine lv_bipush (v := 22) hx hb dX6_remember_70 rfl ?_
          refine lv_aload_n hx hb dX6_remember_72 rfl (lv_at hl 0 rfl) ?_
          refine x_get E hw fw_X6_7 0 rfl rfl dX6_remember_73 ?_
          refine lv_bipush (v := 78) hx hb dX6_remember_76 rfl ?_
          refine x_iald E hw 1 rfl 78 (rfl) (by omega) (by omega) dX6_remember_78 ?_
          refine lv_imul hx hb dX6_remember_79 ?_
          refine lv_iadd hx hb dX6_remember_80 ?_
          refine lv_bipush (v := 22) hx hb dX6_remember_81 rfl ?_
          refine x_callS (is := [1]) (As := [.ref (b 1), .int 0, .ref (b 1), .int (79 + (22 * ((upd (shf nw 154) 78 (nI 7)) 78))), .int 22]) (rest := []) (st1 := []) (ws' := mW G b (va_cpy (upd (shf nw 154) 78 (nI 7)) (upd (shf nw 154) 78 (nI 7)) 0 (79 + (22 * 7)) 22) rd asd img kpt txt sz abv blw bds nos fls att bgn tkn wrd vlu sts bst) E (c_copiesS l G (b 1) 0 0 (rfl) (79 + (22 * ((upd (shf nw 154) 78 (nI 7)) 78))) (79 + (22 * 7)) ((ix_add (a := 79) (b := 22 * 7) rfl (ix_mul (a := 22) (b := 7) rfl (upd_at _ _ _)))) 22 22 (rfl) (upd (shf nw 154) 78 (nI 7)) 255 (by omega) (by omega) (by omega) (by omega)) sw_X6_152 hw [1] rfl rfl rfl rfl hl.1 rfl rfl (Nat.le_of_ble_eq_true rfl) ⟨Nat.le_of_ble_eq_true rfl, Nat.le_of_ble_eq_true rfl⟩ (Nat.zero_le _) (Nat.zero_le _) dX6_remember_83 rfl rfl (fun H locs hw => ?_)
          refine lv_aload_n hx hb dX6_remember_86 rfl (lv_at hl 0 rfl) ?_
          refine x_get E hw fw_X6_7 0 rfl rfl dX6_remember_87 ?_
          refine lv_bipush (v := 78) hx hb dX6_remember_90 rfl ?_
          refine lv_dup2_11 hx hb dX6_remember_92 rfl rfl ?_
          refine x_iald E hw 1 rfl 78 (rfl) (by omega) (by omega) dX6_remember_93 ?_
          refine lv_iconst (v := 1) hx hb dX6_remember_94 rfl ?_
          refine lv_iadd hx hb dX6_remember_95 ?_
          refine x_topi (y := nI 8) (by rw [pk_cpy_out (by omega), upd_at]; rfl) ?_
          refine x_iast (ws' := mW G b (upd (va_cpy (upd (shf nw 154) 78 (nI 7)) (upd (shf nw 154) 78 (nI 7)) 0 (79 + (22 * 7)) 22) 78 (nI 8)) rd asd img kpt txt sz abv blw bds nos fls att bgn tkn wrd vlu sts bst) E hw 1 rfl 78 (rfl) (by omega) (by omega) dX6_remember_96 rfl (fun H locs hw => ?_)
          exact x_vret E hA rt hw dX6_remember_97 (by simp [rmb, rmF, cq9])
        · skip
          have cq18 : ¬ 154 ≤ k := fun h => cq18 ((cv_le (a := 154) (b := k) rfl rfl (by omega) (by omega)).mpr h)
          refine lv_aload_n hx hb dX6_remember_21 rfl (lv_at hl 0 rfl) ?_
          refine x_get E hw fw_X6_7 0 rfl rfl dX6_remember_22 ?_
          refine lv_bipush (v := 79) hx hb dX6_remember_25 rfl ?_
          refine lv_iload_n hx hb dX6_remember_27 rfl (lv_at hl 1 rfl) ?_
          refine lv_iadd hx hb dX6_remember_28 ?_
          refine lv_aload_n hx hb dX6_remember_29 rfl (lv_at hl 0 rfl) ?_
          refine x_get E hw fw_X6_7 0 rfl rfl dX6_remember_30 ?_
          refine lv_bipush (v := 79) hx hb dX6_remember_33 rfl ?_
          refine lv_iload_n hx hb dX6_remember_35 rfl (lv_at hl 1 rfl) ?_
          refine lv_iadd hx hb dX6_remember_36 ?_
          refine lv_bipush (v := 22) hx hb dX6_remember_37 rfl ?_
          refine lv_iadd hx hb dX6_remember_39 ?_
          refine x_iald E hw 1 rfl ((79 + k) + 22) ((ix_add (a := 79 + k) (b := 22) (ix_add (a := 79) (b := k) rfl rfl) rfl)) (by omega) (by omega) dX6_remember_40 ?_
          refine x_iast (ws' := mW G b (upd t (79 + k) (t ((79 + k) + 22))) rd asd img kpt txt sz abv blw bds nos fls att bgn tkn wrd vlu sts bst) E hw 1 rfl (79 + k) ((ix_add (a := 79) (b := k) rfl rfl)) (by omega) (by omega) dX6_remember_41 rfl (fun H locs hw => ?_)
          refine lv_iinc (v := nI (k + 1)) (lv' := [(1, .int (nI (k + 1))), (0, .ref (b 0))]) hx hb dX6_remember_42 hl (k := 1) rfl (nI_add _ 1) (by decide) rfl (fun ls hl => ?_)
          refine lv_goto (tgt := 14) hx hb dX6_remember_45 rfl ?_
          exact ih14 (k + 1) (upd t (79 + k) (t ((79 + k) + 22))) (by omega) (by rw [ht, shf_step]) (by omega) _ _ _ hw (lv_sub hl [1, 0] rfl)
    exact lp14 (154 - 0 + 1) 0 nw (by omega) ((shf_0 _).symm) (by omega) _ _ _ hw (lv_sub hl [1, 0] rfl)
set_option maxHeartbeats 1000000 in
set_option maxRecDepth 100000 in
theorem c_X6_minute (l : Launch) (G : GG) (b : Nat → Nat) (x : Int32) (nw : Nat → Int32) (rd : Nat → Int32) (asd : Nat → Int32) (img : Nat → Int32) (kpt : Nat → Int32) (txt : Nat → Int32) (sz : Int32) (abv : Int64) (blw : Int64) (bds : Int32) (nos : Int32) (fls : Int32) (att : Int32) (bgn : Int32) (tkn : Int32) (wrd : Int64) (vlu : Int32) (sts : Nat → Int32) (bst : Nat → Int32) (n : Nat) (u : Nat) (hc : nw 22 = nI n) (hn : n ≤ 6) (hu8 : nw 78 = nI u) (hu : u ≤ 8) : CT l G yX6_minute cX6_minute 4 (some .int) 6 134 [.ref (b 0), .int x] (mW G b nw rd asd img kpt txt sz abv blw bds nos fls att bgn tkn wrd vlu sts bst) (some (.int (if inI x 1 60 then (mnL n x.toNatClampNeg (rmb nw u)) 18 - (rmb nw u) 18 else -2))) (mW G b (if inI x 1 60 then mnL n x.toNatClampNeg (rmb nw u) else nw) rd asd img kpt txt sz abv blw (if inI x 1 60 then bds else bds + 1) nos fls att bgn tkn wrd vlu sts bst) := by
  refine CT.mk (own := RX6) (la := [(0, .ref (b 0)), (1, .int x)]) (by decide) rfl (Nat.le_of_ble_eq_true rfl) rfl ?_
  intro p e s m args below meth c A Q E hA hw rt ls hl
  have hx := E.1
  have hb := E.2.1
  refine lv_iload_n hx hb dX6_minute_0 rfl (lv_at hl 1 rfl) ?_
  refine lv_i2l (v := x.toInt64) hx hb dX6_minute_1 rfl ?_
  refine lv_lconst (v := 1) hx hb dX6_minute_2 rfl ?_
  refine lv_ldc2 hx hb E.2.2.2.1 (E.2.2.2.2.2.2.w kc_X6_188) dX6_minute_3 ?_
  refine x_callS (is := []) (As := [.long x.toInt64, .long 1, .long 60]) (rest := []) (st1 := [.int (bI (inL x.toInt64 1 60))]) (ws' := mW G b nw rd asd img kpt txt sz abv blw bds nos fls att bgn tkn wrd vlu sts bst) E (c_X6_in l G x.toInt64 1 60) sw_X6_55 hw [] rfl rfl rfl rfl hl.1 rfl rfl (Nat.le_of_ble_eq_true rfl) ⟨Nat.le_of_ble_eq_true rfl, Nat.le_of_ble_eq_true rfl⟩ (Nat.zero_le _) (Nat.zero_le _) dX6_minute_6 rfl rfl (fun H locs hw => ?_)
  refine x_topi (y := bI (inI x 1 60)) (congrArg bI (inL_I x 1 60 rfl rfl)) ?_
  refine lv_if_ne (tgt := 17) hx hb dX6_minute_9 rfl (fun cq9 => ?_) (fun cq9 => ?_)
  · skip
    have cq9 := bI_n0.mp cq9
    obtain ⟨mm, hm1, hm2, em⟩ := inI_nat (a := 1) (b := 60) (by omega) (by omega) rfl rfl cq9
    have exm : x.toNatClampNeg = mm := by rw [em, nI_clamp (by omega)]
    refine lv_aload_n hx hb dX6_minute_17 rfl (lv_at hl 0 rfl) ?_
    refine x_callV (is := [0, 1, 2, 3, 4, 5, 6, 7, 8]) (q0 := 0) (As := []) (rest := []) (st1 := []) (ws' := mW G b (rmb nw u) rd asd img kpt txt sz abv blw bds nos fls att bgn tkn wrd vlu sts bst) E (c_X6_remember l G b nw rd asd img kpt txt sz abv blw bds nos fls att bgn tkn wrd vlu sts bst n u (hu8) (by omega)) vw_X6_190 hw [0, 1, 2, 3, 4, 5, 6, 7, 8] rfl rfl rfl rfl rfl rfl rfl hl.1 rfl rfl (Nat.le_of_ble_eq_true rfl) ⟨Nat.le_of_ble_eq_true rfl, Nat.le_of_ble_eq_true rfl⟩ (Nat.zero_le _) (Nat.zero_le _) dX6_minute_18 rfl rfl (fun H locs hw => ?_)
    refine lv_aload_n hx hb dX6_minute_21 rfl (lv_at hl 0 rfl) ?_
    refine x_get E hw fw_X6_7 0 rfl rfl dX6_minute_22 ?_
    refine lv_bipush (v := 18) hx hb dX6_minute_25 rfl ?_
    refine x_iald E hw 1 rfl 18 (rfl) (by omega) (by omega) dX6_minute_27 ?_
    refine lv_istore_n (lv' := [(2, .int ((rmb nw u) 18)), (0, .ref (b 0)), (1, .int x)]) hx hb dX6_minute_28 rfl hl (by decide) rfl (fun ls hl => ?_)
    refine lv_iconst (v := 0) hx hb dX6_minute_29 rfl ?_
    refine lv_istore_n (lv' := [(3, .int 0), (2, .int ((rmb nw u) 18)), (0, .ref (b 0)), (1, .int x)]) hx hb dX6_minute_30 rfl hl (by decide) rfl (fun ls hl => ?_)
    have lp31 : ∀ (fuel : Nat), ∀ (k : Nat) (t : Nat → Int32) (hk : k ≤ mm) (ht : mnL n mm (rmb nw u) = mnL n (mm - k) t) (h22 : t 22 = nI n), (mm - k) < fuel → ∀ (H : Heap) (locs : List Loc) (ls : Array Slot), Wd G A s H locs (mW G b t rd asd img kpt txt sz abv blw bds nos fls att bgn tkn wrd vlu sts bst) → lv_has ls 4 [(0, .ref (b 0)), (1, .int x), (2, .int ((rmb nw u) 18)), (3, .int (nI k))] → W p l e (rmx 6 134) s m args below meth c H locs 0 0 Q (F0 m 31 ls []) := by
      intro fuel
      induction fuel with
      | zero => intro k t hk ht h22 hfu; exact absurd hfu (Nat.not_lt_zero _)
      | succ fuel ih31 =>
        intro k t hk ht h22 hfu H locs ls hw hl
        refine lv_iload_n hx hb dX6_minute_31 rfl (lv_at hl 3 rfl) ?_
        refine lv_iload_n hx hb dX6_minute_32 rfl (lv_at hl 1 rfl) ?_
        refine lv_icmp_ge (tgt := 62) hx hb dX6_minute_33 rfl (fun cq33 => ?_) (fun cq33 => ?_)
        · skip
          have cq33 : mm ≤ k := (cv_le (a := mm) (b := k) em rfl (by omega) (by omega)).mp cq33
          refine lv_aload_n hx hb dX6_minute_62 rfl (lv_at hl 0 rfl) ?_
          refine x_get E hw fw_X6_7 0 rfl rfl dX6_minute_63 ?_
          refine lv_bipush (v := 18) hx hb dX6_minute_66 rfl ?_
          refine x_iald E hw 1 rfl 18 (rfl) (by omega) (by omega) dX6_minute_68 ?_
          refine lv_iload_n hx hb dX6_minute_69 rfl (lv_at hl 2 rfl) ?_
          refine lv_isub hx hb dX6_minute_70 ?_
          exact x_iret E hA rt hw dX6_minute_71 (by rw [if_pos cq9, exm, ht, mnL_end (by omega)]) (by rw [if_pos cq9, if_pos cq9, exm, ht, mnL_end (by omega)])
        · skip
          have cq33 : ¬ mm ≤ k := fun h => cq33 ((cv_le (a := mm) (b := k) em rfl (by omega) (by omega)).mpr h)
          refine lv_aload_n hx hb dX6_minute_36 rfl (lv_at hl 0 rfl) ?_
          refine x_get E hw fw_X6_7 0 rfl rfl dX6_minute_37 ?_
          refine lv_bipush (v := 21) hx hb dX6_minute_40 rfl ?_
          refine x_iald E hw 1 rfl 21 (rfl) (by omega) (by omega) dX6_minute_42 ?_
          refine lv_sipush (v := 999) hx hb dX6_minute_43 rfl ?_
          refine lv_icmp_ge (tgt := 62) hx hb dX6_minute_46 rfl (fun cq46 => ?_) (fun cq46 => ?_)
          · skip
            refine lv_aload_n hx hb dX6_minute_62 rfl (lv_at hl 0 rfl) ?_
            refine x_get E hw fw_X6_7 0 rfl rfl dX6_minute_63 ?_
            refine lv_bipush (v := 18) hx hb dX6_minute_66 rfl ?_
            refine x_iald E hw 1 rfl 18 (rfl) (by omega) (by omega) dX6_minute_68 ?_
            refine lv_iload_n hx hb dX6_minute_69 rfl (lv_at hl 2 rfl) ?_
            refine lv_isub hx hb dX6_minute_70 ?_
            exact x_iret E hA rt hw dX6_minute_71 (by rw [if_pos cq9, exm, ht, mnL_999 cq46]) (by rw [if_pos cq9, if_pos cq9, exm, ht, mnL_999 cq46])
          · skip
            refine lv_aload_n hx hb dX6_minute_49 rfl (lv_at hl 0 rfl) ?_
            refine x_get E hw fw_X6_7 0 rfl rfl dX6_minute_50 ?_
            refine x_callS (is := [1]) (As := [.ref (b 1)]) (rest := []) (st1 := []) (ws' := mW G b (goM t n) rd asd img kpt txt sz abv blw bds nos fls att bgn tkn wrd vlu sts bst) E (c_X6_goes l G (b 1) t 255 n (by omega) (by omega) (h22) (by omega)) sw_X6_193 hw [1] rfl rfl rfl rfl hl.1 rfl rfl (Nat.le_of_ble_eq_true rfl) ⟨Nat.le_of_ble_eq_true rfl, Nat.le_of_ble_eq_true rfl⟩ (Nat.zero_le _) (Nat.zero_le _) dX6_minute_53 rfl rfl (fun H locs hw => ?_)
            refine lv_iinc (v := nI (k + 1)) (lv' := [(3, .int (nI (k + 1))), (0, .ref (b 0)), (1, .int x), (2, .int ((rmb nw u) 18))]) hx hb dX6_minute_56 hl (k := 3) rfl (nI_add _ 1) (by decide) rfl (fun ls hl => ?_)
            refine lv_goto (tgt := 31) hx hb dX6_minute_59 rfl ?_
            exact ih31 (k + 1) (goM t n) (by omega) (by rw [ht, mnL_step (by omega) cq46]) (by rw [goM_out hn (by omega)]; exact h22) (by omega) _ _ _ hw (lv_sub hl [1, 2, 3, 0] rfl)
    exact lp31 (mm - 0 + 1) 0 (rmb nw u) (by omega) (rfl) (by rw [rmb_lo (by omega)]; exact hc) (by omega) _ _ _ hw (lv_sub hl [2, 3, 1, 0] rfl)
  · skip
    have cq9 := bI_0.mp cq9
    refine lv_aload_n hx hb dX6_minute_12 rfl (lv_at hl 0 rfl) ?_
    refine x_callV (is := [0, 1, 2, 3, 4, 5, 6, 7, 8]) (q0 := 0) (As := []) (rest := []) (st1 := [.int (-2)]) (ws' := mW G b nw rd asd img kpt txt sz abv blw (bds + 1) nos fls att bgn tkn wrd vlu sts bst) E (c_X6_bad l G b nw rd asd img kpt txt sz abv blw bds nos fls att bgn tkn wrd vlu sts bst) vw_X6_63 hw [0, 1, 2, 3, 4, 5, 6, 7, 8] rfl rfl rfl rfl rfl rfl rfl hl.1 rfl rfl (Nat.le_of_ble_eq_true rfl) ⟨Nat.le_of_ble_eq_true rfl, Nat.le_of_ble_eq_true rfl⟩ (Nat.zero_le _) (Nat.zero_le _) dX6_minute_13 rfl rfl (fun H locs hw => ?_)
    exact x_iret E hA rt hw dX6_minute_16 (by simp [cq9]) (by simp [cq9])
set_option maxHeartbeats 1000000 in
set_option maxRecDepth 100000 in
theorem c_X6_carrot (l : Launch) (G : GG) (b : Nat → Nat) (x : Int32) (nw : Nat → Int32) (rd : Nat → Int32) (asd : Nat → Int32) (img : Nat → Int32) (kpt : Nat → Int32) (txt : Nat → Int32) (sz : Int32) (abv : Int64) (blw : Int64) (bds : Int32) (nos : Int32) (fls : Int32) (att : Int32) (bgn : Int32) (tkn : Int32) (wrd : Int64) (vlu : Int32) (sts : Nat → Int32) (bst : Nat → Int32) (n : Nat) (u : Nat) (hc : nw 22 = nI n) (hn : n ≤ 6) (hu8 : nw 78 = nI u) (hu : u ≤ 8) : CT l G yX6_carrot cX6_carrot 2 (some .int) 2 46 [.ref (b 0), .int x] (mW G b nw rd asd img kpt txt sz abv blw bds nos fls att bgn tkn wrd vlu sts bst) (some (.int (if inI x 0 (nw 22 - 1) then lsr ((rmb nw u) (6 + x.toNatClampNeg)) 10 else -2))) (mW G b (if inI x 0 (nw 22 - 1) then upd (rmb nw u) (6 + x.toNatClampNeg) (lsr ((rmb nw u) (6 + x.toNatClampNeg)) 10) else nw) rd asd img kpt txt sz abv blw (if inI x 0 (nw 22 - 1) then bds else bds + 1) nos fls att bgn tkn wrd vlu sts bst) := by
  refine CT.mk (own := RX6) (la := [(0, .ref (b 0)), (1, .int x)]) (by decide) rfl (Nat.le_of_ble_eq_true rfl) rfl ?_
  intro p e s m args below meth c A Q E hA hw rt ls hl
  have hx := E.1
  have hb := E.2.1
  refine lv_aload_n hx hb dX6_carrot_0 rfl (lv_at hl 0 rfl) ?_
  refine lv_iload_n hx hb dX6_carrot_1 rfl (lv_at hl 1 rfl) ?_
  refine x_callV (is := [0, 1, 2, 3, 4, 5, 6, 7, 8]) (q0 := 0) (As := [.int x]) (rest := []) (st1 := [.int (bI (inI x 0 (nw 22 - 1)))]) (ws' := mW G b nw rd asd img kpt txt sz abv blw bds nos fls att bgn tkn wrd vlu sts bst) E (c_X6_isChild l G b x nw rd asd img kpt txt sz abv blw bds nos fls att bgn tkn wrd vlu sts bst) vw_X6_197 hw [0, 1, 2, 3, 4, 5, 6, 7, 8] rfl rfl rfl rfl rfl rfl rfl hl.1 rfl rfl (Nat.le_of_ble_eq_true rfl) ⟨Nat.le_of_ble_eq_true rfl, Nat.le_of_ble_eq_true rfl⟩ (Nat.zero_le _) (Nat.zero_le _) dX6_carrot_2 rfl rfl (fun H locs hw => ?_)
  refine lv_if_ne (tgt := 13) hx hb dX6_carrot_5 rfl (fun cq5 => ?_) (fun cq5 => ?_)
  · skip
    have cq5 := bI_n0.mp cq5
    obtain ⟨k, hk, ek⟩ := inI_child hc hn cq5
    have exk : x.toNatClampNeg = k := by rw [ek, nI_clamp (by omega)]
    refine lv_aload_n hx hb dX6_carrot_13 rfl (lv_at hl 0 rfl) ?_
    refine x_callV (is := [0, 1, 2, 3, 4, 5, 6, 7, 8]) (q0 := 0) (As := []) (rest := []) (st1 := []) (ws' := mW G b (rmb nw u) rd asd img kpt txt sz abv blw bds nos fls att bgn tkn wrd vlu sts bst) E (c_X6_remember l G b nw rd asd img kpt txt sz abv blw bds nos fls att bgn tkn wrd vlu sts bst n u (hu8) (by omega)) vw_X6_190 hw [0, 1, 2, 3, 4, 5, 6, 7, 8] rfl rfl rfl rfl rfl rfl rfl hl.1 rfl rfl (Nat.le_of_ble_eq_true rfl) ⟨Nat.le_of_ble_eq_true rfl, Nat.le_of_ble_eq_true rfl⟩ (Nat.zero_le _) (Nat.zero_le _) dX6_carrot_14 rfl rfl (fun H locs hw => ?_)
    refine lv_aload_n hx hb dX6_carrot_17 rfl (lv_at hl 0 rfl) ?_
    refine x_get E hw fw_X6_7 0 rfl rfl dX6_carrot_18 ?_
    refine lv_bipush (v := 6) hx hb dX6_carrot_21 rfl ?_
    refine lv_iload_n hx hb dX6_carrot_23 rfl (lv_at hl 1 rfl) ?_
    refine lv_iadd hx hb dX6_carrot_24 ?_
    refine lv_aload_n hx hb dX6_carrot_25 rfl (lv_at hl 0 rfl) ?_
    refine x_get E hw fw_X6_7 0 rfl rfl dX6_carrot_26 ?_
    refine lv_bipush (v := 6) hx hb dX6_carrot_29 rfl ?_
    refine lv_iload_n hx hb dX6_carrot_31 rfl (lv_at hl 1 rfl) ?_
    refine lv_iadd hx hb dX6_carrot_32 ?_
    refine x_iald E hw 1 rfl (6 + k) ((ix_add (a := 6) (b := k) rfl ek)) (by omega) (by omega) dX6_carrot_33 ?_
    refine lv_bipush (v := 10) hx hb dX6_carrot_34 rfl ?_
    refine x_callS (is := []) (As := [.int ((rmb nw u) (6 + k)), .int 10]) (rest := [.int (6 + x), .ref (b 1)]) (st1 := [.int (lsr ((rmb nw u) (6 + k)) 10), .int (6 + x), .ref (b 1)]) (ws' := mW G b (rmb nw u) rd asd img kpt txt sz abv blw bds nos fls att bgn tkn wrd vlu sts bst) E (c_X6_lesser l G ((rmb nw u) (6 + k)) 10) sw_X6_128 hw [] rfl rfl rfl rfl hl.1 rfl rfl (Nat.le_of_ble_eq_true rfl) ⟨Nat.le_of_ble_eq_true rfl, Nat.le_of_ble_eq_true rfl⟩ (Nat.zero_le _) (Nat.zero_le _) dX6_carrot_36 rfl rfl (fun H locs hw => ?_)
    refine x_iast (ws' := mW G b (upd (rmb nw u) (6 + k) (lsr ((rmb nw u) (6 + k)) 10)) rd asd img kpt txt sz abv blw bds nos fls att bgn tkn wrd vlu sts bst) E hw 1 rfl (6 + k) ((ix_add (a := 6) (b := k) rfl ek)) (by omega) (by omega) dX6_carrot_39 rfl (fun H locs hw => ?_)
    refine lv_aload_n hx hb dX6_carrot_40 rfl (lv_at hl 0 rfl) ?_
    refine x_get E hw fw_X6_7 0 rfl rfl dX6_carrot_41 ?_
    refine lv_bipush (v := 6) hx hb dX6_carrot_44 rfl ?_
    refine lv_iload_n hx hb dX6_carrot_46 rfl (lv_at hl 1 rfl) ?_
    refine lv_iadd hx hb dX6_carrot_47 ?_
    refine x_iald E hw 1 rfl (6 + k) ((ix_add (a := 6) (b := k) rfl ek)) (by omega) (by omega) dX6_carrot_48 ?_
    exact x_iret E hA rt hw dX6_carrot_49 (by rw [if_pos cq5, exk, upd_at]) (by simp [cq5, exk])
  · skip
    have cq5 := bI_0.mp cq5
    refine lv_aload_n hx hb dX6_carrot_8 rfl (lv_at hl 0 rfl) ?_
    refine x_callV (is := [0, 1, 2, 3, 4, 5, 6, 7, 8]) (q0 := 0) (As := []) (rest := []) (st1 := [.int (-2)]) (ws' := mW G b nw rd asd img kpt txt sz abv blw (bds + 1) nos fls att bgn tkn wrd vlu sts bst) E (c_X6_bad l G b nw rd asd img kpt txt sz abv blw bds nos fls att bgn tkn wrd vlu sts bst) vw_X6_63 hw [0, 1, 2, 3, 4, 5, 6, 7, 8] rfl rfl rfl rfl rfl rfl rfl hl.1 rfl rfl (Nat.le_of_ble_eq_true rfl) ⟨Nat.le_of_ble_eq_true rfl, Nat.le_of_ble_eq_true rfl⟩ (Nat.zero_le _) (Nat.zero_le _) dX6_carrot_9 rfl rfl (fun H locs hw => ?_)
    exact x_iret E hA rt hw dX6_carrot_12 (by simp [cq5]) (by simp [cq5])
set_option maxHeartbeats 1000000 in
set_option maxRecDepth 100000 in
theorem c_X6_moves (l : Launch) (G : GG) (b : Nat → Nat) (x : Int32) (y : Int32) (nw : Nat → Int32) (rd : Nat → Int32) (asd : Nat → Int32) (img : Nat → Int32) (kpt : Nat → Int32) (txt : Nat → Int32) (sz : Int32) (abv : Int64) (blw : Int64) (bds : Int32) (nos : Int32) (fls : Int32) (att : Int32) (bgn : Int32) (tkn : Int32) (wrd : Int64) (vlu : Int32) (sts : Nat → Int32) (bst : Nat → Int32) (n : Nat) (u : Nat) (hc : nw 22 = nI n) (hn : n ≤ 6) (hu8 : nw 78 = nI u) (hu : u ≤ 8) : CT l G yX6_moves cX6_moves 5 (some .int) 2 46 [.ref (b 0), .int x, .int y] (mW G b nw rd asd img kpt txt sz abv blw bds nos fls att bgn tkn wrd vlu sts bst) (some (.int (if inI x 0 (nw 22 - 1) = true ∧ inI y 0 7 = true then (if (¬ fi nw y n 0 = -1 ∧ ¬ fi nw y n 0 = x) then -3 else (rmb nw u) x.toNatClampNeg) else -2))) (mW G b (if (inI x 0 (nw 22 - 1) = true ∧ inI y 0 7 = true) ∧ ¬ (¬ fi nw y n 0 = -1 ∧ ¬ fi nw y n 0 = x) then upd (rmb nw u) x.toNatClampNeg y else nw) rd asd img kpt txt sz abv blw (if inI x 0 (nw 22 - 1) = true ∧ inI y 0 7 = true then bds else bds + 1) (if (inI x 0 (nw 22 - 1) = true ∧ inI y 0 7 = true) ∧ (¬ fi nw y n 0 = -1 ∧ ¬ fi nw y n 0 = x) then nos + 1 else nos) fls att bgn tkn wrd vlu sts bst) := by
  refine CT.mk (own := RX6) (la := [(0, .ref (b 0)), (1, .int x), (2, .int y)]) (by decide) rfl (Nat.le_of_ble_eq_true rfl) rfl ?_
  intro p e s m args below meth c A Q E hA hw rt ls hl
  have hx := E.1
  have hb := E.2.1
  refine lv_aload_n hx hb dX6_moves_0 rfl (lv_at hl 0 rfl) ?_
  refine lv_iload_n hx hb dX6_moves_1 rfl (lv_at hl 1 rfl) ?_
  refine x_callV (is := [0, 1, 2, 3, 4, 5, 6, 7, 8]) (q0 := 0) (As := [.int x]) (rest := []) (st1 := [.int (bI (inI x 0 (nw 22 - 1)))]) (ws' := mW G b nw rd asd img kpt txt sz abv blw bds nos fls att bgn tkn wrd vlu sts bst) E (c_X6_isChild l G b x nw rd asd img kpt txt sz abv blw bds nos fls att bgn tkn wrd vlu sts bst) vw_X6_197 hw [0, 1, 2, 3, 4, 5, 6, 7, 8] rfl rfl rfl rfl rfl rfl rfl hl.1 rfl rfl (Nat.le_of_ble_eq_true rfl) ⟨Nat.le_of_ble_eq_true rfl, Nat.le_of_ble_eq_true rfl⟩ (Nat.zero_le _) (Nat.zero_le _) dX6_moves_2 rfl rfl (fun H locs hw => ?_)
  refine lv_if_eq (tgt := 15) hx hb dX6_moves_5 rfl (fun cq5 => ?_) (fun cq5 => ?_)
  · skip
    have cq5 := bI_0.mp cq5
    refine lv_aload_n hx hb dX6_moves_15 rfl (lv_at hl 0 rfl) ?_
    refine x_callV (is := [0, 1, 2, 3, 4, 5, 6, 7, 8]) (q0 := 0) (As := []) (rest := []) (st1 := [.int (-2)]) (ws' := mW G b nw rd asd img kpt txt sz abv blw (bds + 1) nos fls att bgn tkn wrd vlu sts bst) E (c_X6_bad l G b nw rd asd img kpt txt sz abv blw bds nos fls att bgn tkn wrd vlu sts bst) vw_X6_63 hw [0, 1, 2, 3, 4, 5, 6, 7, 8] rfl rfl rfl rfl rfl rfl rfl hl.1 rfl rfl (Nat.le_of_ble_eq_true rfl) ⟨Nat.le_of_ble_eq_true rfl, Nat.le_of_ble_eq_true rfl⟩ (Nat.zero_le _) (Nat.zero_le _) dX6_moves_16 rfl rfl (fun H locs hw => ?_)
    exact x_iret E hA rt hw dX6_moves_19 (by simp [cq5]) (by simp [cq5])
  · skip
    have cq5 := bI_n0.mp cq5
    obtain ⟨k, hk, ek⟩ := inI_child hc hn cq5
    have exk : x.toNatClampNeg = k := by rw [ek, nI_clamp (by omega)]
    refine lv_iload_n hx hb dX6_moves_8 rfl (lv_at hl 2 rfl) ?_
    refine x_callS (is := []) (As := [.int y]) (rest := []) (st1 := [.int (bI (inI y 0 7))]) (ws' := mW G b nw rd asd img kpt txt sz abv blw bds nos fls att bgn tkn wrd vlu sts bst) E (c_X6_isSeat l G y) sw_X6_59 hw [] rfl rfl rfl rfl hl.1 rfl rfl (Nat.le_of_ble_eq_true rfl) ⟨Nat.le_of_ble_eq_true rfl, Nat.le_of_ble_eq_true rfl⟩ (Nat.zero_le _) (Nat.zero_le _) dX6_moves_9 rfl rfl (fun H locs hw => ?_)
    refine lv_if_ne (tgt := 20) hx hb dX6_moves_12 rfl (fun cq12 => ?_) (fun cq12 => ?_)
    · skip
      have cq12 := bI_n0.mp cq12
      refine lv_aload_n hx hb dX6_moves_20 rfl (lv_at hl 0 rfl) ?_
      refine x_get E hw fw_X6_7 0 rfl rfl dX6_moves_21 ?_
      refine lv_iload_n hx hb dX6_moves_24 rfl (lv_at hl 2 rfl) ?_
      refine x_callS (is := [1]) (As := [.ref (b 1), .int y]) (rest := []) (st1 := [.int (fi nw y n 0)]) (ws' := mW G b nw rd asd img kpt txt sz abv blw bds nos fls att bgn tkn wrd vlu sts bst) E (c_X6_whoIs l G (b 1) y nw 255 n (by omega) (by omega) (hc) (by omega)) sw_X6_73 hw [1] rfl rfl rfl rfl hl.1 rfl rfl (Nat.le_of_ble_eq_true rfl) ⟨Nat.le_of_ble_eq_true rfl, Nat.le_of_ble_eq_true rfl⟩ (Nat.zero_le _) (Nat.zero_le _) dX6_moves_25 rfl rfl (fun H locs hw => ?_)
      refine lv_istore_n (lv' := [(3, .int (fi nw y n 0)), (0, .ref (b 0)), (1, .int x), (2, .int y)]) hx hb dX6_moves_28 rfl hl (by decide) rfl (fun ls hl => ?_)
      refine lv_iload_n hx hb dX6_moves_29 rfl (lv_at hl 0 rfl) ?_
      refine lv_iconst (v := -1) hx hb dX6_moves_30 rfl ?_
      refine lv_icmp_eq (tgt := 44) hx hb dX6_moves_31 rfl (fun cq31 => ?_) (fun cq31 => ?_)
      · skip
        refine lv_aload_n hx hb dX6_moves_44 rfl (lv_at hl 1 rfl) ?_
        refine x_callV (is := [0, 1, 2, 3, 4, 5, 6, 7, 8]) (q0 := 0) (As := []) (rest := []) (st1 := []) (ws' := mW G b (rmb nw u) rd asd img kpt txt sz abv blw bds nos fls att bgn tkn wrd vlu sts bst) E (c_X6_remember l G b nw rd asd img kpt txt sz abv blw bds nos fls att bgn tkn wrd vlu sts bst n u (hu8) (by omega)) vw_X6_190 hw [0, 1, 2, 3, 4, 5, 6, 7, 8] rfl rfl rfl rfl rfl rfl rfl hl.1 rfl rfl (Nat.le_of_ble_eq_true rfl) ⟨Nat.le_of_ble_eq_true rfl, Nat.le_of_ble_eq_true rfl⟩ (Nat.zero_le _) (Nat.zero_le _) dX6_moves_45 rfl rfl (fun H locs hw => ?_)
        refine lv_aload_n hx hb dX6_moves_48 rfl (lv_at hl 1 rfl) ?_
        refine x_get E hw fw_X6_7 0 rfl rfl dX6_moves_49 ?_
        refine lv_iconst (v := 0) hx hb dX6_moves_52 rfl ?_
        refine lv_iload_n hx hb dX6_moves_53 rfl (lv_at hl 2 rfl) ?_
        refine lv_iadd hx hb dX6_moves_54 ?_
        refine x_iald E hw 1 rfl k ((ix_0add (b := k) ek)) (by omega) (by omega) dX6_moves_55 ?_
        refine lv_istore (lv' := [(4, .int ((rmb nw u) k)), (3, .int (fi nw y n 0)), (0, .ref (b 0)), (1, .int x), (2, .int y)]) hx hb dX6_moves_56 hl (by decide) rfl (fun ls hl => ?_)
        refine lv_aload_n hx hb dX6_moves_58 rfl (lv_at hl 2 rfl) ?_
        refine x_get E hw fw_X6_7 0 rfl rfl dX6_moves_59 ?_
        refine lv_iconst (v := 0) hx hb dX6_moves_62 rfl ?_
        refine lv_iload_n hx hb dX6_moves_63 rfl (lv_at hl 3 rfl) ?_
        refine lv_iadd hx hb dX6_moves_64 ?_
        refine lv_iload_n hx hb dX6_moves_65 rfl (lv_at hl 4 rfl) ?_
        refine x_iast (ws' := mW G b (upd (rmb nw u) k y) rd asd img kpt txt sz abv blw bds nos fls att bgn tkn wrd vlu sts bst) E hw 1 rfl k ((ix_0add (b := k) ek)) (by omega) (by omega) dX6_moves_66 rfl (fun H locs hw => ?_)
        refine lv_iload hx hb dX6_moves_67 (lv_at hl 0 rfl) ?_
        exact x_iret E hA rt hw dX6_moves_69 (by simp [cq5, cq12, cq31, exk]) (by simp [cq5, cq12, cq31, exk])
      · skip
        refine lv_iload_n hx hb dX6_moves_34 rfl (lv_at hl 0 rfl) ?_
        refine lv_iload_n hx hb dX6_moves_35 rfl (lv_at hl 2 rfl) ?_
        refine lv_icmp_eq (tgt := 44) hx hb dX6_moves_36 rfl (fun cq36 => ?_) (fun cq36 => ?_)
        · skip
          refine lv_aload_n hx hb dX6_moves_44 rfl (lv_at hl 1 rfl) ?_
          refine x_callV (is := [0, 1, 2, 3, 4, 5, 6, 7, 8]) (q0 := 0) (As := []) (rest := []) (st1 := []) (ws' := mW G b (rmb nw u) rd asd img kpt txt sz abv blw bds nos fls att bgn tkn wrd vlu sts bst) E (c_X6_remember l G b nw rd asd img kpt txt sz abv blw bds nos fls att bgn tkn wrd vlu sts bst n u (hu8) (by omega)) vw_X6_190 hw [0, 1, 2, 3, 4, 5, 6, 7, 8] rfl rfl rfl rfl rfl rfl rfl hl.1 rfl rfl (Nat.le_of_ble_eq_true rfl) ⟨Nat.le_of_ble_eq_true rfl, Nat.le_of_ble_eq_true rfl⟩ (Nat.zero_le _) (Nat.zero_le _) dX6_moves_45 rfl rfl (fun H locs hw => ?_)
          refine lv_aload_n hx hb dX6_moves_48 rfl (lv_at hl 1 rfl) ?_
          refine x_get E hw fw_X6_7 0 rfl rfl dX6_moves_49 ?_
          refine lv_iconst (v := 0) hx hb dX6_moves_52 rfl ?_
          refine lv_iload_n hx hb dX6_moves_53 rfl (lv_at hl 2 rfl) ?_
          refine lv_iadd hx hb dX6_moves_54 ?_
          refine x_iald E hw 1 rfl k ((ix_0add (b := k) ek)) (by omega) (by omega) dX6_moves_55 ?_
          refine lv_istore (lv' := [(4, .int ((rmb nw u) k)), (3, .int (fi nw y n 0)), (0, .ref (b 0)), (1, .int x), (2, .int y)]) hx hb dX6_moves_56 hl (by decide) rfl (fun ls hl => ?_)
          refine lv_aload_n hx hb dX6_moves_58 rfl (lv_at hl 2 rfl) ?_
          refine x_get E hw fw_X6_7 0 rfl rfl dX6_moves_59 ?_
          refine lv_iconst (v := 0) hx hb dX6_moves_62 rfl ?_
          refine lv_iload_n hx hb dX6_moves_63 rfl (lv_at hl 3 rfl) ?_
          refine lv_iadd hx hb dX6_moves_64 ?_
          refine lv_iload_n hx hb dX6_moves_65 rfl (lv_at hl 4 rfl) ?_
          refine x_iast (ws' := mW G b (upd (rmb nw u) k y) rd asd img kpt txt sz abv blw bds nos fls att bgn tkn wrd vlu sts bst) E hw 1 rfl k ((ix_0add (b := k) ek)) (by omega) (by omega) dX6_moves_66 rfl (fun H locs hw => ?_)
          refine lv_iload hx hb dX6_moves_67 (lv_at hl 0 rfl) ?_
          exact x_iret E hA rt hw dX6_moves_69 (by simp [cq5, cq12, cq31, cq36, exk]) (by simp [cq5, cq12, cq31, cq36, exk])
        · skip
          refine lv_aload_n hx hb dX6_moves_39 rfl (lv_at hl 1 rfl) ?_
          refine x_callV (is := [0, 1, 2, 3, 4, 5, 6, 7, 8]) (q0 := 0) (As := []) (rest := []) (st1 := [.int (-3)]) (ws' := mW G b nw rd asd img kpt txt sz abv blw bds (nos + 1) fls att bgn tkn wrd vlu sts bst) E (c_X6_no l G b nw rd asd img kpt txt sz abv blw bds nos fls att bgn tkn wrd vlu sts bst) vw_X6_77 hw [0, 1, 2, 3, 4, 5, 6, 7, 8] rfl rfl rfl rfl rfl rfl rfl hl.1 rfl rfl (Nat.le_of_ble_eq_true rfl) ⟨Nat.le_of_ble_eq_true rfl, Nat.le_of_ble_eq_true rfl⟩ (Nat.zero_le _) (Nat.zero_le _) dX6_moves_40 rfl rfl (fun H locs hw => ?_)
          exact x_iret E hA rt hw dX6_moves_43 (by simp [cq5, cq12, cq31, cq36]) (by simp [cq5, cq12, cq31, cq36, exk])
    · skip
      have cq12 := bI_0.mp cq12
      refine lv_aload_n hx hb dX6_moves_15 rfl (lv_at hl 0 rfl) ?_
      refine x_callV (is := [0, 1, 2, 3, 4, 5, 6, 7, 8]) (q0 := 0) (As := []) (rest := []) (st1 := [.int (-2)]) (ws' := mW G b nw rd asd img kpt txt sz abv blw (bds + 1) nos fls att bgn tkn wrd vlu sts bst) E (c_X6_bad l G b nw rd asd img kpt txt sz abv blw bds nos fls att bgn tkn wrd vlu sts bst) vw_X6_63 hw [0, 1, 2, 3, 4, 5, 6, 7, 8] rfl rfl rfl rfl rfl rfl rfl hl.1 rfl rfl (Nat.le_of_ble_eq_true rfl) ⟨Nat.le_of_ble_eq_true rfl, Nat.le_of_ble_eq_true rfl⟩ (Nat.zero_le _) (Nat.zero_le _) dX6_moves_16 rfl rfl (fun H locs hw => ?_)
      exact x_iret E hA rt hw dX6_moves_19 (by simp [cq5, cq12]) (by simp [cq5, cq12, exk])
set_option maxHeartbeats 1000000 in
set_option maxRecDepth 100000 in
theorem c_X6_woman (l : Launch) (G : GG) (b : Nat → Nat) (x : Int32) (nw : Nat → Int32) (rd : Nat → Int32) (asd : Nat → Int32) (img : Nat → Int32) (kpt : Nat → Int32) (txt : Nat → Int32) (sz : Int32) (abv : Int64) (blw : Int64) (bds : Int32) (nos : Int32) (fls : Int32) (att : Int32) (bgn : Int32) (tkn : Int32) (wrd : Int64) (vlu : Int32) (sts : Nat → Int32) (bst : Nat → Int32) (n : Nat) (u : Nat) (hu8 : nw 78 = nI u) (hu : u ≤ 8) : CT l G yX6_woman cX6_woman 3 (some .int) 2 46 [.ref (b 0), .int x] (mW G b nw rd asd img kpt txt sz abv blw bds nos fls att bgn tkn wrd vlu sts bst) (some (.int (if inI x 0 7 then (rmb nw u) 20 else -2))) (mW G b (if inI x 0 7 then upd (rmb nw u) 20 x else nw) rd asd img kpt txt sz abv blw (if inI x 0 7 then bds else bds + 1) nos fls att bgn tkn wrd vlu sts bst) := by
  refine CT.mk (own := RX6) (la := [(0, .ref (b 0)), (1, .int x)]) (by decide) rfl (Nat.le_of_ble_eq_true rfl) rfl ?_
  intro p e s m args below meth c A Q E hA hw rt ls hl
  have hx := E.1
  have hb := E.2.1
  refine lv_iload_n hx hb dX6_woman_0 rfl (lv_at hl 1 rfl) ?_
  refine x_callS (is := []) (As := [.int x]) (rest := []) (st1 := [.int (bI (inI x 0 7))]) (ws' := mW G b nw rd asd img kpt txt sz abv blw bds nos fls att bgn tkn wrd vlu sts bst) E (c_X6_isSeat l G x) sw_X6_59 hw [] rfl rfl rfl rfl hl.1 rfl rfl (Nat.le_of_ble_eq_true rfl) ⟨Nat.le_of_ble_eq_true rfl, Nat.le_of_ble_eq_true rfl⟩ (Nat.zero_le _) (Nat.zero_le _) dX6_woman_1 rfl rfl (fun H locs hw => ?_)
  refine lv_if_ne (tgt := 12) hx hb dX6_woman_4 rfl (fun cq4 => ?_) (fun cq4 => ?_)
  · skip
    have cq4 := bI_n0.mp cq4
    refine lv_aload_n hx hb dX6_woman_12 rfl (lv_at hl 0 rfl) ?_
    refine x_callV (is := [0, 1, 2, 3, 4, 5, 6, 7, 8]) (q0 := 0) (As := []) (rest := []) (st1 := []) (ws' := mW G b (rmb nw u) rd asd img kpt txt sz abv blw bds nos fls att bgn tkn wrd vlu sts bst) E (c_X6_remember l G b nw rd asd img kpt txt sz abv blw bds nos fls att bgn tkn wrd vlu sts bst n u (hu8) (by omega)) vw_X6_190 hw [0, 1, 2, 3, 4, 5, 6, 7, 8] rfl rfl rfl rfl rfl rfl rfl hl.1 rfl rfl (Nat.le_of_ble_eq_true rfl) ⟨Nat.le_of_ble_eq_true rfl, Nat.le_of_ble_eq_true rfl⟩ (Nat.zero_le _) (Nat.zero_le _) dX6_woman_13 rfl rfl (fun H locs hw => ?_)
    refine lv_aload_n hx hb dX6_woman_16 rfl (lv_at hl 0 rfl) ?_
    refine x_get E hw fw_X6_7 0 rfl rfl dX6_woman_17 ?_
    refine lv_bipush (v := 20) hx hb dX6_woman_20 rfl ?_
    refine x_iald E hw 1 rfl 20 (rfl) (by omega) (by omega) dX6_woman_22 ?_
    refine lv_istore_n (lv' := [(2, .int ((rmb nw u) 20)), (0, .ref (b 0)), (1, .int x)]) hx hb dX6_woman_23 rfl hl (by decide) rfl (fun ls hl => ?_)
    refine lv_aload_n hx hb dX6_woman_24 rfl (lv_at hl 1 rfl) ?_
    refine x_get E hw fw_X6_7 0 rfl rfl dX6_woman_25 ?_
    refine lv_bipush (v := 20) hx hb dX6_woman_28 rfl ?_
    refine lv_iload_n hx hb dX6_woman_30 rfl (lv_at hl 2 rfl) ?_
    refine x_iast (ws' := mW G b (upd (rmb nw u) 20 x) rd asd img kpt txt sz abv blw bds nos fls att bgn tkn wrd vlu sts bst) E hw 1 rfl 20 (rfl) (by omega) (by omega) dX6_woman_31 rfl (fun H locs hw => ?_)
    refine lv_iload_n hx hb dX6_woman_32 rfl (lv_at hl 0 rfl) ?_
    exact x_iret E hA rt hw dX6_woman_33 (by simp [cq4]) (by simp [cq4])
  · skip
    have cq4 := bI_0.mp cq4
    refine lv_aload_n hx hb dX6_woman_7 rfl (lv_at hl 0 rfl) ?_
    refine x_callV (is := [0, 1, 2, 3, 4, 5, 6, 7, 8]) (q0 := 0) (As := []) (rest := []) (st1 := [.int (-2)]) (ws' := mW G b nw rd asd img kpt txt sz abv blw (bds + 1) nos fls att bgn tkn wrd vlu sts bst) E (c_X6_bad l G b nw rd asd img kpt txt sz abv blw bds nos fls att bgn tkn wrd vlu sts bst) vw_X6_63 hw [0, 1, 2, 3, 4, 5, 6, 7, 8] rfl rfl rfl rfl rfl rfl rfl hl.1 rfl rfl (Nat.le_of_ble_eq_true rfl) ⟨Nat.le_of_ble_eq_true rfl, Nat.le_of_ble_eq_true rfl⟩ (Nat.zero_le _) (Nat.zero_le _) dX6_woman_8 rfl rfl (fun H locs hw => ?_)
    exact x_iret E hA rt hw dX6_woman_11 (by simp [cq4]) (by simp [cq4])
set_option maxHeartbeats 1000000 in
set_option maxRecDepth 100000 in
theorem c_X6_undo (l : Launch) (G : GG) (b : Nat → Nat) (nw : Nat → Int32) (rd : Nat → Int32) (asd : Nat → Int32) (img : Nat → Int32) (kpt : Nat → Int32) (txt : Nat → Int32) (sz : Int32) (abv : Int64) (blw : Int64) (bds : Int32) (nos : Int32) (fls : Int32) (att : Int32) (bgn : Int32) (tkn : Int32) (wrd : Int64) (vlu : Int32) (sts : Nat → Int32) (bst : Nat → Int32) (n : Nat) (u : Nat) (hu8 : nw 78 = nI u) (hu : u ≤ 8) : CT l G yX6_undo cX6_undo 1 (some .int) 1 25 [.ref (b 0)] (mW G b nw rd asd img kpt txt sz abv blw bds nos fls att bgn tkn wrd vlu sts bst) (some (.int (if u = 0 then -3 else (und nw (u - 1)) 21))) (mW G b (if u = 0 then nw else und nw (u - 1)) rd asd img kpt txt sz abv blw bds (if u = 0 then nos + 1 else nos) fls att bgn tkn wrd vlu sts bst) := by
  refine CT.mk (own := RX6) (la := [(0, .ref (b 0))]) (by decide) rfl (Nat.le_of_ble_eq_true rfl) rfl ?_
  intro p e s m args below meth c A Q E hA hw rt ls hl
  have hx := E.1
  have hb := E.2.1
  refine lv_aload_n hx hb dX6_undo_0 rfl (lv_at hl 0 rfl) ?_
  refine x_get E hw fw_X6_7 0 rfl rfl dX6_undo_1 ?_
  refine lv_bipush (v := 78) hx hb dX6_undo_4 rfl ?_
  refine x_iald E hw 1 rfl 78 (rfl) (by omega) (by omega) dX6_undo_6 ?_
  refine lv_if_ne (tgt := 15) hx hb dX6_undo_7 rfl (fun cq7 => ?_) (fun cq7 => ?_)
  · skip
    have cq7 : ¬ u = 0 := fun h => cq7 ((cv_eq (a := u) (b := 0) hu8 rfl (by omega) (by omega)).mpr h)
    refine lv_aload_n hx hb dX6_undo_15 rfl (lv_at hl 0 rfl) ?_
    refine x_get E hw fw_X6_7 0 rfl rfl dX6_undo_16 ?_
    refine lv_bipush (v := 78) hx hb dX6_undo_19 rfl ?_
    refine lv_dup2_11 hx hb dX6_undo_21 rfl rfl ?_
    refine x_iald E hw 1 rfl 78 (rfl) (by omega) (by omega) dX6_undo_22 ?_
    refine lv_iconst (v := 1) hx hb dX6_undo_23 rfl ?_
    refine lv_isub hx hb dX6_undo_24 ?_
    refine x_topi (y := nI (u - 1)) (by rw [hu8]; exact pk_sub (a := u) (b := 1) (by omega)) ?_
    refine x_iast (ws' := mW G b (upd nw 78 (nI (u - 1))) rd asd img kpt txt sz abv blw bds nos fls att bgn tkn wrd vlu sts bst) E hw 1 rfl 78 (rfl) (by omega) (by omega) dX6_undo_25 rfl (fun H locs hw => ?_)
    refine lv_aload_n hx hb dX6_undo_26 rfl (lv_at hl 0 rfl) ?_
    refine x_get E hw fw_X6_7 0 rfl rfl dX6_undo_27 ?_
    refine lv_bipush (v := 79) hx hb dX6_undo_30 rfl ?_
    refine lv_bipush (v := 22) hx hb dX6_undo_32 rfl ?_
    refine lv_aload_n hx hb dX6_undo_34 rfl (lv_at hl 0 rfl) ?_
    refine x_get E hw fw_X6_7 0 rfl rfl dX6_undo_35 ?_
    refine lv_bipush (v := 78) hx hb dX6_undo_38 rfl ?_
    refine x_iald E hw 1 rfl 78 (rfl) (by omega) (by omega) dX6_undo_40 ?_
    refine lv_imul hx hb dX6_undo_41 ?_
    refine lv_iadd hx hb dX6_undo_42 ?_
    refine lv_aload_n hx hb dX6_undo_43 rfl (lv_at hl 0 rfl) ?_
    refine x_get E hw fw_X6_7 0 rfl rfl dX6_undo_44 ?_
    refine lv_iconst (v := 0) hx hb dX6_undo_47 rfl ?_
    refine lv_bipush (v := 22) hx hb dX6_undo_48 rfl ?_
    refine x_callS (is := [1]) (As := [.ref (b 1), .int (79 + (22 * ((upd nw 78 (nI (u - 1))) 78))), .ref (b 1), .int 0, .int 22]) (rest := []) (st1 := []) (ws' := mW G b (va_cpy (upd nw 78 (nI (u - 1))) (upd nw 78 (nI (u - 1))) (79 + (22 * (u - 1))) 0 22) rd asd img kpt txt sz abv blw bds nos fls att bgn tkn wrd vlu sts bst) E (c_copiesS l G (b 1) (79 + (22 * ((upd nw 78 (nI (u - 1))) 78))) (79 + (22 * (u - 1))) ((ix_add (a := 79) (b := 22 * (u - 1)) rfl (ix_mul (a := 22) (b := u - 1) rfl (upd_at _ _ _)))) 0 0 (rfl) 22 22 (rfl) (upd nw 78 (nI (u - 1))) 255 (by omega) (by omega) (by omega) (by omega)) sw_X6_152 hw [1] rfl rfl rfl rfl hl.1 rfl rfl (Nat.le_of_ble_eq_true rfl) ⟨Nat.le_of_ble_eq_true rfl, Nat.le_of_ble_eq_true rfl⟩ (Nat.zero_le _) (Nat.zero_le _) dX6_undo_50 rfl rfl (fun H locs hw => ?_)
    refine lv_aload_n hx hb dX6_undo_53 rfl (lv_at hl 0 rfl) ?_
    refine x_get E hw fw_X6_7 0 rfl rfl dX6_undo_54 ?_
    refine lv_bipush (v := 21) hx hb dX6_undo_57 rfl ?_
    refine x_iald E hw 1 rfl 21 (rfl) (by omega) (by omega) dX6_undo_59 ?_
    exact x_iret E hA rt hw dX6_undo_60 (by simp [und, cq7]) (by simp [und, cq7])
  · skip
    have cq7 : u = 0 := (cv_eq (a := u) (b := 0) hu8 rfl (by omega) (by omega)).mp cq7
    refine lv_aload_n hx hb dX6_undo_10 rfl (lv_at hl 0 rfl) ?_
    refine x_callV (is := [0, 1, 2, 3, 4, 5, 6, 7, 8]) (q0 := 0) (As := []) (rest := []) (st1 := [.int (-3)]) (ws' := mW G b nw rd asd img kpt txt sz abv blw bds (nos + 1) fls att bgn tkn wrd vlu sts bst) E (c_X6_no l G b nw rd asd img kpt txt sz abv blw bds nos fls att bgn tkn wrd vlu sts bst) vw_X6_77 hw [0, 1, 2, 3, 4, 5, 6, 7, 8] rfl rfl rfl rfl rfl rfl rfl hl.1 rfl rfl (Nat.le_of_ble_eq_true rfl) ⟨Nat.le_of_ble_eq_true rfl, Nat.le_of_ble_eq_true rfl⟩ (Nat.zero_le _) (Nat.zero_le _) dX6_undo_11 rfl rfl (fun H locs hw => ?_)
    exact x_iret E hA rt hw dX6_undo_14 (by simp [und, cq7]) (by simp [und, cq7])

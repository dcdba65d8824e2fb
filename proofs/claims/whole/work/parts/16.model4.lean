set_option maxHeartbeats 1000000 in
set_option maxRecDepth 100000 in
theorem c_X6_of (l : Launch) (G : GG) (b : Nat → Nat) (x : Int32) (y : Int32) (nw : Nat → Int32) (rd : Nat → Int32) (asd : Nat → Int32) (img : Nat → Int32) (kpt : Nat → Int32) (txt : Nat → Int32) (sz : Int32) (abv : Int64) (blw : Int64) (bds : Int32) (nos : Int32) (fls : Int32) (att : Int32) (bgn : Int32) (tkn : Int32) (wrd : Int64) (vlu : Int32) (sts : Nat → Int32) (bst : Nat → Int32) (n : Nat) (hc : nw 22 = nI n) (hn : n ≤ 6) : CT l G yX6_of cX6_of 3 (some .int) 2 46 [.ref (b 0), .int x, .int y] (mW G b nw rd asd img kpt txt sz abv blw bds nos fls att bgn tkn wrd vlu sts bst) (some (.int (if inI x 0 (nw 22 - 1) = true ∧ inI y 0 5 = true then (if y = 0 then nw (23 + x.toNatClampNeg) else if y = 1 then nw x.toNatClampNeg else if y = 2 then nw (29 + x.toNatClampNeg) else if y = 3 then nw (6 + x.toNatClampNeg) else if y = 4 then nw (12 + x.toNatClampNeg) else tgM nw n (nw x.toNatClampNeg)) else -2))) (mW G b nw rd asd img kpt txt sz abv blw (if inI x 0 (nw 22 - 1) = true ∧ inI y 0 5 = true then bds else bds + 1) nos fls att bgn tkn wrd vlu sts bst) := by
  refine CT.mk (own := RX6) (la := [(0, .ref (b 0)), (1, .int x), (2, .int y)]) (by decide) rfl (Nat.le_of_ble_eq_true rfl) rfl ?_
  intro p e s m args below meth c A Q E hA hw rt ls hl
  have hx := E.1
  have hb := E.2.1
  refine lv_aload_n hx hb dX6_of_0 rfl (lv_at hl 0 rfl) ?_
  refine lv_iload_n hx hb dX6_of_1 rfl (lv_at hl 1 rfl) ?_
  refine x_callV (is := [0, 1, 2, 3, 4, 5, 6, 7, 8]) (q0 := 0) (As := [.int x]) (rest := []) (st1 := [.int (bI (inI x 0 (nw 22 - 1)))]) (ws' := mW G b nw rd asd img kpt txt sz abv blw bds nos fls att bgn tkn wrd vlu sts bst) E (c_X6_isChild l G b x nw rd asd img kpt txt sz abv blw bds nos fls att bgn tkn wrd vlu sts bst) vw_X6_197 hw [0, 1, 2, 3, 4, 5, 6, 7, 8] rfl rfl rfl rfl rfl rfl rfl hl.1 rfl rfl (Nat.le_of_ble_eq_true rfl) ⟨Nat.le_of_ble_eq_true rfl, Nat.le_of_ble_eq_true rfl⟩ (Nat.zero_le _) (Nat.zero_le _) dX6_of_2 rfl rfl (fun H locs hw => ?_)
  refine lv_if_eq (tgt := 20) hx hb dX6_of_5 rfl (fun cq5 => ?_) (fun cq5 => ?_)
  · skip
    have cq5 := bI_0.mp cq5
    refine lv_aload_n hx hb dX6_of_20 rfl (lv_at hl 0 rfl) ?_
    refine x_callV (is := [0, 1, 2, 3, 4, 5, 6, 7, 8]) (q0 := 0) (As := []) (rest := []) (st1 := [.int (-2)]) (ws' := mW G b nw rd asd img kpt txt sz abv blw (bds + 1) nos fls att bgn tkn wrd vlu sts bst) E (c_X6_bad l G b nw rd asd img kpt txt sz abv blw bds nos fls att bgn tkn wrd vlu sts bst) vw_X6_63 hw [0, 1, 2, 3, 4, 5, 6, 7, 8] rfl rfl rfl rfl rfl rfl rfl hl.1 rfl rfl (Nat.le_of_ble_eq_true rfl) ⟨Nat.le_of_ble_eq_true rfl, Nat.le_of_ble_eq_true rfl⟩ (Nat.zero_le _) (Nat.zero_le _) dX6_of_21 rfl rfl (fun H locs hw => ?_)
    exact x_iret E hA rt hw dX6_of_24 (by simp [cq5]) (by simp [cq5])
  · skip
    have cq5 := bI_n0.mp cq5
    obtain ⟨k, hk, ek⟩ := inI_child hc hn cq5
    have exk : x.toNatClampNeg = k := by rw [ek, nI_clamp (by omega)]
    refine lv_iload_n hx hb dX6_of_8 rfl (lv_at hl 2 rfl) ?_
    refine lv_i2l (v := y.toInt64) hx hb dX6_of_9 rfl ?_
    refine lv_lconst (v := 0) hx hb dX6_of_10 rfl ?_
    refine lv_ldc2 hx hb E.2.2.2.1 (E.2.2.2.2.2.2.w kc_X6_67) dX6_of_11 ?_
    refine x_callS (is := []) (As := [.long y.toInt64, .long 0, .long 5]) (rest := []) (st1 := [.int (bI (inL y.toInt64 0 5))]) (ws' := mW G b nw rd asd img kpt txt sz abv blw bds nos fls att bgn tkn wrd vlu sts bst) E (c_X6_in l G y.toInt64 0 5) sw_X6_55 hw [] rfl rfl rfl rfl hl.1 rfl rfl (Nat.le_of_ble_eq_true rfl) ⟨Nat.le_of_ble_eq_true rfl, Nat.le_of_ble_eq_true rfl⟩ (Nat.zero_le _) (Nat.zero_le _) dX6_of_14 rfl rfl (fun H locs hw => ?_)
    refine x_topi (y := bI (inI y 0 5)) (congrArg bI (inL_I y 0 5 rfl rfl)) ?_
    refine lv_if_ne (tgt := 25) hx hb dX6_of_17 rfl (fun cq17 => ?_) (fun cq17 => ?_)
    · skip
      have cq17 := bI_n0.mp cq17
      refine lv_iload_n hx hb dX6_of_25 rfl (lv_at hl 2 rfl) ?_
      by_cases cq26_0 : y = (0 : Int32)
      · skip
        refine lv_tableIn (off := 34) (tgt := 60) hx hb dX6_of_26 (by rw [cq26_0]; decide) (by rw [cq26_0]; decide) (by rw [cq26_0]; rfl) rfl ?_
        refine lv_aload_n hx hb dX6_of_60 rfl (lv_at hl 0 rfl) ?_
        refine x_get E hw fw_X6_7 0 rfl rfl dX6_of_61 ?_
        refine lv_bipush (v := 23) hx hb dX6_of_64 rfl ?_
        refine lv_iload_n hx hb dX6_of_66 rfl (lv_at hl 1 rfl) ?_
        refine lv_iadd hx hb dX6_of_67 ?_
        refine x_iald E hw 1 rfl (23 + k) ((ix_add (a := 23) (b := k) rfl ek)) (by omega) (by omega) dX6_of_68 ?_
        exact x_iret E hA rt hw dX6_of_69 (by rw [if_pos ⟨cq5, cq17⟩]; simp [cq26_0, exk]) (by rw [if_pos ⟨cq5, cq17⟩])
      by_cases cq26_1 : y = (1 : Int32)
      · skip
        refine lv_tableIn (off := 44) (tgt := 70) hx hb dX6_of_26 (by rw [cq26_1]; decide) (by rw [cq26_1]; decide) (by rw [cq26_1]; rfl) rfl ?_
        refine lv_aload_n hx hb dX6_of_70 rfl (lv_at hl 0 rfl) ?_
        refine x_get E hw fw_X6_7 0 rfl rfl dX6_of_71 ?_
        refine lv_iconst (v := 0) hx hb dX6_of_74 rfl ?_
        refine lv_iload_n hx hb dX6_of_75 rfl (lv_at hl 1 rfl) ?_
        refine lv_iadd hx hb dX6_of_76 ?_
        refine x_iald E hw 1 rfl k ((ix_0add (b := k) ek)) (by omega) (by omega) dX6_of_77 ?_
        exact x_iret E hA rt hw dX6_of_78 (by rw [if_pos ⟨cq5, cq17⟩]; simp [cq26_0, cq26_1, exk]) (by rw [if_pos ⟨cq5, cq17⟩])
      by_cases cq26_2 : y = (2 : Int32)
      · skip
        refine lv_tableIn (off := 53) (tgt := 79) hx hb dX6_of_26 (by rw [cq26_2]; decide) (by rw [cq26_2]; decide) (by rw [cq26_2]; rfl) rfl ?_
        refine lv_aload_n hx hb dX6_of_79 rfl (lv_at hl 0 rfl) ?_
        refine x_get E hw fw_X6_7 0 rfl rfl dX6_of_80 ?_
        refine lv_bipush (v := 29) hx hb dX6_of_83 rfl ?_
        refine lv_iload_n hx hb dX6_of_85 rfl (lv_at hl 1 rfl) ?_
        refine lv_iadd hx hb dX6_of_86 ?_
        refine x_iald E hw 1 rfl (29 + k) ((ix_add (a := 29) (b := k) rfl ek)) (by omega) (by omega) dX6_of_87 ?_
        exact x_iret E hA rt hw dX6_of_88 (by rw [if_pos ⟨cq5, cq17⟩]; simp [cq26_0, cq26_1, cq26_2, exk]) (by rw [if_pos ⟨cq5, cq17⟩])
      by_cases cq26_3 : y = (3 : Int32)
      · skip
        refine lv_tableIn (off := 63) (tgt := 89) hx hb dX6_of_26 (by rw [cq26_3]; decide) (by rw [cq26_3]; decide) (by rw [cq26_3]; rfl) rfl ?_
        refine lv_aload_n hx hb dX6_of_89 rfl (lv_at hl 0 rfl) ?_
        refine x_get E hw fw_X6_7 0 rfl rfl dX6_of_90 ?_
        refine lv_bipush (v := 6) hx hb dX6_of_93 rfl ?_
        refine lv_iload_n hx hb dX6_of_95 rfl (lv_at hl 1 rfl) ?_
        refine lv_iadd hx hb dX6_of_96 ?_
        refine x_iald E hw 1 rfl (6 + k) ((ix_add (a := 6) (b := k) rfl ek)) (by omega) (by omega) dX6_of_97 ?_
        exact x_iret E hA rt hw dX6_of_98 (by rw [if_pos ⟨cq5, cq17⟩]; simp [cq26_0, cq26_1, cq26_2, cq26_3, exk]) (by rw [if_pos ⟨cq5, cq17⟩])
      by_cases cq26_4 : y = (4 : Int32)
      · skip
        refine lv_tableIn (off := 73) (tgt := 99) hx hb dX6_of_26 (by rw [cq26_4]; decide) (by rw [cq26_4]; decide) (by rw [cq26_4]; rfl) rfl ?_
        refine lv_aload_n hx hb dX6_of_99 rfl (lv_at hl 0 rfl) ?_
        refine x_get E hw fw_X6_7 0 rfl rfl dX6_of_100 ?_
        refine lv_bipush (v := 12) hx hb dX6_of_103 rfl ?_
        refine lv_iload_n hx hb dX6_of_105 rfl (lv_at hl 1 rfl) ?_
        refine lv_iadd hx hb dX6_of_106 ?_
        refine x_iald E hw 1 rfl (12 + k) ((ix_add (a := 12) (b := k) rfl ek)) (by omega) (by omega) dX6_of_107 ?_
        exact x_iret E hA rt hw dX6_of_108 (by rw [if_pos ⟨cq5, cq17⟩]; simp [cq26_0, cq26_1, cq26_2, cq26_3, cq26_4, exk]) (by rw [if_pos ⟨cq5, cq17⟩])
      refine lv_tableOut (tgt := 109) hx hb dX6_of_26 (by have g0 := lv_neT (a := 0) cq26_0 rfl; have g1 := lv_neT (a := 1) cq26_1 rfl; have g2 := lv_neT (a := 2) cq26_2 rfl; have g3 := lv_neT (a := 3) cq26_3 rfl; have g4 := lv_neT (a := 4) cq26_4 rfl; omega) rfl ?_
      refine lv_aload_n hx hb dX6_of_109 rfl (lv_at hl 0 rfl) ?_
      refine x_get E hw fw_X6_7 0 rfl rfl dX6_of_110 ?_
      refine lv_iload_n hx hb dX6_of_113 rfl (lv_at hl 1 rfl) ?_
      refine x_callS (is := [1]) (As := [.ref (b 1), .int x]) (rest := []) (st1 := [.int (tgM nw n (nw k))]) (ws' := mW G b nw rd asd img kpt txt sz abv blw bds nos fls att bgn tkn wrd vlu sts bst) E (c_X6_tight l G (b 1) x k (ek) nw 255 n (by omega) (by omega) (hc) (by omega) (by omega)) sw_X6_156 hw [1] rfl rfl rfl rfl hl.1 rfl rfl (Nat.le_of_ble_eq_true rfl) ⟨Nat.le_of_ble_eq_true rfl, Nat.le_of_ble_eq_true rfl⟩ (Nat.zero_le _) (Nat.zero_le _) dX6_of_114 rfl rfl (fun H locs hw => ?_)
      exact x_iret E hA rt hw dX6_of_117 (by rw [if_pos ⟨cq5, cq17⟩]; simp [cq26_0, cq26_1, cq26_2, cq26_3, cq26_4, exk]) (by rw [if_pos ⟨cq5, cq17⟩])
    · skip
      have cq17 := bI_0.mp cq17
      refine lv_aload_n hx hb dX6_of_20 rfl (lv_at hl 0 rfl) ?_
      refine x_callV (is := [0, 1, 2, 3, 4, 5, 6, 7, 8]) (q0 := 0) (As := []) (rest := []) (st1 := [.int (-2)]) (ws' := mW G b nw rd asd img kpt txt sz abv blw (bds + 1) nos fls att bgn tkn wrd vlu sts bst) E (c_X6_bad l G b nw rd asd img kpt txt sz abv blw bds nos fls att bgn tkn wrd vlu sts bst) vw_X6_63 hw [0, 1, 2, 3, 4, 5, 6, 7, 8] rfl rfl rfl rfl rfl rfl rfl hl.1 rfl rfl (Nat.le_of_ble_eq_true rfl) ⟨Nat.le_of_ble_eq_true rfl, Nat.le_of_ble_eq_true rfl⟩ (Nat.zero_le _) (Nat.zero_le _) dX6_of_21 rfl rfl (fun H locs hw => ?_)
      exact x_iret E hA rt hw dX6_of_24 (by simp [cq5, cq17]) (by simp [cq5, cq17])
set_option maxHeartbeats 1000000 in
set_option maxRecDepth 100000 in
theorem c_X6_now (l : Launch) (G : GG) (b : Nat → Nat) (x : Int32) (y : Int32) (nw : Nat → Int32) (rd : Nat → Int32) (asd : Nat → Int32) (img : Nat → Int32) (kpt : Nat → Int32) (txt : Nat → Int32) (sz : Int32) (abv : Int64) (blw : Int64) (bds : Int32) (nos : Int32) (fls : Int32) (att : Int32) (bgn : Int32) (tkn : Int32) (wrd : Int64) (vlu : Int32) (sts : Nat → Int32) (bst : Nat → Int32) (n : Nat) (hc : nw 22 = nI n) (hn : n ≤ 6) : CT l G yX6_now cX6_now 3 (some .int) 4 90 [.ref (b 0), .int x, .int y] (mW G b nw rd asd img kpt txt sz abv blw bds nos fls att bgn tkn wrd vlu sts bst) (some (.int (if inI x 0 (nw 22 - 1) = true ∧ inI y 0 2 = true then (if y = 0 then nmOf nw n x.toNatClampNeg else if y = 1 then whM nw n (nw x.toNatClampNeg) else bI (bitesM nw n x.toNatClampNeg)) else -10))) (mW G b nw rd asd img kpt txt sz abv blw (if inI x 0 (nw 22 - 1) = true ∧ inI y 0 2 = true then bds else bds + 1) nos fls att bgn tkn wrd vlu sts bst) := by
  refine CT.mk (own := RX6) (la := [(0, .ref (b 0)), (1, .int x), (2, .int y)]) (by decide) rfl (Nat.le_of_ble_eq_true rfl) rfl ?_
  intro p e s m args below meth c A Q E hA hw rt ls hl
  have hx := E.1
  have hb := E.2.1
  refine lv_aload_n hx hb dX6_now_0 rfl (lv_at hl 0 rfl) ?_
  refine lv_iload_n hx hb dX6_now_1 rfl (lv_at hl 1 rfl) ?_
  refine x_callV (is := [0, 1, 2, 3, 4, 5, 6, 7, 8]) (q0 := 0) (As := [.int x]) (rest := []) (st1 := [.int (bI (inI x 0 (nw 22 - 1)))]) (ws' := mW G b nw rd asd img kpt txt sz abv blw bds nos fls att bgn tkn wrd vlu sts bst) E (c_X6_isChild l G b x nw rd asd img kpt txt sz abv blw bds nos fls att bgn tkn wrd vlu sts bst) vw_X6_197 hw [0, 1, 2, 3, 4, 5, 6, 7, 8] rfl rfl rfl rfl rfl rfl rfl hl.1 rfl rfl (Nat.le_of_ble_eq_true rfl) ⟨Nat.le_of_ble_eq_true rfl, Nat.le_of_ble_eq_true rfl⟩ (Nat.zero_le _) (Nat.zero_le _) dX6_now_2 rfl rfl (fun H locs hw => ?_)
  refine lv_if_eq (tgt := 20) hx hb dX6_now_5 rfl (fun cq5 => ?_) (fun cq5 => ?_)
  · skip
    have cq5 := bI_0.mp cq5
    refine lv_aload_n hx hb dX6_now_20 rfl (lv_at hl 0 rfl) ?_
    refine x_callV (is := [0, 1, 2, 3, 4, 5, 6, 7, 8]) (q0 := 0) (As := []) (rest := []) (st1 := [.int (-10)]) (ws' := mW G b nw rd asd img kpt txt sz abv blw (bds + 1) nos fls att bgn tkn wrd vlu sts bst) E (c_X6_worse l G b nw rd asd img kpt txt sz abv blw bds nos fls att bgn tkn wrd vlu sts bst) vw_X6_202 hw [0, 1, 2, 3, 4, 5, 6, 7, 8] rfl rfl rfl rfl rfl rfl rfl hl.1 rfl rfl (Nat.le_of_ble_eq_true rfl) ⟨Nat.le_of_ble_eq_true rfl, Nat.le_of_ble_eq_true rfl⟩ (Nat.zero_le _) (Nat.zero_le _) dX6_now_21 rfl rfl (fun H locs hw => ?_)
    exact x_iret E hA rt hw dX6_now_24 (by simp [cq5]) (by simp [cq5])
  · skip
    have cq5 := bI_n0.mp cq5
    obtain ⟨k, hk, ek⟩ := inI_child hc hn cq5
    have exk : x.toNatClampNeg = k := by rw [ek, nI_clamp (by omega)]
    refine lv_iload_n hx hb dX6_now_8 rfl (lv_at hl 2 rfl) ?_
    refine lv_i2l (v := y.toInt64) hx hb dX6_now_9 rfl ?_
    refine lv_lconst (v := 0) hx hb dX6_now_10 rfl ?_
    refine lv_ldc2 hx hb E.2.2.2.1 (E.2.2.2.2.2.2.w kc_X6_200) dX6_now_11 ?_
    refine x_callS (is := []) (As := [.long y.toInt64, .long 0, .long 2]) (rest := []) (st1 := [.int (bI (inL y.toInt64 0 2))]) (ws' := mW G b nw rd asd img kpt txt sz abv blw bds nos fls att bgn tkn wrd vlu sts bst) E (c_X6_in l G y.toInt64 0 2) sw_X6_55 hw [] rfl rfl rfl rfl hl.1 rfl rfl (Nat.le_of_ble_eq_true rfl) ⟨Nat.le_of_ble_eq_true rfl, Nat.le_of_ble_eq_true rfl⟩ (Nat.zero_le _) (Nat.zero_le _) dX6_now_14 rfl rfl (fun H locs hw => ?_)
    refine x_topi (y := bI (inI y 0 2)) (congrArg bI (inL_I y 0 2 rfl rfl)) ?_
    refine lv_if_ne (tgt := 25) hx hb dX6_now_17 rfl (fun cq17 => ?_) (fun cq17 => ?_)
    · skip
      have cq17 := bI_n0.mp cq17
      refine lv_iload_n hx hb dX6_now_25 rfl (lv_at hl 2 rfl) ?_
      refine lv_if_ne (tgt := 40) hx hb dX6_now_26 rfl (fun cq26 => ?_) (fun cq26 => ?_)
      · skip
        refine lv_iload_n hx hb dX6_now_40 rfl (lv_at hl 2 rfl) ?_
        refine lv_iconst (v := 1) hx hb dX6_now_41 rfl ?_
        refine lv_icmp_ne (tgt := 56) hx hb dX6_now_42 rfl (fun cq42 => ?_) (fun cq42 => ?_)
        · skip
          refine lv_aload_n hx hb dX6_now_56 rfl (lv_at hl 0 rfl) ?_
          refine x_get E hw fw_X6_7 0 rfl rfl dX6_now_57 ?_
          refine lv_iload_n hx hb dX6_now_60 rfl (lv_at hl 1 rfl) ?_
          refine x_callS (is := [1]) (As := [.ref (b 1), .int x]) (rest := []) (st1 := [.int (bI (bitesM nw n k))]) (ws' := mW G b nw rd asd img kpt txt sz abv blw bds nos fls att bgn tkn wrd vlu sts bst) E (c_X6_bites l G (b 1) x k (ek) nw 255 n (by omega) (by omega) (hc) (by omega) (by omega)) sw_X6_173 hw [1] rfl rfl rfl rfl hl.1 rfl rfl (Nat.le_of_ble_eq_true rfl) ⟨Nat.le_of_ble_eq_true rfl, Nat.le_of_ble_eq_true rfl⟩ (Nat.zero_le _) (Nat.zero_le _) dX6_now_61 rfl rfl (fun H locs hw => ?_)
          refine lv_if_eq (tgt := 71) hx hb dX6_now_64 rfl (fun cq64 => ?_) (fun cq64 => ?_)
          · skip
            have cq64 := bI_0.mp cq64
            refine lv_iconst (v := 0) hx hb dX6_now_71 rfl ?_
            exact x_iret E hA rt hw dX6_now_72 (by rw [if_pos ⟨cq5, cq17⟩]; simp [bI, cq26, cq42, cq64, exk]) (by rw [if_pos ⟨cq5, cq17⟩])
          · skip
            have cq64 := bI_n0.mp cq64
            refine lv_iconst (v := 1) hx hb dX6_now_67 rfl ?_
            refine lv_goto (tgt := 72) hx hb dX6_now_68 rfl ?_
            exact x_iret E hA rt hw dX6_now_72 (by rw [if_pos ⟨cq5, cq17⟩]; simp [bI, cq26, cq42, cq64, exk]) (by rw [if_pos ⟨cq5, cq17⟩])
        · skip
          refine lv_aload_n hx hb dX6_now_45 rfl (lv_at hl 0 rfl) ?_
          refine x_get E hw fw_X6_7 0 rfl rfl dX6_now_46 ?_
          refine lv_iload_n hx hb dX6_now_49 rfl (lv_at hl 1 rfl) ?_
          refine x_callS (is := [1]) (As := [.ref (b 1), .int x]) (rest := []) (st1 := [.int (whM nw n (nw k))]) (ws' := mW G b nw rd asd img kpt txt sz abv blw bds nos fls att bgn tkn wrd vlu sts bst) E (c_X6_whom l G (b 1) x k (ek) nw 255 n (by omega) (by omega) (hc) (by omega) (by omega)) sw_X6_170 hw [1] rfl rfl rfl rfl hl.1 rfl rfl (Nat.le_of_ble_eq_true rfl) ⟨Nat.le_of_ble_eq_true rfl, Nat.le_of_ble_eq_true rfl⟩ (Nat.zero_le _) (Nat.zero_le _) dX6_now_50 rfl rfl (fun H locs hw => ?_)
          refine lv_goto (tgt := 72) hx hb dX6_now_53 rfl ?_
          exact x_iret E hA rt hw dX6_now_72 (by rw [if_pos ⟨cq5, cq17⟩]; simp [bI, cq26, cq42, exk]) (by rw [if_pos ⟨cq5, cq17⟩])
      · skip
        refine lv_aload_n hx hb dX6_now_29 rfl (lv_at hl 0 rfl) ?_
        refine x_get E hw fw_X6_7 0 rfl rfl dX6_now_30 ?_
        refine lv_iload_n hx hb dX6_now_33 rfl (lv_at hl 1 rfl) ?_
        refine x_callS (is := [1]) (As := [.ref (b 1), .int x]) (rest := []) (st1 := [.int (nmOf nw n k)]) (ws' := mW G b nw rd asd img kpt txt sz abv blw bds nos fls att bgn tkn wrd vlu sts bst) E (c_X6_nearOf l G (b 1) x k (ek) nw 255 n (by omega) (by omega) (hc) (by omega) (by omega)) sw_X6_163 hw [1] rfl rfl rfl rfl hl.1 rfl rfl (Nat.le_of_ble_eq_true rfl) ⟨Nat.le_of_ble_eq_true rfl, Nat.le_of_ble_eq_true rfl⟩ (Nat.zero_le _) (Nat.zero_le _) dX6_now_34 rfl rfl (fun H locs hw => ?_)
        refine lv_goto (tgt := 72) hx hb dX6_now_37 rfl ?_
        exact x_iret E hA rt hw dX6_now_72 (by rw [if_pos ⟨cq5, cq17⟩]; simp [bI, cq26, exk]) (by rw [if_pos ⟨cq5, cq17⟩])
    · skip
      have cq17 := bI_0.mp cq17
      refine lv_aload_n hx hb dX6_now_20 rfl (lv_at hl 0 rfl) ?_
      refine x_callV (is := [0, 1, 2, 3, 4, 5, 6, 7, 8]) (q0 := 0) (As := []) (rest := []) (st1 := [.int (-10)]) (ws' := mW G b nw rd asd img kpt txt sz abv blw (bds + 1) nos fls att bgn tkn wrd vlu sts bst) E (c_X6_worse l G b nw rd asd img kpt txt sz abv blw bds nos fls att bgn tkn wrd vlu sts bst) vw_X6_202 hw [0, 1, 2, 3, 4, 5, 6, 7, 8] rfl rfl rfl rfl rfl rfl rfl hl.1 rfl rfl (Nat.le_of_ble_eq_true rfl) ⟨Nat.le_of_ble_eq_true rfl, Nat.le_of_ble_eq_true rfl⟩ (Nat.zero_le _) (Nat.zero_le _) dX6_now_21 rfl rfl (fun H locs hw => ?_)
      exact x_iret E hA rt hw dX6_now_24 (by simp [cq5, cq17]) (by simp [cq5, cq17])
set_option maxHeartbeats 1000000 in
set_option maxRecDepth 100000 in
theorem c_X6_layAside (l : Launch) (G : GG) (b : Nat → Nat) (nw : Nat → Int32) (rd : Nat → Int32) (asd : Nat → Int32) (img : Nat → Int32) (kpt : Nat → Int32) (txt : Nat → Int32) (sz : Int32) (abv : Int64) (blw : Int64) (bds : Int32) (nos : Int32) (fls : Int32) (att : Int32) (bgn : Int32) (tkn : Int32) (wrd : Int64) (vlu : Int32) (sts : Nat → Int32) (bst : Nat → Int32) : CT l G yX6_layAside cX6_layAside 1 none 1 25 [.ref (b 0)] (mW G b nw rd asd img kpt txt sz abv blw bds nos fls att bgn tkn wrd vlu sts bst) none (mW G b nw rd nw img kpt txt sz abv blw bds nos fls att bgn tkn wrd vlu sts bst) := by
  refine CT.mk (own := RX6) (la := [(0, .ref (b 0))]) (by decide) rfl (Nat.le_of_ble_eq_true rfl) rfl ?_
  intro p e s m args below meth c A Q E hA hw rt ls hl
  have hx := E.1
  have hb := E.2.1
  refine lv_aload_n hx hb dX6_layAside_0 rfl (lv_at hl 0 rfl) ?_
  refine x_get E hw fw_X6_7 0 rfl rfl dX6_layAside_1 ?_
  refine lv_iconst (v := 0) hx hb dX6_layAside_4 rfl ?_
  refine lv_aload_n hx hb dX6_layAside_5 rfl (lv_at hl 0 rfl) ?_
  refine x_get E hw fw_X6_16 0 rfl rfl dX6_layAside_6 ?_
  refine lv_iconst (v := 0) hx hb dX6_layAside_9 rfl ?_
  refine lv_bipush (v := 35) hx hb dX6_layAside_10 rfl ?_
  refine x_callS (is := [1, 3]) (As := [.ref (b 1), .int 0, .ref (b 3), .int 0, .int 35]) (rest := []) (st1 := []) (ws' := mW G b nw rd (va_cpy nw asd 0 0 35) img kpt txt sz abv blw bds nos fls att bgn tkn wrd vlu sts bst) E (c_copies l G (b 1) (b 3) 0 0 (rfl) 0 0 (rfl) 35 35 (rfl) nw asd 255 35 (by omega) (by omega) (by omega) (by omega)) sw_X6_152 hw [1, 3] rfl rfl rfl rfl hl.1 rfl rfl (Nat.le_of_ble_eq_true rfl) ⟨Nat.le_of_ble_eq_true rfl, Nat.le_of_ble_eq_true rfl⟩ (Nat.zero_le _) (Nat.zero_le _) dX6_layAside_12 rfl rfl (fun H locs hw => ?_)
  have hw := Wd.arr (ws' := mW G b nw rd nw img kpt txt sz abv blw bds nos fls att bgn tkn wrd vlu sts bst) (g := nw) hw 3 rfl (fun j hj => by rw [pk_cpy_in (Nat.zero_le j) (by omega)]; congr 1; omega) rfl
  exact x_vret E hA rt hw dX6_layAside_15 rfl
set_option maxHeartbeats 1000000 in
set_option maxRecDepth 100000 in
theorem c_X6_bitesIn (l : Launch) (G : GG) (b : Nat → Nat) (x : Int32) (mm : Nat) (hv_x : x = nI mm) (nw : Nat → Int32) (rd : Nat → Int32) (asd : Nat → Int32) (img : Nat → Int32) (kpt : Nat → Int32) (txt : Nat → Int32) (sz : Int32) (abv : Int64) (blw : Int64) (bds : Int32) (nos : Int32) (fls : Int32) (att : Int32) (bgn : Int32) (tkn : Int32) (wrd : Int64) (vlu : Int32) (sts : Nat → Int32) (bst : Nat → Int32) (n : Nat) (ha : asd 22 = nI n) (hn : n ≤ 6) (hmm : mm < 2147483648) : CT l G yX6_bitesIn cX6_bitesIn 4 (some .int) 6 134 [.ref (b 0), .int x] (mW G b nw rd asd img kpt txt sz abv blw bds nos fls att bgn tkn wrd vlu sts bst) (some (.int (brM n mm asd))) (mW G b nw rd (goN n mm asd) img kpt txt sz abv blw bds nos fls att bgn tkn wrd vlu sts bst) := by
  refine CT.mk (own := RX6) (la := [(0, .ref (b 0)), (1, .int x)]) (by decide) rfl (Nat.le_of_ble_eq_true rfl) rfl ?_
  intro p e s m args below meth c A Q E hA hw rt ls hl
  have hx := E.1
  have hb := E.2.1
  refine lv_aload_n hx hb dX6_bitesIn_0 rfl (lv_at hl 0 rfl) ?_
  refine x_get E hw fw_X6_16 0 rfl rfl dX6_bitesIn_1 ?_
  refine lv_bipush (v := 18) hx hb dX6_bitesIn_4 rfl ?_
  refine x_iald E hw 3 rfl 18 (rfl) (by omega) (by omega) dX6_bitesIn_6 ?_
  refine lv_istore_n (lv' := [(2, .int (asd 18)), (0, .ref (b 0)), (1, .int x)]) hx hb dX6_bitesIn_7 rfl hl (by decide) rfl (fun ls hl => ?_)
  refine lv_iconst (v := 0) hx hb dX6_bitesIn_8 rfl ?_
  refine lv_istore_n (lv' := [(3, .int 0), (2, .int (asd 18)), (0, .ref (b 0)), (1, .int x)]) hx hb dX6_bitesIn_9 rfl hl (by decide) rfl (fun ls hl => ?_)
  have lp10 : ∀ (fuel : Nat), ∀ (k : Nat) (t : Nat → Int32) (hk : k ≤ mm) (ht : t = goN n k asd), (mm - k) < fuel → ∀ (H : Heap) (locs : List Loc) (ls : Array Slot), Wd G A s H locs (mW G b nw rd t img kpt txt sz abv blw bds nos fls att bgn tkn wrd vlu sts bst) → lv_has ls 4 [(0, .ref (b 0)), (1, .int x), (2, .int (asd 18)), (3, .int (nI k))] → W p l e (rmx 6 134) s m args below meth c H locs 0 0 Q (F0 m 10 ls []) := by
    intro fuel
    induction fuel with
    | zero => intro k t hk ht hfu; exact absurd hfu (Nat.not_lt_zero _)
    | succ fuel ih10 =>
      intro k t hk ht hfu H locs ls hw hl
      have h22 : t 22 = nI n := by rw [ht, goN_out hn (by omega)]; exact ha
      refine lv_iload_n hx hb dX6_bitesIn_10 rfl (lv_at hl 3 rfl) ?_
      refine lv_iload_n hx hb dX6_bitesIn_11 rfl (lv_at hl 1 rfl) ?_
      refine lv_icmp_ge (tgt := 28) hx hb dX6_bitesIn_12 rfl (fun cq12 => ?_) (fun cq12 => ?_)
      · skip
        have cq12 : mm ≤ k := (cv_le (a := mm) (b := k) hv_x rfl (by omega) (by omega)).mp cq12
        have ek : k = mm := by omega
        refine lv_aload_n hx hb dX6_bitesIn_28 rfl (lv_at hl 0 rfl) ?_
        refine x_get E hw fw_X6_16 0 rfl rfl dX6_bitesIn_29 ?_
        refine lv_bipush (v := 18) hx hb dX6_bitesIn_32 rfl ?_
        refine x_iald E hw 3 rfl 18 (rfl) (by omega) (by omega) dX6_bitesIn_34 ?_
        refine lv_iload_n hx hb dX6_bitesIn_35 rfl (lv_at hl 2 rfl) ?_
        refine lv_isub hx hb dX6_bitesIn_36 ?_
        exact x_iret E hA rt hw dX6_bitesIn_37 (by rw [ht, ek]; rfl) (by rw [ht, ek])
      · skip
        have cq12 : ¬ mm ≤ k := fun h => cq12 ((cv_le (a := mm) (b := k) hv_x rfl (by omega) (by omega)).mpr h)
        refine lv_aload_n hx hb dX6_bitesIn_15 rfl (lv_at hl 0 rfl) ?_
        refine x_get E hw fw_X6_16 0 rfl rfl dX6_bitesIn_16 ?_
        refine x_callS (is := [3]) (As := [.ref (b 3)]) (rest := []) (st1 := []) (ws' := mW G b nw rd (goM t n) img kpt txt sz abv blw bds nos fls att bgn tkn wrd vlu sts bst) E (c_X6_goes l G (b 3) t 35 n (by omega) (by omega) (h22) (by omega)) sw_X6_193 hw [3] rfl rfl rfl rfl hl.1 rfl rfl (Nat.le_of_ble_eq_true rfl) ⟨Nat.le_of_ble_eq_true rfl, Nat.le_of_ble_eq_true rfl⟩ (Nat.zero_le _) (Nat.zero_le _) dX6_bitesIn_19 rfl rfl (fun H locs hw => ?_)
        refine lv_iinc (v := nI (k + 1)) (lv' := [(3, .int (nI (k + 1))), (0, .ref (b 0)), (1, .int x), (2, .int (asd 18))]) hx hb dX6_bitesIn_22 hl (k := 3) rfl (nI_add _ 1) (by decide) rfl (fun ls hl => ?_)
        refine lv_goto (tgt := 10) hx hb dX6_bitesIn_25 rfl ?_
        exact ih10 (k + 1) (goM t n) (by omega) (by rw [ht]; rfl) (by omega) _ _ _ hw (lv_sub hl [1, 2, 3, 0] rfl)
  exact lp10 (mm - 0 + 1) 0 asd (by omega) (rfl) (by omega) _ _ _ hw (lv_sub hl [2, 3, 1, 0] rfl)
set_option maxHeartbeats 1000000 in
set_option maxRecDepth 100000 in
theorem c_X6_then (l : Launch) (G : GG) (b : Nat → Nat) (x : Int32) (y : Int32) (nw : Nat → Int32) (rd : Nat → Int32) (asd : Nat → Int32) (img : Nat → Int32) (kpt : Nat → Int32) (txt : Nat → Int32) (sz : Int32) (abv : Int64) (blw : Int64) (bds : Int32) (nos : Int32) (fls : Int32) (att : Int32) (bgn : Int32) (tkn : Int32) (wrd : Int64) (vlu : Int32) (sts : Nat → Int32) (bst : Nat → Int32) (n : Nat) (hc : nw 22 = nI n) (hn : n ≤ 6) : CE l G yX6_then cX6_then 4 (some .int) 7 157 [.ref (b 0), .int x, .int y] (mW G b nw rd asd img kpt txt sz abv blw bds nos fls att bgn tkn wrd vlu sts bst) (some (.int (if inI x 0 60 = true ∧ (y = -1 ∨ inI y 0 (nw 22 - 1) = true) then (if y = -1 then (goN n x.toNatClampNeg nw) 18 else (goN n x.toNatClampNeg nw) (12 + y.toNatClampNeg)) else -2))) (fun uu : (Nat → Int32) => mW G b nw rd uu img kpt txt sz abv blw (if inI x 0 60 = true ∧ (y = -1 ∨ inI y 0 (nw 22 - 1) = true) then bds else bds + 1) nos fls att bgn tkn wrd vlu sts bst) := by
  refine CE.mk (own := RX6) (la := [(0, .ref (b 0)), (1, .int x), (2, .int y)]) (by decide) rfl (Nat.le_of_ble_eq_true rfl) rfl ?_
  intro p e s m args below meth c A Q E hA hw rt ls hl
  have hx := E.1
  have hb := E.2.1
  refine lv_iload_n hx hb dX6_then_0 rfl (lv_at hl 1 rfl) ?_
  refine lv_i2l (v := x.toInt64) hx hb dX6_then_1 rfl ?_
  refine lv_lconst (v := 0) hx hb dX6_then_2 rfl ?_
  refine lv_ldc2 hx hb E.2.2.2.1 (E.2.2.2.2.2.2.w kc_X6_188) dX6_then_3 ?_
  refine x_callS (is := []) (As := [.long x.toInt64, .long 0, .long 60]) (rest := []) (st1 := [.int (bI (inL x.toInt64 0 60))]) (ws' := mW G b nw rd asd img kpt txt sz abv blw bds nos fls att bgn tkn wrd vlu sts bst) E (c_X6_in l G x.toInt64 0 60) sw_X6_55 hw [] rfl rfl rfl rfl hl.1 rfl rfl (Nat.le_of_ble_eq_true rfl) ⟨Nat.le_of_ble_eq_true rfl, Nat.le_of_ble_eq_true rfl⟩ (Nat.zero_le _) (Nat.zero_le _) dX6_then_6 rfl rfl (fun H locs hw => ?_)
  refine x_topi (y := bI (inI x 0 60)) (congrArg bI (inL_I x 0 60 rfl rfl)) ?_
  refine lv_if_eq (tgt := 25) hx hb dX6_then_9 rfl (fun cq9 => ?_) (fun cq9 => ?_)
  · skip
    have cq9 := bI_0.mp cq9
    refine lv_aload_n hx hb dX6_then_25 rfl (lv_at hl 0 rfl) ?_
    refine x_callV (is := [0, 1, 2, 3, 4, 5, 6, 7, 8]) (q0 := 0) (As := []) (rest := []) (st1 := [.int (-2)]) (ws' := mW G b nw rd asd img kpt txt sz abv blw (bds + 1) nos fls att bgn tkn wrd vlu sts bst) E (c_X6_bad l G b nw rd asd img kpt txt sz abv blw bds nos fls att bgn tkn wrd vlu sts bst) vw_X6_63 hw [0, 1, 2, 3, 4, 5, 6, 7, 8] rfl rfl rfl rfl rfl rfl rfl hl.1 rfl rfl (Nat.le_of_ble_eq_true rfl) ⟨Nat.le_of_ble_eq_true rfl, Nat.le_of_ble_eq_true rfl⟩ (Nat.zero_le _) (Nat.zero_le _) dX6_then_26 rfl rfl (fun H locs hw => ?_)
    exact x_iretE (asd) E hA rt hw dX6_then_29 (by simp [cq9]) (by simp [cq9])
  · skip
    have cq9 := bI_n0.mp cq9
    obtain ⟨mm, hm1, hm2, em⟩ := inI_nat (a := 0) (b := 60) (by omega) (by omega) rfl rfl cq9
    have exm : x.toNatClampNeg = mm := by rw [em, nI_clamp (by omega)]
    refine lv_iload_n hx hb dX6_then_12 rfl (lv_at hl 2 rfl) ?_
    refine lv_iconst (v := -1) hx hb dX6_then_13 rfl ?_
    refine lv_icmp_eq (tgt := 30) hx hb dX6_then_14 rfl (fun cq14 => ?_) (fun cq14 => ?_)
    · skip
      refine lv_aload_n hx hb dX6_then_30 rfl (lv_at hl 0 rfl) ?_
      refine x_callV (is := [0, 1, 2, 3, 4, 5, 6, 7, 8]) (q0 := 0) (As := []) (rest := []) (st1 := []) (ws' := mW G b nw rd nw img kpt txt sz abv blw bds nos fls att bgn tkn wrd vlu sts bst) E (c_X6_layAside l G b nw rd asd img kpt txt sz abv blw bds nos fls att bgn tkn wrd vlu sts bst) vw_X6_205 hw [0, 1, 2, 3, 4, 5, 6, 7, 8] rfl rfl rfl rfl rfl rfl rfl hl.1 rfl rfl (Nat.le_of_ble_eq_true rfl) ⟨Nat.le_of_ble_eq_true rfl, Nat.le_of_ble_eq_true rfl⟩ (Nat.zero_le _) (Nat.zero_le _) dX6_then_31 rfl rfl (fun H locs hw => ?_)
      refine lv_aload_n hx hb dX6_then_34 rfl (lv_at hl 0 rfl) ?_
      refine lv_iload_n hx hb dX6_then_35 rfl (lv_at hl 1 rfl) ?_
      refine x_callV (is := [0, 1, 2, 3, 4, 5, 6, 7, 8]) (q0 := 0) (As := [.int x]) (rest := []) (st1 := [.int (brM n mm nw)]) (ws' := mW G b nw rd (goN n mm nw) img kpt txt sz abv blw bds nos fls att bgn tkn wrd vlu sts bst) E (c_X6_bitesIn l G b x mm (em) nw rd nw img kpt txt sz abv blw bds nos fls att bgn tkn wrd vlu sts bst n (hc) (by omega) (by omega)) vw_X6_208 hw [0, 1, 2, 3, 4, 5, 6, 7, 8] rfl rfl rfl rfl rfl rfl rfl hl.1 rfl rfl (Nat.le_of_ble_eq_true rfl) ⟨Nat.le_of_ble_eq_true rfl, Nat.le_of_ble_eq_true rfl⟩ (Nat.zero_le _) (Nat.zero_le _) dX6_then_36 rfl rfl (fun H locs hw => ?_)
      refine lv_istore_n (lv' := [(3, .int (brM n mm nw)), (0, .ref (b 0)), (1, .int x), (2, .int y)]) hx hb dX6_then_39 rfl hl (by decide) rfl (fun ls hl => ?_)
      refine lv_iload_n hx hb dX6_then_40 rfl (lv_at hl 3 rfl) ?_
      refine lv_iconst (v := -1) hx hb dX6_then_41 rfl ?_
      refine lv_icmp_ne (tgt := 55) hx hb dX6_then_42 rfl (fun cq42 => ?_) (fun cq42 => ?_)
      · skip
        exact absurd cq14 cq42
      · skip
        refine lv_aload_n hx hb dX6_then_45 rfl (lv_at hl 1 rfl) ?_
        refine x_get E hw fw_X6_16 0 rfl rfl dX6_then_46 ?_
        refine lv_bipush (v := 18) hx hb dX6_then_49 rfl ?_
        refine x_iald E hw 3 rfl 18 (rfl) (by omega) (by omega) dX6_then_51 ?_
        refine lv_goto (tgt := 64) hx hb dX6_then_52 rfl ?_
        exact x_iretE (goN n mm nw) E hA rt hw dX6_then_64 (by simp [cq9, cq14, cq42, exm]) (by simp [cq9, cq14, cq42])
    · skip
      refine lv_aload_n hx hb dX6_then_17 rfl (lv_at hl 0 rfl) ?_
      refine lv_iload_n hx hb dX6_then_18 rfl (lv_at hl 2 rfl) ?_
      refine x_callV (is := [0, 1, 2, 3, 4, 5, 6, 7, 8]) (q0 := 0) (As := [.int y]) (rest := []) (st1 := [.int (bI (inI y 0 (nw 22 - 1)))]) (ws' := mW G b nw rd asd img kpt txt sz abv blw bds nos fls att bgn tkn wrd vlu sts bst) E (c_X6_isChild l G b y nw rd asd img kpt txt sz abv blw bds nos fls att bgn tkn wrd vlu sts bst) vw_X6_197 hw [0, 1, 2, 3, 4, 5, 6, 7, 8] rfl rfl rfl rfl rfl rfl rfl hl.1 rfl rfl (Nat.le_of_ble_eq_true rfl) ⟨Nat.le_of_ble_eq_true rfl, Nat.le_of_ble_eq_true rfl⟩ (Nat.zero_le _) (Nat.zero_le _) dX6_then_19 rfl rfl (fun H locs hw => ?_)
      refine lv_if_ne (tgt := 30) hx hb dX6_then_22 rfl (fun cq22 => ?_) (fun cq22 => ?_)
      · skip
        have cq22 := bI_n0.mp cq22
        obtain ⟨k, hk, ek⟩ := inI_child hc hn cq22
        have eyk : y.toNatClampNeg = k := by rw [ek, nI_clamp (by omega)]
        refine lv_aload_n hx hb dX6_then_30 rfl (lv_at hl 0 rfl) ?_
        refine x_callV (is := [0, 1, 2, 3, 4, 5, 6, 7, 8]) (q0 := 0) (As := []) (rest := []) (st1 := []) (ws' := mW G b nw rd nw img kpt txt sz abv blw bds nos fls att bgn tkn wrd vlu sts bst) E (c_X6_layAside l G b nw rd asd img kpt txt sz abv blw bds nos fls att bgn tkn wrd vlu sts bst) vw_X6_205 hw [0, 1, 2, 3, 4, 5, 6, 7, 8] rfl rfl rfl rfl rfl rfl rfl hl.1 rfl rfl (Nat.le_of_ble_eq_true rfl) ⟨Nat.le_of_ble_eq_true rfl, Nat.le_of_ble_eq_true rfl⟩ (Nat.zero_le _) (Nat.zero_le _) dX6_then_31 rfl rfl (fun H locs hw => ?_)
        refine lv_aload_n hx hb dX6_then_34 rfl (lv_at hl 0 rfl) ?_
        refine lv_iload_n hx hb dX6_then_35 rfl (lv_at hl 1 rfl) ?_
        refine x_callV (is := [0, 1, 2, 3, 4, 5, 6, 7, 8]) (q0 := 0) (As := [.int x]) (rest := []) (st1 := [.int (brM n mm nw)]) (ws' := mW G b nw rd (goN n mm nw) img kpt txt sz abv blw bds nos fls att bgn tkn wrd vlu sts bst) E (c_X6_bitesIn l G b x mm (em) nw rd nw img kpt txt sz abv blw bds nos fls att bgn tkn wrd vlu sts bst n (hc) (by omega) (by omega)) vw_X6_208 hw [0, 1, 2, 3, 4, 5, 6, 7, 8] rfl rfl rfl rfl rfl rfl rfl hl.1 rfl rfl (Nat.le_of_ble_eq_true rfl) ⟨Nat.le_of_ble_eq_true rfl, Nat.le_of_ble_eq_true rfl⟩ (Nat.zero_le _) (Nat.zero_le _) dX6_then_36 rfl rfl (fun H locs hw => ?_)
        refine lv_istore_n (lv' := [(3, .int (brM n mm nw)), (0, .ref (b 0)), (1, .int x), (2, .int y)]) hx hb dX6_then_39 rfl hl (by decide) rfl (fun ls hl => ?_)
        refine lv_iload_n hx hb dX6_then_40 rfl (lv_at hl 3 rfl) ?_
        refine lv_iconst (v := -1) hx hb dX6_then_41 rfl ?_
        refine lv_icmp_ne (tgt := 55) hx hb dX6_then_42 rfl (fun cq42 => ?_) (fun cq42 => ?_)
        · skip
          refine lv_aload_n hx hb dX6_then_55 rfl (lv_at hl 1 rfl) ?_
          refine x_get E hw fw_X6_16 0 rfl rfl dX6_then_56 ?_
          refine lv_bipush (v := 12) hx hb dX6_then_59 rfl ?_
          refine lv_iload_n hx hb dX6_then_61 rfl (lv_at hl 3 rfl) ?_
          refine lv_iadd hx hb dX6_then_62 ?_
          refine x_iald E hw 3 rfl (12 + k) ((ix_add (a := 12) (b := k) rfl ek)) (by omega) (by omega) dX6_then_63 ?_
          exact x_iretE (goN n mm nw) E hA rt hw dX6_then_64 (by simp [cq9, cq14, cq22, cq42, exm, eyk]) (by simp [cq9, cq14, cq22, cq42])
        · skip
          exact absurd cq42 cq14
      · skip
        have cq22 := bI_0.mp cq22
        refine lv_aload_n hx hb dX6_then_25 rfl (lv_at hl 0 rfl) ?_
        refine x_callV (is := [0, 1, 2, 3, 4, 5, 6, 7, 8]) (q0 := 0) (As := []) (rest := []) (st1 := [.int (-2)]) (ws' := mW G b nw rd asd img kpt txt sz abv blw (bds + 1) nos fls att bgn tkn wrd vlu sts bst) E (c_X6_bad l G b nw rd asd img kpt txt sz abv blw bds nos fls att bgn tkn wrd vlu sts bst) vw_X6_63 hw [0, 1, 2, 3, 4, 5, 6, 7, 8] rfl rfl rfl rfl rfl rfl rfl hl.1 rfl rfl (Nat.le_of_ble_eq_true rfl) ⟨Nat.le_of_ble_eq_true rfl, Nat.le_of_ble_eq_true rfl⟩ (Nat.zero_le _) (Nat.zero_le _) dX6_then_26 rfl rfl (fun H locs hw => ?_)
        exact x_iretE (asd) E hA rt hw dX6_then_29 (by simp [cq9, cq14, cq22, exm]) (by simp [cq9, cq14, cq22])
set_option maxHeartbeats 1000000 in
set_option maxRecDepth 100000 in
theorem c_X6_quiet (l : Launch) (G : GG) (b : Nat → Nat) (nw : Nat → Int32) (rd : Nat → Int32) (asd : Nat → Int32) (img : Nat → Int32) (kpt : Nat → Int32) (txt : Nat → Int32) (sz : Int32) (abv : Int64) (blw : Int64) (bds : Int32) (nos : Int32) (fls : Int32) (att : Int32) (bgn : Int32) (tkn : Int32) (wrd : Int64) (vlu : Int32) (sts : Nat → Int32) (bst : Nat → Int32) (n : Nat) (hc : nw 22 = nI n) (hn : n ≤ 6) : CE l G yX6_quiet cX6_quiet 2 (some .int) 7 157 [.ref (b 0)] (mW G b nw rd asd img kpt txt sz abv blw bds nos fls att bgn tkn wrd vlu sts bst) (some (.int (qtM n 60 1 nw))) (fun uu : (Nat → Int32) => mW G b nw rd uu img kpt txt sz abv blw bds nos fls att bgn tkn wrd vlu sts bst) := by
  refine CE.mk (own := RX6) (la := [(0, .ref (b 0))]) (by decide) rfl (Nat.le_of_ble_eq_true rfl) rfl ?_
  intro p e s m args below meth c A Q E hA hw rt ls hl
  have hx := E.1
  have hb := E.2.1
  refine lv_aload_n hx hb dX6_quiet_0 rfl (lv_at hl 0 rfl) ?_
  refine x_callV (is := [0, 1, 2, 3, 4, 5, 6, 7, 8]) (q0 := 0) (As := []) (rest := []) (st1 := []) (ws' := mW G b nw rd nw img kpt txt sz abv blw bds nos fls att bgn tkn wrd vlu sts bst) E (c_X6_layAside l G b nw rd asd img kpt txt sz abv blw bds nos fls att bgn tkn wrd vlu sts bst) vw_X6_205 hw [0, 1, 2, 3, 4, 5, 6, 7, 8] rfl rfl rfl rfl rfl rfl rfl hl.1 rfl rfl (Nat.le_of_ble_eq_true rfl) ⟨Nat.le_of_ble_eq_true rfl, Nat.le_of_ble_eq_true rfl⟩ (Nat.zero_le _) (Nat.zero_le _) dX6_quiet_1 rfl rfl (fun H locs hw => ?_)
  refine lv_iconst (v := 1) hx hb dX6_quiet_4 rfl ?_
  refine lv_istore_n (lv' := [(1, .int 1), (0, .ref (b 0))]) hx hb dX6_quiet_5 rfl hl (by decide) rfl (fun ls hl => ?_)
  have lp6 : ∀ (fuel : Nat), ∀ (k : Nat) (t : Nat → Int32) (hk : k ≤ 61) (ht : qtM n 60 1 nw = qtM n (61 - k) k t) (h22 : t 22 = nI n), (61 - k) < fuel → ∀ (H : Heap) (locs : List Loc) (ls : Array Slot), Wd G A s H locs (mW G b nw rd t img kpt txt sz abv blw bds nos fls att bgn tkn wrd vlu sts bst) → lv_has ls 2 [(0, .ref (b 0)), (1, .int (nI k))] → W p l e (rmx 7 157) s m args below meth c H locs 0 0 Q (F0 m 6 ls []) := by
    intro fuel
    induction fuel with
    | zero => intro k t hk ht h22 hfu; exact absurd hfu (Nat.not_lt_zero _)
    | succ fuel ih6 =>
      intro k t hk ht h22 hfu H locs ls hw hl
      refine lv_iload_n hx hb dX6_quiet_6 rfl (lv_at hl 1 rfl) ?_
      refine lv_bipush (v := 61) hx hb dX6_quiet_7 rfl ?_
      refine lv_icmp_ge (tgt := 28) hx hb dX6_quiet_9 rfl (fun cq9 => ?_) (fun cq9 => ?_)
      · skip
        have cq9 : 61 ≤ k := (cv_le (a := 61) (b := k) rfl rfl (by omega) (by omega)).mp cq9
        refine lv_iconst (v := -1) hx hb dX6_quiet_28 rfl ?_
        exact x_iretE (t) E hA rt hw dX6_quiet_29 (by rw [ht, qtM_end (by omega)]) rfl
      · skip
        have cq9 : ¬ 61 ≤ k := fun h => cq9 ((cv_le (a := 61) (b := k) rfl rfl (by omega) (by omega)).mpr h)
        refine lv_aload_n hx hb dX6_quiet_12 rfl (lv_at hl 0 rfl) ?_
        refine lv_iconst (v := 1) hx hb dX6_quiet_13 rfl ?_
        refine x_callV (is := [0, 1, 2, 3, 4, 5, 6, 7, 8]) (q0 := 0) (As := [.int 1]) (rest := []) (st1 := [.int (brM n 1 t)]) (ws' := mW G b nw rd (goN n 1 t) img kpt txt sz abv blw bds nos fls att bgn tkn wrd vlu sts bst) E (c_X6_bitesIn l G b 1 1 (rfl) nw rd t img kpt txt sz abv blw bds nos fls att bgn tkn wrd vlu sts bst n (h22) (by omega) (by omega)) vw_X6_208 hw [0, 1, 2, 3, 4, 5, 6, 7, 8] rfl rfl rfl rfl rfl rfl rfl hl.1 rfl rfl (Nat.le_of_ble_eq_true rfl) ⟨Nat.le_of_ble_eq_true rfl, Nat.le_of_ble_eq_true rfl⟩ (Nat.zero_le _) (Nat.zero_le _) dX6_quiet_14 rfl rfl (fun H locs hw => ?_)
        refine lv_if_le (tgt := 22) hx hb dX6_quiet_17 rfl (fun cq17 => ?_) (fun cq17 => ?_)
        · skip
          refine lv_iinc (v := nI (k + 1)) (lv' := [(1, .int (nI (k + 1))), (0, .ref (b 0))]) hx hb dX6_quiet_22 hl (k := 1) rfl (nI_add _ 1) (by decide) rfl (fun ls hl => ?_)
          refine lv_goto (tgt := 6) hx hb dX6_quiet_25 rfl ?_
          exact ih6 (k + 1) (goN n 1 t) (by omega) (by rw [ht, qtM_step (by omega), if_pos cq17]; rfl) (by rw [goN_out hn (by omega)]; exact h22) (by omega) _ _ _ hw (lv_sub hl [1, 0] rfl)
        · skip
          refine lv_iload_n hx hb dX6_quiet_20 rfl (lv_at hl 1 rfl) ?_
          exact x_iretE (goN n 1 t) E hA rt hw dX6_quiet_21 (by rw [ht, qtM_step (by omega), if_neg cq17]) rfl
  exact lp6 (61 - 1 + 1) 1 nw (by omega) (rfl) (hc) (by omega) _ _ _ hw (lv_sub hl [1, 0] rfl)
set_option maxHeartbeats 1000000 in
set_option maxRecDepth 100000 in
theorem c_X6_stand (l : Launch) (G : GG) (b : Nat → Nat) (x : Int32) (y : Int32) (nw : Nat → Int32) (rd : Nat → Int32) (asd : Nat → Int32) (img : Nat → Int32) (kpt : Nat → Int32) (txt : Nat → Int32) (sz : Int32) (abv : Int64) (blw : Int64) (bds : Int32) (nos : Int32) (fls : Int32) (att : Int32) (bgn : Int32) (tkn : Int32) (wrd : Int64) (vlu : Int32) (sts : Nat → Int32) (bst : Nat → Int32) (n : Nat) (hc : nw 22 = nI n) (hn : n ≤ 6) : CE l G yX6_stand cX6_stand 7 (some .int) 7 157 [.ref (b 0), .int x, .int y] (mW G b nw rd asd img kpt txt sz abv blw bds nos fls att bgn tkn wrd vlu sts bst) (some (.int (if inI x 1 60 = true ∧ inI y 0 1 = true then (if y = 0 then (am (fun s => brM n x.toNatClampNeg (upd nw 20 (nI s))) nI (-1) 1000000 8).1 else (am (fun s => brM n x.toNatClampNeg (upd nw 20 (nI s))) nI (-1) 1000000 8).2) else -2))) (fun uu : (Nat → Int32) => mW G b nw rd uu img kpt txt sz abv blw (if inI x 1 60 = true ∧ inI y 0 1 = true then bds else bds + 1) nos fls att bgn tkn wrd vlu sts bst) := by
  refine CE.mk (own := RX6) (la := [(0, .ref (b 0)), (1, .int x), (2, .int y)]) (by decide) rfl (Nat.le_of_ble_eq_true rfl) rfl ?_
  intro p e s m args below meth c A Q E hA hw rt ls hl
  have hx := E.1
  have hb := E.2.1
  refine lv_iload_n hx hb dX6_stand_0 rfl (lv_at hl 1 rfl) ?_
  refine lv_i2l (v := x.toInt64) hx hb dX6_stand_1 rfl ?_
  refine lv_lconst (v := 1) hx hb dX6_stand_2 rfl ?_
  refine lv_ldc2 hx hb E.2.2.2.1 (E.2.2.2.2.2.2.w kc_X6_188) dX6_stand_3 ?_
  refine x_callS (is := []) (As := [.long x.toInt64, .long 1, .long 60]) (rest := []) (st1 := [.int (bI (inL x.toInt64 1 60))]) (ws' := mW G b nw rd asd img kpt txt sz abv blw bds nos fls att bgn tkn wrd vlu sts bst) E (c_X6_in l G x.toInt64 1 60) sw_X6_55 hw [] rfl rfl rfl rfl hl.1 rfl rfl (Nat.le_of_ble_eq_true rfl) ⟨Nat.le_of_ble_eq_true rfl, Nat.le_of_ble_eq_true rfl⟩ (Nat.zero_le _) (Nat.zero_le _) dX6_stand_6 rfl rfl (fun H locs hw => ?_)
  refine x_topi (y := bI (inI x 1 60)) (congrArg bI (inL_I x 1 60 rfl rfl)) ?_
  refine lv_if_eq (tgt := 22) hx hb dX6_stand_9 rfl (fun cq9 => ?_) (fun cq9 => ?_)
  · skip
    have cq9 := bI_0.mp cq9
    refine lv_aload_n hx hb dX6_stand_22 rfl (lv_at hl 0 rfl) ?_
    refine x_callV (is := [0, 1, 2, 3, 4, 5, 6, 7, 8]) (q0 := 0) (As := []) (rest := []) (st1 := [.int (-2)]) (ws' := mW G b nw rd asd img kpt txt sz abv blw (bds + 1) nos fls att bgn tkn wrd vlu sts bst) E (c_X6_bad l G b nw rd asd img kpt txt sz abv blw bds nos fls att bgn tkn wrd vlu sts bst) vw_X6_63 hw [0, 1, 2, 3, 4, 5, 6, 7, 8] rfl rfl rfl rfl rfl rfl rfl hl.1 rfl rfl (Nat.le_of_ble_eq_true rfl) ⟨Nat.le_of_ble_eq_true rfl, Nat.le_of_ble_eq_true rfl⟩ (Nat.zero_le _) (Nat.zero_le _) dX6_stand_23 rfl rfl (fun H locs hw => ?_)
    exact x_iretE (asd) E hA rt hw dX6_stand_26 (by simp [cq9]) (by simp [cq9])
  · skip
    have cq9 := bI_n0.mp cq9
    obtain ⟨mm, hm1, hm2, em⟩ := inI_nat (a := 1) (b := 60) (by omega) (by omega) rfl rfl cq9
    have exm : x.toNatClampNeg = mm := by rw [em, nI_clamp (by omega)]
    refine lv_iload_n hx hb dX6_stand_12 rfl (lv_at hl 2 rfl) ?_
    refine lv_i2l (v := y.toInt64) hx hb dX6_stand_13 rfl ?_
    refine lv_lconst (v := 0) hx hb dX6_stand_14 rfl ?_
    refine lv_lconst (v := 1) hx hb dX6_stand_15 rfl ?_
    refine x_callS (is := []) (As := [.long y.toInt64, .long 0, .long 1]) (rest := []) (st1 := [.int (bI (inL y.toInt64 0 1))]) (ws' := mW G b nw rd asd img kpt txt sz abv blw bds nos fls att bgn tkn wrd vlu sts bst) E (c_X6_in l G y.toInt64 0 1) sw_X6_55 hw [] rfl rfl rfl rfl hl.1 rfl rfl (Nat.le_of_ble_eq_true rfl) ⟨Nat.le_of_ble_eq_true rfl, Nat.le_of_ble_eq_true rfl⟩ (Nat.zero_le _) (Nat.zero_le _) dX6_stand_16 rfl rfl (fun H locs hw => ?_)
    refine x_topi (y := bI (inI y 0 1)) (congrArg bI (inL_I y 0 1 rfl rfl)) ?_
    refine lv_if_ne (tgt := 27) hx hb dX6_stand_19 rfl (fun cq19 => ?_) (fun cq19 => ?_)
    · skip
      have cq19 := bI_n0.mp cq19
      refine lv_iconst (v := -1) hx hb dX6_stand_27 rfl ?_
      refine lv_istore_n (lv' := [(3, .int (-1)), (0, .ref (b 0)), (1, .int x), (2, .int y)]) hx hb dX6_stand_28 rfl hl (by decide) rfl (fun ls hl => ?_)
      refine lv_ldc hx hb E.2.2.2.1 (E.2.2.2.2.2.2.w kc_X6_211) dX6_stand_29 ?_
      refine lv_istore (lv' := [(4, .int 1000000), (3, .int (-1)), (0, .ref (b 0)), (1, .int x), (2, .int y)]) hx hb dX6_stand_31 hl (by decide) rfl (fun ls hl => ?_)
      refine lv_iconst (v := 0) hx hb dX6_stand_33 rfl ?_
      refine lv_istore (lv' := [(5, .int 0), (4, .int 1000000), (3, .int (-1)), (0, .ref (b 0)), (1, .int x), (2, .int y)]) hx hb dX6_stand_34 hl (by decide) rfl (fun ls hl => ?_)
      have lp36 : ∀ (fuel : Nat), ∀ (k : Nat) (w_ : Int32) (f_ : Int32) (t : Nat → Int32) (hk : k ≤ 8) (h1 : w_ = (am (fun s => brM n mm (upd nw 20 (nI s))) nI (-1) 1000000 k).1) (h2 : f_ = (am (fun s => brM n mm (upd nw 20 (nI s))) nI (-1) 1000000 k).2), (8 - k) < fuel → ∀ (H : Heap) (locs : List Loc) (ls : Array Slot), Wd G A s H locs (mW G b nw rd t img kpt txt sz abv blw bds nos fls att bgn tkn wrd vlu sts bst) → lv_has ls 7 [(0, .ref (b 0)), (1, .int x), (2, .int y), (3, .int w_), (4, .int f_), (5, .int (nI k))] → W p l e (rmx 7 157) s m args below meth c H locs 0 0 Q (F0 m 36 ls []) := by
        intro fuel
        induction fuel with
        | zero => intro k w_ f_ t hk h1 h2 hfu; exact absurd hfu (Nat.not_lt_zero _)
        | succ fuel ih36 =>
          intro k w_ f_ t hk h1 h2 hfu H locs ls hw hl
          refine lv_iload hx hb dX6_stand_36 (lv_at hl 5 rfl) ?_
          refine lv_bipush (v := 8) hx hb dX6_stand_38 rfl ?_
          refine lv_icmp_ge (tgt := 99) hx hb dX6_stand_40 rfl (fun cq40 => ?_) (fun cq40 => ?_)
          · skip
            have cq40 : 8 ≤ k := (cv_le (a := 8) (b := k) rfl rfl (by omega) (by omega)).mp cq40
            have ek : k = 8 := by omega
            refine lv_iload_n hx hb dX6_stand_99 rfl (lv_at hl 2 rfl) ?_
            refine lv_if_ne (tgt := 107) hx hb dX6_stand_100 rfl (fun cq100 => ?_) (fun cq100 => ?_)
            · skip
              refine lv_iload hx hb dX6_stand_107 (lv_at hl 4 rfl) ?_
              exact x_iretE (t) E hA rt hw dX6_stand_109 (by rw [h2, ek, if_pos ⟨cq9, cq19⟩]; simp [cq100, exm]) (by rw [if_pos ⟨cq9, cq19⟩])
            · skip
              refine lv_iload_n hx hb dX6_stand_103 rfl (lv_at hl 3 rfl) ?_
              refine lv_goto (tgt := 109) hx hb dX6_stand_104 rfl ?_
              exact x_iretE (t) E hA rt hw dX6_stand_109 (by rw [h1, ek, if_pos ⟨cq9, cq19⟩]; simp [cq100, exm]) (by rw [if_pos ⟨cq9, cq19⟩])
          · skip
            have cq40 : ¬ 8 ≤ k := fun h => cq40 ((cv_le (a := 8) (b := k) rfl rfl (by omega) (by omega)).mpr h)
            refine lv_aload_n hx hb dX6_stand_43 rfl (lv_at hl 0 rfl) ?_
            refine x_callV (is := [0, 1, 2, 3, 4, 5, 6, 7, 8]) (q0 := 0) (As := []) (rest := []) (st1 := []) (ws' := mW G b nw rd nw img kpt txt sz abv blw bds nos fls att bgn tkn wrd vlu sts bst) E (c_X6_layAside l G b nw rd t img kpt txt sz abv blw bds nos fls att bgn tkn wrd vlu sts bst) vw_X6_205 hw [0, 1, 2, 3, 4, 5, 6, 7, 8] rfl rfl rfl rfl rfl rfl rfl hl.1 rfl rfl (Nat.le_of_ble_eq_true rfl) ⟨Nat.le_of_ble_eq_true rfl, Nat.le_of_ble_eq_true rfl⟩ (Nat.zero_le _) (Nat.zero_le _) dX6_stand_44 rfl rfl (fun H locs hw => ?_)
            refine lv_aload_n hx hb dX6_stand_47 rfl (lv_at hl 0 rfl) ?_
            refine x_get E hw fw_X6_16 0 rfl rfl dX6_stand_48 ?_
            refine lv_bipush (v := 20) hx hb dX6_stand_51 rfl ?_
            refine lv_iload hx hb dX6_stand_53 (lv_at hl 5 rfl) ?_
            refine x_iast (ws' := mW G b nw rd (upd nw 20 (nI k)) img kpt txt sz abv blw bds nos fls att bgn tkn wrd vlu sts bst) E hw 3 rfl 20 (rfl) (by omega) (by omega) dX6_stand_55 rfl (fun H locs hw => ?_)
            refine lv_aload_n hx hb dX6_stand_56 rfl (lv_at hl 0 rfl) ?_
            refine lv_iload_n hx hb dX6_stand_57 rfl (lv_at hl 1 rfl) ?_
            refine x_callV (is := [0, 1, 2, 3, 4, 5, 6, 7, 8]) (q0 := 0) (As := [.int x]) (rest := []) (st1 := [.int (brM n mm (upd nw 20 (nI k)))]) (ws' := mW G b nw rd (goN n mm (upd nw 20 (nI k))) img kpt txt sz abv blw bds nos fls att bgn tkn wrd vlu sts bst) E (c_X6_bitesIn l G b x mm (em) nw rd (upd nw 20 (nI k)) img kpt txt sz abv blw bds nos fls att bgn tkn wrd vlu sts bst n (by rw [upd_ne _ _ (by omega)]; exact hc) (by omega) (by omega)) vw_X6_208 hw [0, 1, 2, 3, 4, 5, 6, 7, 8] rfl rfl rfl rfl rfl rfl rfl hl.1 rfl rfl (Nat.le_of_ble_eq_true rfl) ⟨Nat.le_of_ble_eq_true rfl, Nat.le_of_ble_eq_true rfl⟩ (Nat.zero_le _) (Nat.zero_le _) dX6_stand_58 rfl rfl (fun H locs hw => ?_)
            refine lv_istore (lv' := [(6, .int (brM n mm (upd nw 20 (nI k)))), (0, .ref (b 0)), (1, .int x), (2, .int y), (3, .int w_), (4, .int f_), (5, .int (nI k))]) hx hb dX6_stand_61 hl (by decide) rfl (fun ls hl => ?_)
            refine lv_iload hx hb dX6_stand_63 (lv_at hl 0 rfl) ?_
            refine lv_iload hx hb dX6_stand_65 (lv_at hl 5 rfl) ?_
            refine lv_icmp_ge (tgt := 75) hx hb dX6_stand_67 rfl (fun cq67 => ?_) (fun cq67 => ?_)
            · skip
              refine lv_iload_n hx hb dX6_stand_75 rfl (lv_at hl 4 rfl) ?_
              refine lv_istore_n (lv' := [(3, .int w_), (6, .int (brM n mm (upd nw 20 (nI k)))), (0, .ref (b 0)), (1, .int x), (2, .int y), (4, .int f_), (5, .int (nI k))]) hx hb dX6_stand_76 rfl hl (by decide) rfl (fun ls hl => ?_)
              refine lv_iload hx hb dX6_stand_77 (lv_at hl 1 rfl) ?_
              refine lv_iload hx hb dX6_stand_79 (lv_at hl 5 rfl) ?_
              refine lv_icmp_ge (tgt := 89) hx hb dX6_stand_81 rfl (fun cq81 => ?_) (fun cq81 => ?_)
              · skip
                refine lv_iload hx hb dX6_stand_89 (lv_at hl 5 rfl) ?_
                refine lv_istore (lv' := [(4, .int f_), (3, .int w_), (6, .int (brM n mm (upd nw 20 (nI k)))), (0, .ref (b 0)), (1, .int x), (2, .int y), (5, .int (nI k))]) hx hb dX6_stand_91 hl (by decide) rfl (fun ls hl => ?_)
                refine lv_iinc (v := nI (k + 1)) (lv' := [(5, .int (nI (k + 1))), (4, .int f_), (3, .int w_), (6, .int (brM n mm (upd nw 20 (nI k)))), (0, .ref (b 0)), (1, .int x), (2, .int y)]) hx hb dX6_stand_93 hl (k := 6) rfl (nI_add _ 1) (by decide) rfl (fun ls hl => ?_)
                refine lv_goto (tgt := 36) hx hb dX6_stand_96 rfl ?_
                exact ih36 (k + 1) w_ f_ (goN n mm (upd nw 20 (nI k))) (by omega) ((am_s1 h1 h2 cq67).1) ((am_s1 h1 h2 cq67).2) (by omega) _ _ _ hw (lv_sub hl [4, 5, 6, 2, 1, 0] rfl)
              · skip
                exact absurd cq67 cq81
            · skip
              refine lv_iload hx hb dX6_stand_70 (lv_at hl 6 rfl) ?_
              refine lv_goto (tgt := 76) hx hb dX6_stand_72 rfl ?_
              refine lv_istore_n (lv' := [(3, .int (nI k)), (6, .int (brM n mm (upd nw 20 (nI k)))), (0, .ref (b 0)), (1, .int x), (2, .int y), (4, .int f_), (5, .int (nI k))]) hx hb dX6_stand_76 rfl hl (by decide) rfl (fun ls hl => ?_)
              refine lv_iload hx hb dX6_stand_77 (lv_at hl 1 rfl) ?_
              refine lv_iload hx hb dX6_stand_79 (lv_at hl 5 rfl) ?_
              refine lv_icmp_ge (tgt := 89) hx hb dX6_stand_81 rfl (fun cq81 => ?_) (fun cq81 => ?_)
              · skip
                exact absurd cq81 cq67
              · skip
                refine lv_iload hx hb dX6_stand_84 (lv_at hl 1 rfl) ?_
                refine lv_goto (tgt := 91) hx hb dX6_stand_86 rfl ?_
                refine lv_istore (lv' := [(4, .int (brM n mm (upd nw 20 (nI k)))), (3, .int (nI k)), (6, .int (brM n mm (upd nw 20 (nI k)))), (0, .ref (b 0)), (1, .int x), (2, .int y), (5, .int (nI k))]) hx hb dX6_stand_91 hl (by decide) rfl (fun ls hl => ?_)
                refine lv_iinc (v := nI (k + 1)) (lv' := [(5, .int (nI (k + 1))), (4, .int (brM n mm (upd nw 20 (nI k)))), (3, .int (nI k)), (6, .int (brM n mm (upd nw 20 (nI k)))), (0, .ref (b 0)), (1, .int x), (2, .int y)]) hx hb dX6_stand_93 hl (k := 6) rfl (nI_add _ 1) (by decide) rfl (fun ls hl => ?_)
                refine lv_goto (tgt := 36) hx hb dX6_stand_96 rfl ?_
                exact ih36 (k + 1) (nI k) (brM n mm (upd nw 20 (nI k))) (goN n mm (upd nw 20 (nI k))) (by omega) ((am_s2 h2 cq67).1) ((am_s2 h2 cq67).2) (by omega) _ _ _ hw (lv_sub hl [4, 5, 6, 2, 1, 0] rfl)
      exact lp36 (8 - 0 + 1) 0 (-1) 1000000 asd (by omega) (rfl) (rfl) (by omega) _ _ _ hw (lv_sub hl [3, 4, 5, 2, 1, 0] rfl)
    · skip
      have cq19 := bI_0.mp cq19
      refine lv_aload_n hx hb dX6_stand_22 rfl (lv_at hl 0 rfl) ?_
      refine x_callV (is := [0, 1, 2, 3, 4, 5, 6, 7, 8]) (q0 := 0) (As := []) (rest := []) (st1 := [.int (-2)]) (ws' := mW G b nw rd asd img kpt txt sz abv blw (bds + 1) nos fls att bgn tkn wrd vlu sts bst) E (c_X6_bad l G b nw rd asd img kpt txt sz abv blw bds nos fls att bgn tkn wrd vlu sts bst) vw_X6_63 hw [0, 1, 2, 3, 4, 5, 6, 7, 8] rfl rfl rfl rfl rfl rfl rfl hl.1 rfl rfl (Nat.le_of_ble_eq_true rfl) ⟨Nat.le_of_ble_eq_true rfl, Nat.le_of_ble_eq_true rfl⟩ (Nat.zero_le _) (Nat.zero_le _) dX6_stand_23 rfl rfl (fun H locs hw => ?_)
      exact x_iretE (asd) E hA rt hw dX6_stand_26 (by simp [cq9, cq19]) (by simp [cq9, cq19])
set_option maxHeartbeats 1000000 in
set_option maxRecDepth 100000 in
theorem c_X6_helps (l : Launch) (G : GG) (b : Nat → Nat) (nw : Nat → Int32) (rd : Nat → Int32) (asd : Nat → Int32) (img : Nat → Int32) (kpt : Nat → Int32) (txt : Nat → Int32) (sz : Int32) (abv : Int64) (blw : Int64) (bds : Int32) (nos : Int32) (fls : Int32) (att : Int32) (bgn : Int32) (tkn : Int32) (wrd : Int64) (vlu : Int32) (sts : Nat → Int32) (bst : Nat → Int32) (n : Nat) (hc : nw 22 = nI n) (hn : n ≤ 6) : CE l G yX6_helps cX6_helps 6 (some .int) 7 157 [.ref (b 0)] (mW G b nw rd asd img kpt txt sz abv blw bds nos fls att bgn tkn wrd vlu sts bst) (some (.int ((hlS n nw n).1))) (fun uu : (Nat → Int32) => mW G b nw rd uu img kpt txt sz abv blw bds nos fls att bgn tkn wrd vlu sts bst) := by
  refine CE.mk (own := RX6) (la := [(0, .ref (b 0))]) (by decide) rfl (Nat.le_of_ble_eq_true rfl) rfl ?_
  intro p e s m args below meth c A Q E hA hw rt ls hl
  have hx := E.1
  have hb := E.2.1
  refine lv_aload_n hx hb dX6_helps_0 rfl (lv_at hl 0 rfl) ?_
  refine x_callV (is := [0, 1, 2, 3, 4, 5, 6, 7, 8]) (q0 := 0) (As := []) (rest := []) (st1 := []) (ws' := mW G b nw rd nw img kpt txt sz abv blw bds nos fls att bgn tkn wrd vlu sts bst) E (c_X6_layAside l G b nw rd asd img kpt txt sz abv blw bds nos fls att bgn tkn wrd vlu sts bst) vw_X6_205 hw [0, 1, 2, 3, 4, 5, 6, 7, 8] rfl rfl rfl rfl rfl rfl rfl hl.1 rfl rfl (Nat.le_of_ble_eq_true rfl) ⟨Nat.le_of_ble_eq_true rfl, Nat.le_of_ble_eq_true rfl⟩ (Nat.zero_le _) (Nat.zero_le _) dX6_helps_1 rfl rfl (fun H locs hw => ?_)
  refine lv_aload_n hx hb dX6_helps_4 rfl (lv_at hl 0 rfl) ?_
  refine lv_bipush (v := 20) hx hb dX6_helps_5 rfl ?_
  refine x_callV (is := [0, 1, 2, 3, 4, 5, 6, 7, 8]) (q0 := 0) (As := [.int 20]) (rest := []) (st1 := [.int (brM n 20 nw)]) (ws' := mW G b nw rd (goN n 20 nw) img kpt txt sz abv blw bds nos fls att bgn tkn wrd vlu sts bst) E (c_X6_bitesIn l G b 20 20 (rfl) nw rd nw img kpt txt sz abv blw bds nos fls att bgn tkn wrd vlu sts bst n (hc) (by omega) (by omega)) vw_X6_208 hw [0, 1, 2, 3, 4, 5, 6, 7, 8] rfl rfl rfl rfl rfl rfl rfl hl.1 rfl rfl (Nat.le_of_ble_eq_true rfl) ⟨Nat.le_of_ble_eq_true rfl, Nat.le_of_ble_eq_true rfl⟩ (Nat.zero_le _) (Nat.zero_le _) dX6_helps_7 rfl rfl (fun H locs hw => ?_)
  refine lv_istore_n (lv' := [(1, .int (brM n 20 nw)), (0, .ref (b 0))]) hx hb dX6_helps_10 rfl hl (by decide) rfl (fun ls hl => ?_)
  refine lv_iconst (v := -1) hx hb dX6_helps_11 rfl ?_
  refine lv_istore_n (lv' := [(2, .int (-1)), (1, .int (brM n 20 nw)), (0, .ref (b 0))]) hx hb dX6_helps_12 rfl hl (by decide) rfl (fun ls hl => ?_)
  refine lv_iconst (v := 0) hx hb dX6_helps_13 rfl ?_
  refine lv_istore_n (lv' := [(3, .int 0), (2, .int (-1)), (1, .int (brM n 20 nw)), (0, .ref (b 0))]) hx hb dX6_helps_14 rfl hl (by decide) rfl (fun ls hl => ?_)
  have lp15 : ∀ (fuel : Nat), ∀ (k : Nat) (w_ : Int32) (f_ : Int32) (t : Nat → Int32) (hk : k ≤ n) (h1 : w_ = (hlS n nw k).1) (h2 : f_ = (hlS n nw k).2), (n - k) < fuel → ∀ (H : Heap) (locs : List Loc) (ls : Array Slot), Wd G A s H locs (mW G b nw rd t img kpt txt sz abv blw bds nos fls att bgn tkn wrd vlu sts bst) → lv_has ls 6 [(0, .ref (b 0)), (1, .int f_), (2, .int w_), (3, .int (nI k))] → W p l e (rmx 7 157) s m args below meth c H locs 0 0 Q (F0 m 15 ls []) := by
    intro fuel
    induction fuel with
    | zero => intro k w_ f_ t hk h1 h2 hfu; exact absurd hfu (Nat.not_lt_zero _)
    | succ fuel ih15 =>
      intro k w_ f_ t hk h1 h2 hfu H locs ls hw hl
      refine lv_iload_n hx hb dX6_helps_15 rfl (lv_at hl 3 rfl) ?_
      refine lv_aload_n hx hb dX6_helps_16 rfl (lv_at hl 0 rfl) ?_
      refine x_get E hw fw_X6_7 0 rfl rfl dX6_helps_17 ?_
      refine lv_bipush (v := 22) hx hb dX6_helps_20 rfl ?_
      refine x_iald E hw 1 rfl 22 (rfl) (by omega) (by omega) dX6_helps_22 ?_
      refine lv_icmp_ge (tgt := 128) hx hb dX6_helps_23 rfl (fun cq23 => ?_) (fun cq23 => ?_)
      · skip
        have cq23 : n ≤ k := (cv_le (a := n) (b := k) hc rfl (by omega) (by omega)).mp cq23
        refine lv_iload_n hx hb dX6_helps_128 rfl (lv_at hl 2 rfl) ?_
        exact x_iretE (t) E hA rt hw dX6_helps_129 (by rw [h1, show k = n by omega]) rfl
      · skip
        have cq23 : ¬ n ≤ k := fun h => cq23 ((cv_le (a := n) (b := k) hc rfl (by omega) (by omega)).mpr h)
        refine lv_iconst (v := 0) hx hb dX6_helps_26 rfl ?_
        refine lv_istore (lv' := [(4, .int 0), (0, .ref (b 0)), (1, .int f_), (2, .int w_), (3, .int (nI k))]) hx hb dX6_helps_27 hl (by decide) rfl (fun ls hl => ?_)
        have lp29 : ∀ (fuel : Nat), ∀ (d : Nat) (w2 : Int32) (f2 : Int32) (t2 : Nat → Int32) (hdd : d ≤ 10) (g1 : w2 = (am (hlF n nw k) (fun d => 10 * nI k + nI d) (hlS n nw k).1 (hlS n nw k).2 d).1) (g2 : f2 = (am (hlF n nw k) (fun d => 10 * nI k + nI d) (hlS n nw k).1 (hlS n nw k).2 d).2), (10 - d) < fuel → ∀ (H : Heap) (locs : List Loc) (ls : Array Slot), Wd G A s H locs (mW G b nw rd t2 img kpt txt sz abv blw bds nos fls att bgn tkn wrd vlu sts bst) → lv_has ls 6 [(0, .ref (b 0)), (1, .int f2), (2, .int w2), (3, .int (nI k)), (4, .int (nI d))] → W p l e (rmx 7 157) s m args below meth c H locs 0 0 Q (F0 m 29 ls []) := by
          intro fuel
          induction fuel with
          | zero => intro d w2 f2 t2 hdd g1 g2 hfu; exact absurd hfu (Nat.not_lt_zero _)
          | succ fuel ih29 =>
            intro d w2 f2 t2 hdd g1 g2 hfu H locs ls hw hl
            refine lv_iload hx hb dX6_helps_29 (lv_at hl 4 rfl) ?_
            refine lv_bipush (v := 10) hx hb dX6_helps_31 rfl ?_
            refine lv_icmp_ge (tgt := 122) hx hb dX6_helps_33 rfl (fun cq33 => ?_) (fun cq33 => ?_)
            · skip
              have cq33 : 10 ≤ d := (cv_le (a := 10) (b := d) rfl rfl (by omega) (by omega)).mp cq33
              refine lv_iinc (v := nI (k + 1)) (lv' := [(3, .int (nI (k + 1))), (0, .ref (b 0)), (1, .int f2), (2, .int w2), (4, .int (nI d))]) hx hb dX6_helps_122 hl (k := 3) rfl (nI_add _ 1) (by decide) rfl (fun ls hl => ?_)
              refine lv_goto (tgt := 15) hx hb dX6_helps_125 rfl ?_
              exact ih15 (k + 1) w2 f2 t2 (by omega) (by rw [g1, show d = 10 by omega]; rfl) (by rw [g2, show d = 10 by omega]; rfl) (by omega) _ _ _ hw (lv_sub hl [1, 2, 3, 0] rfl)
            · skip
              have cq33 : ¬ 10 ≤ d := fun h => cq33 ((cv_le (a := 10) (b := d) rfl rfl (by omega) (by omega)).mpr h)
              refine lv_aload_n hx hb dX6_helps_36 rfl (lv_at hl 0 rfl) ?_
              refine x_callV (is := [0, 1, 2, 3, 4, 5, 6, 7, 8]) (q0 := 0) (As := []) (rest := []) (st1 := []) (ws' := mW G b nw rd nw img kpt txt sz abv blw bds nos fls att bgn tkn wrd vlu sts bst) E (c_X6_layAside l G b nw rd t2 img kpt txt sz abv blw bds nos fls att bgn tkn wrd vlu sts bst) vw_X6_205 hw [0, 1, 2, 3, 4, 5, 6, 7, 8] rfl rfl rfl rfl rfl rfl rfl hl.1 rfl rfl (Nat.le_of_ble_eq_true rfl) ⟨Nat.le_of_ble_eq_true rfl, Nat.le_of_ble_eq_true rfl⟩ (Nat.zero_le _) (Nat.zero_le _) dX6_helps_37 rfl rfl (fun H locs hw => ?_)
              refine lv_aload_n hx hb dX6_helps_40 rfl (lv_at hl 0 rfl) ?_
              refine lv_iload hx hb dX6_helps_41 (lv_at hl 4 rfl) ?_
              refine x_callV (is := [0, 1, 2, 3, 4, 5, 6, 7, 8]) (q0 := 0) (As := [.int (nI d)]) (rest := []) (st1 := [.int (brM n d nw)]) (ws' := mW G b nw rd (goN n d nw) img kpt txt sz abv blw bds nos fls att bgn tkn wrd vlu sts bst) E (c_X6_bitesIn l G b (nI d) d (rfl) nw rd nw img kpt txt sz abv blw bds nos fls att bgn tkn wrd vlu sts bst n (hc) (by omega) (by omega)) vw_X6_208 hw [0, 1, 2, 3, 4, 5, 6, 7, 8] rfl rfl rfl rfl rfl rfl rfl hl.1 rfl rfl (Nat.le_of_ble_eq_true rfl) ⟨Nat.le_of_ble_eq_true rfl, Nat.le_of_ble_eq_true rfl⟩ (Nat.zero_le _) (Nat.zero_le _) dX6_helps_43 rfl rfl (fun H locs hw => ?_)
              refine lv_istore (lv' := [(5, .int (brM n d nw)), (0, .ref (b 0)), (1, .int f2), (2, .int w2), (3, .int (nI k)), (4, .int (nI d))]) hx hb dX6_helps_46 hl (by decide) rfl (fun ls hl => ?_)
              refine lv_aload_n hx hb dX6_helps_48 rfl (lv_at hl 1 rfl) ?_
              refine x_get E hw fw_X6_16 0 rfl rfl dX6_helps_49 ?_
              refine lv_bipush (v := 6) hx hb dX6_helps_52 rfl ?_
              refine lv_iload_n hx hb dX6_helps_54 rfl (lv_at hl 4 rfl) ?_
              refine lv_iadd hx hb dX6_helps_55 ?_
              refine lv_aload_n hx hb dX6_helps_56 rfl (lv_at hl 1 rfl) ?_
              refine x_get E hw fw_X6_16 0 rfl rfl dX6_helps_57 ?_
              refine lv_bipush (v := 6) hx hb dX6_helps_60 rfl ?_
              refine lv_iload_n hx hb dX6_helps_62 rfl (lv_at hl 4 rfl) ?_
              refine lv_iadd hx hb dX6_helps_63 ?_
              refine x_iald E hw 3 rfl (6 + k) ((ix_add (a := 6) (b := k) rfl rfl)) (by omega) (by omega) dX6_helps_64 ?_
              refine lv_bipush (v := 10) hx hb dX6_helps_65 rfl ?_
              refine x_callS (is := []) (As := [.int ((goN n d nw) (6 + k)), .int 10]) (rest := [.int (6 + (nI k)), .ref (b 3)]) (st1 := [.int (lsr ((goN n d nw) (6 + k)) 10), .int (6 + (nI k)), .ref (b 3)]) (ws' := mW G b nw rd (goN n d nw) img kpt txt sz abv blw bds nos fls att bgn tkn wrd vlu sts bst) E (c_X6_lesser l G ((goN n d nw) (6 + k)) 10) sw_X6_128 hw [] rfl rfl rfl rfl hl.1 rfl rfl (Nat.le_of_ble_eq_true rfl) ⟨Nat.le_of_ble_eq_true rfl, Nat.le_of_ble_eq_true rfl⟩ (Nat.zero_le _) (Nat.zero_le _) dX6_helps_67 rfl rfl (fun H locs hw => ?_)
              refine x_iast (ws' := mW G b nw rd (upd (goN n d nw) (6 + k) (lsr ((goN n d nw) (6 + k)) 10)) img kpt txt sz abv blw bds nos fls att bgn tkn wrd vlu sts bst) E hw 3 rfl (6 + k) ((ix_add (a := 6) (b := k) rfl rfl)) (by omega) (by omega) dX6_helps_70 rfl (fun H locs hw => ?_)
              refine lv_iload hx hb dX6_helps_71 (lv_at hl 0 rfl) ?_
              refine lv_aload_n hx hb dX6_helps_73 rfl (lv_at hl 1 rfl) ?_
              refine lv_bipush (v := 20) hx hb dX6_helps_74 rfl ?_
              refine lv_iload hx hb dX6_helps_76 (lv_at hl 5 rfl) ?_
              refine lv_isub hx hb dX6_helps_78 ?_
              refine x_topi (y := nI (20 - d)) (pk_sub (a := 20) (b := d) (by omega)) ?_
              refine x_callV (is := [0, 1, 2, 3, 4, 5, 6, 7, 8]) (q0 := 0) (As := [.int (nI (20 - d))]) (rest := [.int (brM n d nw)]) (st1 := [.int (brM n (20 - d) (upd (goN n d nw) (6 + k) (lsr ((goN n d nw) (6 + k)) 10))), .int (brM n d nw)]) (ws' := mW G b nw rd (goN n (20 - d) (upd (goN n d nw) (6 + k) (lsr ((goN n d nw) (6 + k)) 10))) img kpt txt sz abv blw bds nos fls att bgn tkn wrd vlu sts bst) E (c_X6_bitesIn l G b (nI (20 - d)) (20 - d) (rfl) nw rd (upd (goN n d nw) (6 + k) (lsr ((goN n d nw) (6 + k)) 10)) img kpt txt sz abv blw bds nos fls att bgn tkn wrd vlu sts bst n (by rw [upd_ne _ _ (by omega), goN_out hn (by omega)]; exact hc) (by omega) (by omega)) vw_X6_208 hw [0, 1, 2, 3, 4, 5, 6, 7, 8] rfl rfl rfl rfl rfl rfl rfl hl.1 rfl rfl (Nat.le_of_ble_eq_true rfl) ⟨Nat.le_of_ble_eq_true rfl, Nat.le_of_ble_eq_true rfl⟩ (Nat.zero_le _) (Nat.zero_le _) dX6_helps_79 rfl rfl (fun H locs hw => ?_)
              refine lv_iadd hx hb dX6_helps_82 ?_
              refine lv_istore (lv' := [(5, .int ((brM n d nw) + (brM n (20 - d) (upd (goN n d nw) (6 + k) (lsr ((goN n d nw) (6 + k)) 10))))), (0, .ref (b 0)), (1, .int f2), (2, .int w2), (3, .int (nI k)), (4, .int (nI d))]) hx hb dX6_helps_83 hl (by decide) rfl (fun ls hl => ?_)
              refine lv_iload hx hb dX6_helps_85 (lv_at hl 0 rfl) ?_
              refine lv_iload_n hx hb dX6_helps_87 rfl (lv_at hl 2 rfl) ?_
              refine lv_icmp_ge (tgt := 101) hx hb dX6_helps_88 rfl (fun cq88 => ?_) (fun cq88 => ?_)
              · skip
                refine lv_iload_n hx hb dX6_helps_101 rfl (lv_at hl 3 rfl) ?_
                refine lv_istore_n (lv' := [(2, .int w2), (5, .int ((brM n d nw) + (brM n (20 - d) (upd (goN n d nw) (6 + k) (lsr ((goN n d nw) (6 + k)) 10))))), (0, .ref (b 0)), (1, .int f2), (3, .int (nI k)), (4, .int (nI d))]) hx hb dX6_helps_102 rfl hl (by decide) rfl (fun ls hl => ?_)
                refine lv_iload hx hb dX6_helps_103 (lv_at hl 1 rfl) ?_
                refine lv_iload_n hx hb dX6_helps_105 rfl (lv_at hl 3 rfl) ?_
                refine lv_icmp_ge (tgt := 114) hx hb dX6_helps_106 rfl (fun cq106 => ?_) (fun cq106 => ?_)
                · skip
                  refine lv_iload_n hx hb dX6_helps_114 rfl (lv_at hl 3 rfl) ?_
                  refine lv_istore_n (lv' := [(1, .int f2), (2, .int w2), (5, .int ((brM n d nw) + (brM n (20 - d) (upd (goN n d nw) (6 + k) (lsr ((goN n d nw) (6 + k)) 10))))), (0, .ref (b 0)), (3, .int (nI k)), (4, .int (nI d))]) hx hb dX6_helps_115 rfl hl (by decide) rfl (fun ls hl => ?_)
                  refine lv_iinc (v := nI (d + 1)) (lv' := [(4, .int (nI (d + 1))), (1, .int f2), (2, .int w2), (5, .int ((brM n d nw) + (brM n (20 - d) (upd (goN n d nw) (6 + k) (lsr ((goN n d nw) (6 + k)) 10))))), (0, .ref (b 0)), (3, .int (nI k))]) hx hb dX6_helps_116 hl (k := 5) rfl (nI_add _ 1) (by decide) rfl (fun ls hl => ?_)
                  refine lv_goto (tgt := 29) hx hb dX6_helps_119 rfl ?_
                  exact ih29 (d + 1) w2 f2 (goN n (20 - d) (upd (goN n d nw) (6 + k) (lsr ((goN n d nw) (6 + k)) 10))) (by omega) ((am_s1 g1 g2 cq88).1) ((am_s1 g1 g2 cq88).2) (by omega) _ _ _ hw (lv_sub hl [4, 1, 2, 5, 0] rfl)
                · skip
                  exact absurd cq88 cq106
              · skip
                refine lv_bipush (v := 10) hx hb dX6_helps_91 rfl ?_
                refine lv_iload_n hx hb dX6_helps_93 rfl (lv_at hl 4 rfl) ?_
                refine lv_imul hx hb dX6_helps_94 ?_
                refine lv_iload hx hb dX6_helps_95 (lv_at hl 5 rfl) ?_
                refine lv_iadd hx hb dX6_helps_97 ?_
                refine lv_goto (tgt := 102) hx hb dX6_helps_98 rfl ?_
                refine lv_istore_n (lv' := [(2, .int ((10 * (nI k)) + (nI d))), (5, .int ((brM n d nw) + (brM n (20 - d) (upd (goN n d nw) (6 + k) (lsr ((goN n d nw) (6 + k)) 10))))), (0, .ref (b 0)), (1, .int f2), (3, .int (nI k)), (4, .int (nI d))]) hx hb dX6_helps_102 rfl hl (by decide) rfl (fun ls hl => ?_)
                refine lv_iload hx hb dX6_helps_103 (lv_at hl 1 rfl) ?_
                refine lv_iload_n hx hb dX6_helps_105 rfl (lv_at hl 3 rfl) ?_
                refine lv_icmp_ge (tgt := 114) hx hb dX6_helps_106 rfl (fun cq106 => ?_) (fun cq106 => ?_)
                · skip
                  exact absurd cq106 cq88
                · skip
                  refine lv_iload hx hb dX6_helps_109 (lv_at hl 1 rfl) ?_
                  refine lv_goto (tgt := 115) hx hb dX6_helps_111 rfl ?_
                  refine lv_istore_n (lv' := [(1, .int ((brM n d nw) + (brM n (20 - d) (upd (goN n d nw) (6 + k) (lsr ((goN n d nw) (6 + k)) 10))))), (2, .int ((10 * (nI k)) + (nI d))), (5, .int ((brM n d nw) + (brM n (20 - d) (upd (goN n d nw) (6 + k) (lsr ((goN n d nw) (6 + k)) 10))))), (0, .ref (b 0)), (3, .int (nI k)), (4, .int (nI d))]) hx hb dX6_helps_115 rfl hl (by decide) rfl (fun ls hl => ?_)
                  refine lv_iinc (v := nI (d + 1)) (lv' := [(4, .int (nI (d + 1))), (1, .int ((brM n d nw) + (brM n (20 - d) (upd (goN n d nw) (6 + k) (lsr ((goN n d nw) (6 + k)) 10))))), (2, .int ((10 * (nI k)) + (nI d))), (5, .int ((brM n d nw) + (brM n (20 - d) (upd (goN n d nw) (6 + k) (lsr ((goN n d nw) (6 + k)) 10))))), (0, .ref (b 0)), (3, .int (nI k))]) hx hb dX6_helps_116 hl (k := 5) rfl (nI_add _ 1) (by decide) rfl (fun ls hl => ?_)
                  refine lv_goto (tgt := 29) hx hb dX6_helps_119 rfl ?_
                  exact ih29 (d + 1) ((10 * (nI k)) + (nI d)) ((brM n d nw) + (brM n (20 - d) (upd (goN n d nw) (6 + k) (lsr ((goN n d nw) (6 + k)) 10)))) (goN n (20 - d) (upd (goN n d nw) (6 + k) (lsr ((goN n d nw) (6 + k)) 10))) (by omega) ((am_s2 g2 cq88).1) ((am_s2 g2 cq88).2) (by omega) _ _ _ hw (lv_sub hl [4, 1, 2, 5, 0] rfl)
        exact lp29 (10 - 0 + 1) 0 w_ f_ t (by omega) (h1) (h2) (by omega) _ _ _ hw (lv_sub hl [1, 2, 3, 4, 0] rfl)
  exact lp15 (n - 0 + 1) 0 (-1) (brM n 20 nw) (goN n 20 nw) (by omega) (rfl) (rfl) (by omega) _ _ _ hw (lv_sub hl [3, 2, 1, 0] rfl)
set_option maxHeartbeats 1000000 in
set_option maxRecDepth 100000 in
theorem c_X6_words (l : Launch) (G : GG) (b : Nat → Nat) (x : Int32) (nw : Nat → Int32) (rd : Nat → Int32) (asd : Nat → Int32) (img : Nat → Int32) (kpt : Nat → Int32) (txt : Nat → Int32) (sz : Int32) (abv : Int64) (blw : Int64) (bds : Int32) (nos : Int32) (fls : Int32) (att : Int32) (bgn : Int32) (tkn : Int32) (wrd : Int64) (vlu : Int32) (sts : Nat → Int32) (bst : Nat → Int32) (n : Nat) (hc : nw 22 = nI n) (hn : n ≤ 6) : CE l G yX6_words cX6_words 3 (some .int) 3 69 [.ref (b 0), .int x] (mW G b nw rd asd img kpt txt sz abv blw bds nos fls att bgn tkn wrd vlu sts bst) (some (.int (if inI x 0 (nw 22 - 1) then fP (fun r => !decide (12 ≤ nmOf (wdA nw x.toNatClampNeg (nI r)) n x.toNatClampNeg)) 41 0 else -2))) (fun uu : (Nat → Int32) => mW G b nw rd uu img kpt txt sz abv blw (if inI x 0 (nw 22 - 1) then bds else bds + 1) nos fls att bgn tkn wrd vlu sts bst) := by
  refine CE.mk (own := RX6) (la := [(0, .ref (b 0)), (1, .int x)]) (by decide) rfl (Nat.le_of_ble_eq_true rfl) rfl ?_
  intro p e s m args below meth c A Q E hA hw rt ls hl
  have hx := E.1
  have hb := E.2.1
  refine lv_aload_n hx hb dX6_words_0 rfl (lv_at hl 0 rfl) ?_
  refine lv_iload_n hx hb dX6_words_1 rfl (lv_at hl 1 rfl) ?_
  refine x_callV (is := [0, 1, 2, 3, 4, 5, 6, 7, 8]) (q0 := 0) (As := [.int x]) (rest := []) (st1 := [.int (bI (inI x 0 (nw 22 - 1)))]) (ws' := mW G b nw rd asd img kpt txt sz abv blw bds nos fls att bgn tkn wrd vlu sts bst) E (c_X6_isChild l G b x nw rd asd img kpt txt sz abv blw bds nos fls att bgn tkn wrd vlu sts bst) vw_X6_197 hw [0, 1, 2, 3, 4, 5, 6, 7, 8] rfl rfl rfl rfl rfl rfl rfl hl.1 rfl rfl (Nat.le_of_ble_eq_true rfl) ⟨Nat.le_of_ble_eq_true rfl, Nat.le_of_ble_eq_true rfl⟩ (Nat.zero_le _) (Nat.zero_le _) dX6_words_2 rfl rfl (fun H locs hw => ?_)
  refine lv_if_ne (tgt := 13) hx hb dX6_words_5 rfl (fun cq5 => ?_) (fun cq5 => ?_)
  · skip
    have cq5 := bI_n0.mp cq5
    obtain ⟨k, hk, ek⟩ := inI_child hc hn cq5
    have exk : x.toNatClampNeg = k := by rw [ek, nI_clamp (by omega)]
    refine lv_iconst (v := 0) hx hb dX6_words_13 rfl ?_
    refine lv_istore_n (lv' := [(2, .int 0), (0, .ref (b 0)), (1, .int x)]) hx hb dX6_words_14 rfl hl (by decide) rfl (fun ls hl => ?_)
    have lp15 : ∀ (fuel : Nat), ∀ (r : Nat) (t : Nat → Int32) (hrr : r ≤ 41) (hf : fP (fun r => !decide (12 ≤ nmOf (wdA nw k (nI r)) n k)) 41 0 = fP (fun r => !decide (12 ≤ nmOf (wdA nw k (nI r)) n k)) (41 - r) r), (41 - r) < fuel → ∀ (H : Heap) (locs : List Loc) (ls : Array Slot), Wd G A s H locs (mW G b nw rd t img kpt txt sz abv blw bds nos fls att bgn tkn wrd vlu sts bst) → lv_has ls 3 [(0, .ref (b 0)), (1, .int x), (2, .int (nI r))] → W p l e (rmx 3 69) s m args below meth c H locs 0 0 Q (F0 m 15 ls []) := by
      intro fuel
      induction fuel with
      | zero => intro r t hrr hf hfu; exact absurd hfu (Nat.not_lt_zero _)
      | succ fuel ih15 =>
        intro r t hrr hf hfu H locs ls hw hl
        refine lv_iload_n hx hb dX6_words_15 rfl (lv_at hl 2 rfl) ?_
        refine lv_bipush (v := 41) hx hb dX6_words_16 rfl ?_
        refine lv_icmp_ge (tgt := 59) hx hb dX6_words_18 rfl (fun cq18 => ?_) (fun cq18 => ?_)
        · skip
          have cq18 : 41 ≤ r := (cv_le (a := 41) (b := r) rfl rfl (by omega) (by omega)).mp cq18
          refine lv_iconst (v := -1) hx hb dX6_words_59 rfl ?_
          exact x_iretE (t) E hA rt hw dX6_words_60 (by rw [if_pos cq5, exk, hf, fP_end (by omega)]) (by simp [cq5])
        · skip
          have cq18 : ¬ 41 ≤ r := fun h => cq18 ((cv_le (a := 41) (b := r) rfl rfl (by omega) (by omega)).mpr h)
          refine lv_aload_n hx hb dX6_words_21 rfl (lv_at hl 0 rfl) ?_
          refine x_callV (is := [0, 1, 2, 3, 4, 5, 6, 7, 8]) (q0 := 0) (As := []) (rest := []) (st1 := []) (ws' := mW G b nw rd nw img kpt txt sz abv blw bds nos fls att bgn tkn wrd vlu sts bst) E (c_X6_layAside l G b nw rd t img kpt txt sz abv blw bds nos fls att bgn tkn wrd vlu sts bst) vw_X6_205 hw [0, 1, 2, 3, 4, 5, 6, 7, 8] rfl rfl rfl rfl rfl rfl rfl hl.1 rfl rfl (Nat.le_of_ble_eq_true rfl) ⟨Nat.le_of_ble_eq_true rfl, Nat.le_of_ble_eq_true rfl⟩ (Nat.zero_le _) (Nat.zero_le _) dX6_words_22 rfl rfl (fun H locs hw => ?_)
          refine lv_aload_n hx hb dX6_words_25 rfl (lv_at hl 0 rfl) ?_
          refine x_get E hw fw_X6_16 0 rfl rfl dX6_words_26 ?_
          refine lv_bipush (v := 29) hx hb dX6_words_29 rfl ?_
          refine lv_iload_n hx hb dX6_words_31 rfl (lv_at hl 1 rfl) ?_
          refine lv_iadd hx hb dX6_words_32 ?_
          refine lv_dup2_11 hx hb dX6_words_33 rfl rfl ?_
          refine x_iald E hw 3 rfl (29 + k) ((ix_add (a := 29) (b := k) rfl ek)) (by omega) (by omega) dX6_words_34 ?_
          refine lv_iload_n hx hb dX6_words_35 rfl (lv_at hl 2 rfl) ?_
          refine lv_iadd hx hb dX6_words_36 ?_
          refine x_iast (ws' := mW G b nw rd (upd nw (29 + k) ((nw (29 + k)) + (nI r))) img kpt txt sz abv blw bds nos fls att bgn tkn wrd vlu sts bst) E hw 3 rfl (29 + k) ((ix_add (a := 29) (b := k) rfl ek)) (by omega) (by omega) dX6_words_37 rfl (fun H locs hw => ?_)
          refine lv_aload_n hx hb dX6_words_38 rfl (lv_at hl 0 rfl) ?_
          refine x_get E hw fw_X6_16 0 rfl rfl dX6_words_39 ?_
          refine lv_iload_n hx hb dX6_words_42 rfl (lv_at hl 1 rfl) ?_
          refine x_callS (is := [3]) (As := [.ref (b 3), .int x]) (rest := []) (st1 := [.int (nmOf (upd nw (29 + k) ((nw (29 + k)) + (nI r))) n k)]) (ws' := mW G b nw rd (upd nw (29 + k) ((nw (29 + k)) + (nI r))) img kpt txt sz abv blw bds nos fls att bgn tkn wrd vlu sts bst) E (c_X6_nearOf l G (b 3) x k (ek) (upd nw (29 + k) ((nw (29 + k)) + (nI r))) 35 n (by omega) (by omega) (by rw [upd_ne _ _ (by omega)]; exact hc) (by omega) (by omega)) sw_X6_163 hw [3] rfl rfl rfl rfl hl.1 rfl rfl (Nat.le_of_ble_eq_true rfl) ⟨Nat.le_of_ble_eq_true rfl, Nat.le_of_ble_eq_true rfl⟩ (Nat.zero_le _) (Nat.zero_le _) dX6_words_43 rfl rfl (fun H locs hw => ?_)
          refine lv_bipush (v := 12) hx hb dX6_words_46 rfl ?_
          refine lv_icmp_ge (tgt := 53) hx hb dX6_words_48 rfl (fun cq48 => ?_) (fun cq48 => ?_)
          · skip
            refine lv_iinc (v := nI (r + 1)) (lv' := [(2, .int (nI (r + 1))), (0, .ref (b 0)), (1, .int x)]) hx hb dX6_words_53 hl (k := 2) rfl (nI_add _ 1) (by decide) rfl (fun ls hl => ?_)
            refine lv_goto (tgt := 15) hx hb dX6_words_56 rfl ?_
            exact ih15 (r + 1) (upd nw (29 + k) ((nw (29 + k)) + (nI r))) (by omega) (by rw [hf, fP_step (by omega), if_neg (by show ¬ (!decide (12 ≤ nmOf (wdA nw k (nI r)) n k)) = true; rw [decide_eq_true (show 12 ≤ nmOf (wdA nw k (nI r)) n k from cq48)]; decide)]) (by omega) _ _ _ hw (lv_sub hl [1, 2, 0] rfl)
          · skip
            refine lv_iload_n hx hb dX6_words_51 rfl (lv_at hl 2 rfl) ?_
            exact x_iretE (upd nw (29 + k) ((nw (29 + k)) + (nI r))) E hA rt hw dX6_words_52 (by rw [if_pos cq5, exk, hf, fP_step (by omega), if_pos (by show (!decide (12 ≤ nmOf (wdA nw k (nI r)) n k)) = true; rw [decide_eq_false (show ¬ 12 ≤ nmOf (wdA nw k (nI r)) n k from cq48)]; rfl)]) (by simp [cq5])
    exact lp15 (41 - 0 + 1) 0 asd (by omega) (rfl) (by omega) _ _ _ hw (lv_sub hl [1, 2, 0] rfl)
  · skip
    have cq5 := bI_0.mp cq5
    refine lv_aload_n hx hb dX6_words_8 rfl (lv_at hl 0 rfl) ?_
    refine x_callV (is := [0, 1, 2, 3, 4, 5, 6, 7, 8]) (q0 := 0) (As := []) (rest := []) (st1 := [.int (-2)]) (ws' := mW G b nw rd asd img kpt txt sz abv blw (bds + 1) nos fls att bgn tkn wrd vlu sts bst) E (c_X6_bad l G b nw rd asd img kpt txt sz abv blw bds nos fls att bgn tkn wrd vlu sts bst) vw_X6_63 hw [0, 1, 2, 3, 4, 5, 6, 7, 8] rfl rfl rfl rfl rfl rfl rfl hl.1 rfl rfl (Nat.le_of_ble_eq_true rfl) ⟨Nat.le_of_ble_eq_true rfl, Nat.le_of_ble_eq_true rfl⟩ (Nat.zero_le _) (Nat.zero_le _) dX6_words_9 rfl rfl (fun H locs hw => ?_)
    exact x_iretE (asd) E hA rt hw dX6_words_12 (by simp [cq5]) (by simp [cq5])
set_option maxHeartbeats 1000000 in
set_option maxRecDepth 100000 in
theorem c_X6_say (l : Launch) (G : GG) (b : Nat → Nat) (nw : Nat → Int32) (rd : Nat → Int32) (asd : Nat → Int32) (img : Nat → Int32) (kpt : Nat → Int32) (txt : Nat → Int32) (sz : Int32) (abv : Int64) (blw : Int64) (bds : Int32) (nos : Int32) (fls : Int32) (att : Int32) (bgn : Int32) (tkn : Int32) (wrd : Int64) (vlu : Int32) (sts : Nat → Int32) (bst : Nat → Int32) (n : Nat) (hc : nw 22 = nI n) (hn : n ≤ 6) : CE l G yX6_say cX6_say 5 (some .int) 7 157 [.ref (b 0)] (mW G b nw rd asd img kpt txt sz abv blw bds nos fls att bgn tkn wrd vlu sts bst) (some (.int ((am (fun s => brM n 20 (wdA nw s 10)) nI (-1) 1000000 n).1))) (fun uu : (Nat → Int32) => mW G b nw rd uu img kpt txt sz abv blw bds nos fls att bgn tkn wrd vlu sts bst) := by
  refine CE.mk (own := RX6) (la := [(0, .ref (b 0))]) (by decide) rfl (Nat.le_of_ble_eq_true rfl) rfl ?_
  intro p e s m args below meth c A Q E hA hw rt ls hl
  have hx := E.1
  have hb := E.2.1
  refine lv_iconst (v := -1) hx hb dX6_say_0 rfl ?_
  refine lv_istore_n (lv' := [(1, .int (-1)), (0, .ref (b 0))]) hx hb dX6_say_1 rfl hl (by decide) rfl (fun ls hl => ?_)
  refine lv_ldc hx hb E.2.2.2.1 (E.2.2.2.2.2.2.w kc_X6_211) dX6_say_2 ?_
  refine lv_istore_n (lv' := [(2, .int 1000000), (1, .int (-1)), (0, .ref (b 0))]) hx hb dX6_say_4 rfl hl (by decide) rfl (fun ls hl => ?_)
  refine lv_iconst (v := 0) hx hb dX6_say_5 rfl ?_
  refine lv_istore_n (lv' := [(3, .int 0), (2, .int 1000000), (1, .int (-1)), (0, .ref (b 0))]) hx hb dX6_say_6 rfl hl (by decide) rfl (fun ls hl => ?_)
  have lp7 : ∀ (fuel : Nat), ∀ (k : Nat) (w_ : Int32) (f_ : Int32) (t : Nat → Int32) (hk : k ≤ n) (h1 : w_ = (am (fun s => brM n 20 (wdA nw s 10)) nI (-1) 1000000 k).1) (h2 : f_ = (am (fun s => brM n 20 (wdA nw s 10)) nI (-1) 1000000 k).2), (n - k) < fuel → ∀ (H : Heap) (locs : List Loc) (ls : Array Slot), Wd G A s H locs (mW G b nw rd t img kpt txt sz abv blw bds nos fls att bgn tkn wrd vlu sts bst) → lv_has ls 5 [(0, .ref (b 0)), (1, .int w_), (2, .int f_), (3, .int (nI k))] → W p l e (rmx 7 157) s m args below meth c H locs 0 0 Q (F0 m 7 ls []) := by
    intro fuel
    induction fuel with
    | zero => intro k w_ f_ t hk h1 h2 hfu; exact absurd hfu (Nat.not_lt_zero _)
    | succ fuel ih7 =>
      intro k w_ f_ t hk h1 h2 hfu H locs ls hw hl
      refine lv_iload_n hx hb dX6_say_7 rfl (lv_at hl 3 rfl) ?_
      refine lv_aload_n hx hb dX6_say_8 rfl (lv_at hl 0 rfl) ?_
      refine x_get E hw fw_X6_7 0 rfl rfl dX6_say_9 ?_
      refine lv_bipush (v := 22) hx hb dX6_say_12 rfl ?_
      refine x_iald E hw 1 rfl 22 (rfl) (by omega) (by omega) dX6_say_14 ?_
      refine lv_icmp_ge (tgt := 75) hx hb dX6_say_15 rfl (fun cq15 => ?_) (fun cq15 => ?_)
      · skip
        have cq15 : n ≤ k := (cv_le (a := n) (b := k) hc rfl (by omega) (by omega)).mp cq15
        refine lv_iload_n hx hb dX6_say_75 rfl (lv_at hl 1 rfl) ?_
        exact x_iretE (t) E hA rt hw dX6_say_76 (by rw [h1, show k = n by omega]) rfl
      · skip
        have cq15 : ¬ n ≤ k := fun h => cq15 ((cv_le (a := n) (b := k) hc rfl (by omega) (by omega)).mpr h)
        refine lv_aload_n hx hb dX6_say_18 rfl (lv_at hl 0 rfl) ?_
        refine x_callV (is := [0, 1, 2, 3, 4, 5, 6, 7, 8]) (q0 := 0) (As := []) (rest := []) (st1 := []) (ws' := mW G b nw rd nw img kpt txt sz abv blw bds nos fls att bgn tkn wrd vlu sts bst) E (c_X6_layAside l G b nw rd t img kpt txt sz abv blw bds nos fls att bgn tkn wrd vlu sts bst) vw_X6_205 hw [0, 1, 2, 3, 4, 5, 6, 7, 8] rfl rfl rfl rfl rfl rfl rfl hl.1 rfl rfl (Nat.le_of_ble_eq_true rfl) ⟨Nat.le_of_ble_eq_true rfl, Nat.le_of_ble_eq_true rfl⟩ (Nat.zero_le _) (Nat.zero_le _) dX6_say_19 rfl rfl (fun H locs hw => ?_)
        refine lv_aload_n hx hb dX6_say_22 rfl (lv_at hl 0 rfl) ?_
        refine x_get E hw fw_X6_16 0 rfl rfl dX6_say_23 ?_
        refine lv_bipush (v := 29) hx hb dX6_say_26 rfl ?_
        refine lv_iload_n hx hb dX6_say_28 rfl (lv_at hl 3 rfl) ?_
        refine lv_iadd hx hb dX6_say_29 ?_
        refine lv_dup2_11 hx hb dX6_say_30 rfl rfl ?_
        refine x_iald E hw 3 rfl (29 + k) ((ix_add (a := 29) (b := k) rfl rfl)) (by omega) (by omega) dX6_say_31 ?_
        refine lv_bipush (v := 10) hx hb dX6_say_32 rfl ?_
        refine lv_iadd hx hb dX6_say_34 ?_
        refine x_iast (ws' := mW G b nw rd (upd nw (29 + k) ((nw (29 + k)) + 10)) img kpt txt sz abv blw bds nos fls att bgn tkn wrd vlu sts bst) E hw 3 rfl (29 + k) ((ix_add (a := 29) (b := k) rfl rfl)) (by omega) (by omega) dX6_say_35 rfl (fun H locs hw => ?_)
        refine lv_aload_n hx hb dX6_say_36 rfl (lv_at hl 0 rfl) ?_
        refine lv_bipush (v := 20) hx hb dX6_say_37 rfl ?_
        refine x_callV (is := [0, 1, 2, 3, 4, 5, 6, 7, 8]) (q0 := 0) (As := [.int 20]) (rest := []) (st1 := [.int (brM n 20 (upd nw (29 + k) ((nw (29 + k)) + 10)))]) (ws' := mW G b nw rd (goN n 20 (upd nw (29 + k) ((nw (29 + k)) + 10))) img kpt txt sz abv blw bds nos fls att bgn tkn wrd vlu sts bst) E (c_X6_bitesIn l G b 20 20 (rfl) nw rd (upd nw (29 + k) ((nw (29 + k)) + 10)) img kpt txt sz abv blw bds nos fls att bgn tkn wrd vlu sts bst n (by rw [upd_ne _ _ (by omega)]; exact hc) (by omega) (by omega)) vw_X6_208 hw [0, 1, 2, 3, 4, 5, 6, 7, 8] rfl rfl rfl rfl rfl rfl rfl hl.1 rfl rfl (Nat.le_of_ble_eq_true rfl) ⟨Nat.le_of_ble_eq_true rfl, Nat.le_of_ble_eq_true rfl⟩ (Nat.zero_le _) (Nat.zero_le _) dX6_say_39 rfl rfl (fun H locs hw => ?_)
        refine lv_istore (lv' := [(4, .int (brM n 20 (upd nw (29 + k) ((nw (29 + k)) + 10)))), (0, .ref (b 0)), (1, .int w_), (2, .int f_), (3, .int (nI k))]) hx hb dX6_say_42 hl (by decide) rfl (fun ls hl => ?_)
        refine lv_iload hx hb dX6_say_44 (lv_at hl 0 rfl) ?_
        refine lv_iload_n hx hb dX6_say_46 rfl (lv_at hl 3 rfl) ?_
        refine lv_icmp_ge (tgt := 54) hx hb dX6_say_47 rfl (fun cq47 => ?_) (fun cq47 => ?_)
        · skip
          refine lv_iload_n hx hb dX6_say_54 rfl (lv_at hl 2 rfl) ?_
          refine lv_istore_n (lv' := [(1, .int w_), (4, .int (brM n 20 (upd nw (29 + k) ((nw (29 + k)) + 10)))), (0, .ref (b 0)), (2, .int f_), (3, .int (nI k))]) hx hb dX6_say_55 rfl hl (by decide) rfl (fun ls hl => ?_)
          refine lv_iload hx hb dX6_say_56 (lv_at hl 1 rfl) ?_
          refine lv_iload_n hx hb dX6_say_58 rfl (lv_at hl 3 rfl) ?_
          refine lv_icmp_ge (tgt := 67) hx hb dX6_say_59 rfl (fun cq59 => ?_) (fun cq59 => ?_)
          · skip
            refine lv_iload_n hx hb dX6_say_67 rfl (lv_at hl 3 rfl) ?_
            refine lv_istore_n (lv' := [(2, .int f_), (1, .int w_), (4, .int (brM n 20 (upd nw (29 + k) ((nw (29 + k)) + 10)))), (0, .ref (b 0)), (3, .int (nI k))]) hx hb dX6_say_68 rfl hl (by decide) rfl (fun ls hl => ?_)
            refine lv_iinc (v := nI (k + 1)) (lv' := [(3, .int (nI (k + 1))), (2, .int f_), (1, .int w_), (4, .int (brM n 20 (upd nw (29 + k) ((nw (29 + k)) + 10)))), (0, .ref (b 0))]) hx hb dX6_say_69 hl (k := 4) rfl (nI_add _ 1) (by decide) rfl (fun ls hl => ?_)
            refine lv_goto (tgt := 7) hx hb dX6_say_72 rfl ?_
            exact ih7 (k + 1) w_ f_ (goN n 20 (upd nw (29 + k) ((nw (29 + k)) + 10))) (by omega) ((am_s1 h1 h2 cq47).1) ((am_s1 h1 h2 cq47).2) (by omega) _ _ _ hw (lv_sub hl [4, 2, 1, 0] rfl)
          · skip
            exact absurd cq47 cq59
        · skip
          refine lv_iload_n hx hb dX6_say_50 rfl (lv_at hl 4 rfl) ?_
          refine lv_goto (tgt := 55) hx hb dX6_say_51 rfl ?_
          refine lv_istore_n (lv' := [(1, .int (nI k)), (4, .int (brM n 20 (upd nw (29 + k) ((nw (29 + k)) + 10)))), (0, .ref (b 0)), (2, .int f_), (3, .int (nI k))]) hx hb dX6_say_55 rfl hl (by decide) rfl (fun ls hl => ?_)
          refine lv_iload hx hb dX6_say_56 (lv_at hl 1 rfl) ?_
          refine lv_iload_n hx hb dX6_say_58 rfl (lv_at hl 3 rfl) ?_
          refine lv_icmp_ge (tgt := 67) hx hb dX6_say_59 rfl (fun cq59 => ?_) (fun cq59 => ?_)
          · skip
            exact absurd cq59 cq47
          · skip
            refine lv_iload hx hb dX6_say_62 (lv_at hl 1 rfl) ?_
            refine lv_goto (tgt := 68) hx hb dX6_say_64 rfl ?_
            refine lv_istore_n (lv' := [(2, .int (brM n 20 (upd nw (29 + k) ((nw (29 + k)) + 10)))), (1, .int (nI k)), (4, .int (brM n 20 (upd nw (29 + k) ((nw (29 + k)) + 10)))), (0, .ref (b 0)), (3, .int (nI k))]) hx hb dX6_say_68 rfl hl (by decide) rfl (fun ls hl => ?_)
            refine lv_iinc (v := nI (k + 1)) (lv' := [(3, .int (nI (k + 1))), (2, .int (brM n 20 (upd nw (29 + k) ((nw (29 + k)) + 10)))), (1, .int (nI k)), (4, .int (brM n 20 (upd nw (29 + k) ((nw (29 + k)) + 10)))), (0, .ref (b 0))]) hx hb dX6_say_69 hl (k := 4) rfl (nI_add _ 1) (by decide) rfl (fun ls hl => ?_)
            refine lv_goto (tgt := 7) hx hb dX6_say_72 rfl ?_
            exact ih7 (k + 1) (nI k) (brM n 20 (upd nw (29 + k) ((nw (29 + k)) + 10))) (goN n 20 (upd nw (29 + k) ((nw (29 + k)) + 10))) (by omega) ((am_s2 (f := (fun s => brM n 20 (wdA nw s 10))) h2 cq47).1) ((am_s2 (f := (fun s => brM n 20 (wdA nw s 10))) h2 cq47).2) (by omega) _ _ _ hw (lv_sub hl [4, 2, 1, 0] rfl)
  exact lp7 (n - 0 + 1) 0 (-1) 1000000 asd (by omega) (rfl) (rfl) (by omega) _ _ _ hw (lv_sub hl [3, 2, 1, 0] rfl)

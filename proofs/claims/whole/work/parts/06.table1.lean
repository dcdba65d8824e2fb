set_option maxHeartbeats 1000000 in
set_option maxRecDepth 100000 in
theorem c_bitCount (l : Launch) (G : GG) (x : Int32) : CT l G yJ6_bitCount_0f7a4 cJ6_bitCount_0f7a4 1 (some .int) 0 0 [.int x] ([]) (some (.int (bcI x))) ([]) := by
  refine CT.mk (own := RJ6) (la := [(0, .int x)]) (by decide) rfl (Nat.le_of_ble_eq_true rfl) rfl ?_
  intro p e s m args below meth c A Q E hA hw rt ls hl
  have hx := E.1
  have hb := E.2.1
  refine lv_iload_n hx hb dJ6_bitCount_0f7a4_0 rfl (lv_at hl 0 rfl) ?_
  refine lv_iload_n hx hb dJ6_bitCount_0f7a4_1 rfl (lv_at hl 0 rfl) ?_
  refine lv_iconst (v := 1) hx hb dJ6_bitCount_0f7a4_2 rfl ?_
  refine lv_iushr (v := (x.toUInt32 >>> ((1 : Int32).toUInt32 &&& Int32.toUInt32 31)).toInt32) hx hb dJ6_bitCount_0f7a4_3 rfl ?_
  refine lv_ldcw hx hb E.2.2.2.1 (E.2.2.2.2.2.2.w kc_J6_265) dJ6_bitCount_0f7a4_4 ?_
  refine lv_iand hx hb dJ6_bitCount_0f7a4_7 ?_
  refine lv_isub hx hb dJ6_bitCount_0f7a4_8 ?_
  refine lv_istore_n (lv' := [(0, .int (x - (((x.toUInt32 >>> ((1 : Int32).toUInt32 &&& Int32.toUInt32 31)).toInt32) &&& 1431655765)))]) hx hb dJ6_bitCount_0f7a4_9 rfl hl (by decide) rfl (fun ls hl => ?_)
  refine lv_iload_n hx hb dJ6_bitCount_0f7a4_10 rfl (lv_at hl 0 rfl) ?_
  refine lv_ldcw hx hb E.2.2.2.1 (E.2.2.2.2.2.2.w kc_J6_266) dJ6_bitCount_0f7a4_11 ?_
  refine lv_iand hx hb dJ6_bitCount_0f7a4_14 ?_
  refine lv_iload_n hx hb dJ6_bitCount_0f7a4_15 rfl (lv_at hl 0 rfl) ?_
  refine lv_iconst (v := 2) hx hb dJ6_bitCount_0f7a4_16 rfl ?_
  refine lv_iushr (v := ((x - (((x.toUInt32 >>> ((1 : Int32).toUInt32 &&& Int32.toUInt32 31)).toInt32) &&& 1431655765)).toUInt32 >>> ((2 : Int32).toUInt32 &&& Int32.toUInt32 31)).toInt32) hx hb dJ6_bitCount_0f7a4_17 rfl ?_
  refine lv_ldcw hx hb E.2.2.2.1 (E.2.2.2.2.2.2.w kc_J6_266) dJ6_bitCount_0f7a4_18 ?_
  refine lv_iand hx hb dJ6_bitCount_0f7a4_21 ?_
  refine lv_iadd hx hb dJ6_bitCount_0f7a4_22 ?_
  refine lv_istore_n (lv' := [(0, .int (((x - (((x.toUInt32 >>> ((1 : Int32).toUInt32 &&& Int32.toUInt32 31)).toInt32) &&& 1431655765)) &&& 858993459) + ((((x - (((x.toUInt32 >>> ((1 : Int32).toUInt32 &&& Int32.toUInt32 31)).toInt32) &&& 1431655765)).toUInt32 >>> ((2 : Int32).toUInt32 &&& Int32.toUInt32 31)).toInt32) &&& 858993459)))]) hx hb dJ6_bitCount_0f7a4_23 rfl hl (by decide) rfl (fun ls hl => ?_)
  refine lv_iload_n hx hb dJ6_bitCount_0f7a4_24 rfl (lv_at hl 0 rfl) ?_
  refine lv_iload_n hx hb dJ6_bitCount_0f7a4_25 rfl (lv_at hl 0 rfl) ?_
  refine lv_iconst (v := 4) hx hb dJ6_bitCount_0f7a4_26 rfl ?_
  refine lv_iushr (v := ((((x - (((x.toUInt32 >>> ((1 : Int32).toUInt32 &&& Int32.toUInt32 31)).toInt32) &&& 1431655765)) &&& 858993459) + ((((x - (((x.toUInt32 >>> ((1 : Int32).toUInt32 &&& Int32.toUInt32 31)).toInt32) &&& 1431655765)).toUInt32 >>> ((2 : Int32).toUInt32 &&& Int32.toUInt32 31)).toInt32) &&& 858993459)).toUInt32 >>> ((4 : Int32).toUInt32 &&& Int32.toUInt32 31)).toInt32) hx hb dJ6_bitCount_0f7a4_27 rfl ?_
  refine lv_iadd hx hb dJ6_bitCount_0f7a4_28 ?_
  refine lv_ldcw hx hb E.2.2.2.1 (E.2.2.2.2.2.2.w kc_J6_267) dJ6_bitCount_0f7a4_29 ?_
  refine lv_iand hx hb dJ6_bitCount_0f7a4_32 ?_
  refine lv_istore_n (lv' := [(0, .int (((((x - (((x.toUInt32 >>> ((1 : Int32).toUInt32 &&& Int32.toUInt32 31)).toInt32) &&& 1431655765)) &&& 858993459) + ((((x - (((x.toUInt32 >>> ((1 : Int32).toUInt32 &&& Int32.toUInt32 31)).toInt32) &&& 1431655765)).toUInt32 >>> ((2 : Int32).toUInt32 &&& Int32.toUInt32 31)).toInt32) &&& 858993459)) + (((((x - (((x.toUInt32 >>> ((1 : Int32).toUInt32 &&& Int32.toUInt32 31)).toInt32) &&& 1431655765)) &&& 858993459) + ((((x - (((x.toUInt32 >>> ((1 : Int32).toUInt32 &&& Int32.toUInt32 31)).toInt32) &&& 1431655765)).toUInt32 >>> ((2 : Int32).toUInt32 &&& Int32.toUInt32 31)).toInt32) &&& 858993459)).toUInt32 >>> ((4 : Int32).toUInt32 &&& Int32.toUInt32 31)).toInt32)) &&& 252645135))]) hx hb dJ6_bitCount_0f7a4_33 rfl hl (by decide) rfl (fun ls hl => ?_)
  refine lv_iload_n hx hb dJ6_bitCount_0f7a4_34 rfl (lv_at hl 0 rfl) ?_
  refine lv_iload_n hx hb dJ6_bitCount_0f7a4_35 rfl (lv_at hl 0 rfl) ?_
  refine lv_bipush (v := 8) hx hb dJ6_bitCount_0f7a4_36 rfl ?_
  refine lv_iushr (v := ((((((x - (((x.toUInt32 >>> ((1 : Int32).toUInt32 &&& Int32.toUInt32 31)).toInt32) &&& 1431655765)) &&& 858993459) + ((((x - (((x.toUInt32 >>> ((1 : Int32).toUInt32 &&& Int32.toUInt32 31)).toInt32) &&& 1431655765)).toUInt32 >>> ((2 : Int32).toUInt32 &&& Int32.toUInt32 31)).toInt32) &&& 858993459)) + (((((x - (((x.toUInt32 >>> ((1 : Int32).toUInt32 &&& Int32.toUInt32 31)).toInt32) &&& 1431655765)) &&& 858993459) + ((((x - (((x.toUInt32 >>> ((1 : Int32).toUInt32 &&& Int32.toUInt32 31)).toInt32) &&& 1431655765)).toUInt32 >>> ((2 : Int32).toUInt32 &&& Int32.toUInt32 31)).toInt32) &&& 858993459)).toUInt32 >>> ((4 : Int32).toUInt32 &&& Int32.toUInt32 31)).toInt32)) &&& 252645135).toUInt32 >>> ((8 : Int32).toUInt32 &&& Int32.toUInt32 31)).toInt32) hx hb dJ6_bitCount_0f7a4_38 rfl ?_
  refine lv_iadd hx hb dJ6_bitCount_0f7a4_39 ?_
  refine lv_istore_n (lv' := [(0, .int ((((((x - (((x.toUInt32 >>> ((1 : Int32).toUInt32 &&& Int32.toUInt32 31)).toInt32) &&& 1431655765)) &&& 858993459) + ((((x - (((x.toUInt32 >>> ((1 : Int32).toUInt32 &&& Int32.toUInt32 31)).toInt32) &&& 1431655765)).toUInt32 >>> ((2 : Int32).toUInt32 &&& Int32.toUInt32 31)).toInt32) &&& 858993459)) + (((((x - (((x.toUInt32 >>> ((1 : Int32).toUInt32 &&& Int32.toUInt32 31)).toInt32) &&& 1431655765)) &&& 858993459) + ((((x - (((x.toUInt32 >>> ((1 : Int32).toUInt32 &&& Int32.toUInt32 31)).toInt32) &&& 1431655765)).toUInt32 >>> ((2 : Int32).toUInt32 &&& Int32.toUInt32 31)).toInt32) &&& 858993459)).toUInt32 >>> ((4 : Int32).toUInt32 &&& Int32.toUInt32 31)).toInt32)) &&& 252645135) + (((((((x - (((x.toUInt32 >>> ((1 : Int32).toUInt32 &&& Int32.toUInt32 31)).toInt32) &&& 1431655765)) &&& 858993459) + ((((x - (((x.toUInt32 >>> ((1 : Int32).toUInt32 &&& Int32.toUInt32 31)).toInt32) &&& 1431655765)).toUInt32 >>> ((2 : Int32).toUInt32 &&& Int32.toUInt32 31)).toInt32) &&& 858993459)) + (((((x - (((x.toUInt32 >>> ((1 : Int32).toUInt32 &&& Int32.toUInt32 31)).toInt32) &&& 1431655765)) &&& 858993459) + ((((x - (((x.toUInt32 >>> ((1 : Int32).toUInt32 &&& Int32.toUInt32 31)).toInt32) &&& 1431655765)).toUInt32 >>> ((2 : Int32).toUInt32 &&& Int32.toUInt32 31)).toInt32) &&& 858993459)).toUInt32 >>> ((4 : Int32).toUInt32 &&& Int32.toUInt32 31)).toInt32)) &&& 252645135).toUInt32 >>> ((8 : Int32).toUInt32 &&& Int32.toUInt32 31)).toInt32)))]) hx hb dJ6_bitCount_0f7a4_40 rfl hl (by decide) rfl (fun ls hl => ?_)
  refine lv_iload_n hx hb dJ6_bitCount_0f7a4_41 rfl (lv_at hl 0 rfl) ?_
  refine lv_iload_n hx hb dJ6_bitCount_0f7a4_42 rfl (lv_at hl 0 rfl) ?_
  refine lv_bipush (v := 16) hx hb dJ6_bitCount_0f7a4_43 rfl ?_
  refine lv_iushr (v := (((((((x - (((x.toUInt32 >>> ((1 : Int32).toUInt32 &&& Int32.toUInt32 31)).toInt32) &&& 1431655765)) &&& 858993459) + ((((x - (((x.toUInt32 >>> ((1 : Int32).toUInt32 &&& Int32.toUInt32 31)).toInt32) &&& 1431655765)).toUInt32 >>> ((2 : Int32).toUInt32 &&& Int32.toUInt32 31)).toInt32) &&& 858993459)) + (((((x - (((x.toUInt32 >>> ((1 : Int32).toUInt32 &&& Int32.toUInt32 31)).toInt32) &&& 1431655765)) &&& 858993459) + ((((x - (((x.toUInt32 >>> ((1 : Int32).toUInt32 &&& Int32.toUInt32 31)).toInt32) &&& 1431655765)).toUInt32 >>> ((2 : Int32).toUInt32 &&& Int32.toUInt32 31)).toInt32) &&& 858993459)).toUInt32 >>> ((4 : Int32).toUInt32 &&& Int32.toUInt32 31)).toInt32)) &&& 252645135) + (((((((x - (((x.toUInt32 >>> ((1 : Int32).toUInt32 &&& Int32.toUInt32 31)).toInt32) &&& 1431655765)) &&& 858993459) + ((((x - (((x.toUInt32 >>> ((1 : Int32).toUInt32 &&& Int32.toUInt32 31)).toInt32) &&& 1431655765)).toUInt32 >>> ((2 : Int32).toUInt32 &&& Int32.toUInt32 31)).toInt32) &&& 858993459)) + (((((x - (((x.toUInt32 >>> ((1 : Int32).toUInt32 &&& Int32.toUInt32 31)).toInt32) &&& 1431655765)) &&& 858993459) + ((((x - (((x.toUInt32 >>> ((1 : Int32).toUInt32 &&& Int32.toUInt32 31)).toInt32) &&& 1431655765)).toUInt32 >>> ((2 : Int32).toUInt32 &&& Int32.toUInt32 31)).toInt32) &&& 858993459)).toUInt32 >>> ((4 : Int32).toUInt32 &&& Int32.toUInt32 31)).toInt32)) &&& 252645135).toUInt32 >>> ((8 : Int32).toUInt32 &&& Int32.toUInt32 31)).toInt32)).toUInt32 >>> ((16 : Int32).toUInt32 &&& Int32.toUInt32 31)).toInt32) hx hb dJ6_bitCount_0f7a4_45 rfl ?_
  refine lv_iadd hx hb dJ6_bitCount_0f7a4_46 ?_
  refine lv_istore_n (lv' := [(0, .int (((((((x - (((x.toUInt32 >>> ((1 : Int32).toUInt32 &&& Int32.toUInt32 31)).toInt32) &&& 1431655765)) &&& 858993459) + ((((x - (((x.toUInt32 >>> ((1 : Int32).toUInt32 &&& Int32.toUInt32 31)).toInt32) &&& 1431655765)).toUInt32 >>> ((2 : Int32).toUInt32 &&& Int32.toUInt32 31)).toInt32) &&& 858993459)) + (((((x - (((x.toUInt32 >>> ((1 : Int32).toUInt32 &&& Int32.toUInt32 31)).toInt32) &&& 1431655765)) &&& 858993459) + ((((x - (((x.toUInt32 >>> ((1 : Int32).toUInt32 &&& Int32.toUInt32 31)).toInt32) &&& 1431655765)).toUInt32 >>> ((2 : Int32).toUInt32 &&& Int32.toUInt32 31)).toInt32) &&& 858993459)).toUInt32 >>> ((4 : Int32).toUInt32 &&& Int32.toUInt32 31)).toInt32)) &&& 252645135) + (((((((x - (((x.toUInt32 >>> ((1 : Int32).toUInt32 &&& Int32.toUInt32 31)).toInt32) &&& 1431655765)) &&& 858993459) + ((((x - (((x.toUInt32 >>> ((1 : Int32).toUInt32 &&& Int32.toUInt32 31)).toInt32) &&& 1431655765)).toUInt32 >>> ((2 : Int32).toUInt32 &&& Int32.toUInt32 31)).toInt32) &&& 858993459)) + (((((x - (((x.toUInt32 >>> ((1 : Int32).toUInt32 &&& Int32.toUInt32 31)).toInt32) &&& 1431655765)) &&& 858993459) + ((((x - (((x.toUInt32 >>> ((1 : Int32).toUInt32 &&& Int32.toUInt32 31)).toInt32) &&& 1431655765)).toUInt32 >>> ((2 : Int32).toUInt32 &&& Int32.toUInt32 31)).toInt32) &&& 858993459)).toUInt32 >>> ((4 : Int32).toUInt32 &&& Int32.toUInt32 31)).toInt32)) &&& 252645135).toUInt32 >>> ((8 : Int32).toUInt32 &&& Int32.toUInt32 31)).toInt32)) + ((((((((x - (((x.toUInt32 >>> ((1 : Int32).toUInt32 &&& Int32.toUInt32 31)).toInt32) &&& 1431655765)) &&& 858993459) + ((((x - (((x.toUInt32 >>> ((1 : Int32).toUInt32 &&& Int32.toUInt32 31)).toInt32) &&& 1431655765)).toUInt32 >>> ((2 : Int32).toUInt32 &&& Int32.toUInt32 31)).toInt32) &&& 858993459)) + (((((x - (((x.toUInt32 >>> ((1 : Int32).toUInt32 &&& Int32.toUInt32 31)).toInt32) &&& 1431655765)) &&& 858993459) + ((((x - (((x.toUInt32 >>> ((1 : Int32).toUInt32 &&& Int32.toUInt32 31)).toInt32) &&& 1431655765)).toUInt32 >>> ((2 : Int32).toUInt32 &&& Int32.toUInt32 31)).toInt32) &&& 858993459)).toUInt32 >>> ((4 : Int32).toUInt32 &&& Int32.toUInt32 31)).toInt32)) &&& 252645135) + (((((((x - (((x.toUInt32 >>> ((1 : Int32).toUInt32 &&& Int32.toUInt32 31)).toInt32) &&& 1431655765)) &&& 858993459) + ((((x - (((x.toUInt32 >>> ((1 : Int32).toUInt32 &&& Int32.toUInt32 31)).toInt32) &&& 1431655765)).toUInt32 >>> ((2 : Int32).toUInt32 &&& Int32.toUInt32 31)).toInt32) &&& 858993459)) + (((((x - (((x.toUInt32 >>> ((1 : Int32).toUInt32 &&& Int32.toUInt32 31)).toInt32) &&& 1431655765)) &&& 858993459) + ((((x - (((x.toUInt32 >>> ((1 : Int32).toUInt32 &&& Int32.toUInt32 31)).toInt32) &&& 1431655765)).toUInt32 >>> ((2 : Int32).toUInt32 &&& Int32.toUInt32 31)).toInt32) &&& 858993459)).toUInt32 >>> ((4 : Int32).toUInt32 &&& Int32.toUInt32 31)).toInt32)) &&& 252645135).toUInt32 >>> ((8 : Int32).toUInt32 &&& Int32.toUInt32 31)).toInt32)).toUInt32 >>> ((16 : Int32).toUInt32 &&& Int32.toUInt32 31)).toInt32)))]) hx hb dJ6_bitCount_0f7a4_47 rfl hl (by decide) rfl (fun ls hl => ?_)
  refine lv_iload_n hx hb dJ6_bitCount_0f7a4_48 rfl (lv_at hl 0 rfl) ?_
  refine lv_bipush (v := 63) hx hb dJ6_bitCount_0f7a4_49 rfl ?_
  refine lv_iand hx hb dJ6_bitCount_0f7a4_51 ?_
  exact x_iret E hA rt hw dJ6_bitCount_0f7a4_52 (rfl) rfl
set_option maxHeartbeats 1000000 in
set_option maxRecDepth 100000 in
theorem c_X3_nextSeat (l : Launch) (G : GG) (w : Int32) : CT l G yX3_nextSeat cX3_nextSeat 1 (some .int) 0 0 [.int w] ([]) (some (.int (nxS w))) ([]) := by
  refine CT.mk (own := RX3) (la := [(0, .int w)]) (by decide) rfl (Nat.le_of_ble_eq_true rfl) rfl ?_
  intro p e s m args below meth c A Q E hA hw rt ls hl
  have hx := E.1
  have hb := E.2.1
  refine lv_iload_n hx hb dX3_nextSeat_0 rfl (lv_at hl 0 rfl) ?_
  refine lv_iconst (v := 1) hx hb dX3_nextSeat_1 rfl ?_
  refine lv_iadd hx hb dX3_nextSeat_2 ?_
  refine lv_bipush (v := 8) hx hb dX3_nextSeat_3 rfl ?_
  refine lv_irem hx hb dX3_nextSeat_5 (by decide) ?_
  exact x_iret E hA rt hw dX3_nextSeat_6 (rfl) rfl
set_option maxHeartbeats 1000000 in
set_option maxRecDepth 100000 in
theorem c_X3_seatAhead (l : Launch) (G : GG) (w : Int32) : CT l G yX3_seatAhead cX3_seatAhead 1 (some .int) 0 0 [.int w] ([]) (some (.int (ahS w))) ([]) := by
  refine CT.mk (own := RX3) (la := [(0, .int w)]) (by decide) rfl (Nat.le_of_ble_eq_true rfl) rfl ?_
  intro p e s m args below meth c A Q E hA hw rt ls hl
  have hx := E.1
  have hb := E.2.1
  refine lv_iload_n hx hb dX3_seatAhead_0 rfl (lv_at hl 0 rfl) ?_
  refine lv_bipush (v := 8) hx hb dX3_seatAhead_1 rfl ?_
  refine lv_iadd hx hb dX3_seatAhead_3 ?_
  refine lv_iconst (v := 1) hx hb dX3_seatAhead_4 rfl ?_
  refine lv_isub hx hb dX3_seatAhead_5 ?_
  refine lv_bipush (v := 8) hx hb dX3_seatAhead_6 rfl ?_
  refine lv_irem hx hb dX3_seatAhead_8 (by decide) ?_
  exact x_iret E hA rt hw dX3_seatAhead_9 (rfl) rfl
set_option maxHeartbeats 1000000 in
set_option maxRecDepth 100000 in
theorem c_X3_tightIn (l : Launch) (G : GG) (tk : Int32) (w : Int32) : CT l G yX3_tightIn cX3_tightIn 2 (some .int) 1 20 [.int tk, .int w] ([]) (some (.int (tgI tk w))) ([]) := by
  refine CT.mk (own := RX3) (la := [(0, .int tk), (1, .int w)]) (by decide) rfl (Nat.le_of_ble_eq_true rfl) rfl ?_
  intro p e s m args below meth c A Q E hA hw rt ls hl
  have hx := E.1
  have hb := E.2.1
  refine lv_iload_n hx hb dX3_tightIn_0 rfl (lv_at hl 0 rfl) ?_
  refine lv_iload_n hx hb dX3_tightIn_1 rfl (lv_at hl 1 rfl) ?_
  refine x_callS (is := []) (As := [.int w]) (rest := [.int tk]) (st1 := [.int (nxS w), .int tk]) E (c_X3_nextSeat l G w) sw_X3_49 hw [] rfl rfl rfl rfl hl.1 rfl rfl (Nat.le_of_ble_eq_true rfl) ⟨Nat.le_of_ble_eq_true rfl, Nat.le_of_ble_eq_true rfl⟩ (Nat.zero_le _) (Nat.zero_le _) dX3_tightIn_2 rfl rfl (fun H locs hw => ?_)
  refine lv_ishr hx hb dX3_tightIn_5 ?_
  refine lv_iconst (v := 1) hx hb dX3_tightIn_6 rfl ?_
  refine lv_iand hx hb dX3_tightIn_7 ?_
  refine lv_iload_n hx hb dX3_tightIn_8 rfl (lv_at hl 0 rfl) ?_
  refine lv_iload_n hx hb dX3_tightIn_9 rfl (lv_at hl 1 rfl) ?_
  refine x_callS (is := []) (As := [.int w]) (rest := [.int tk, .int ((tk >>> ((nxS w) &&& 31)) &&& 1)]) (st1 := [.int (ahS w), .int tk, .int ((tk >>> ((nxS w) &&& 31)) &&& 1)]) E (c_X3_seatAhead l G w) sw_X3_53 hw [] rfl rfl rfl rfl hl.1 rfl rfl (Nat.le_of_ble_eq_true rfl) ⟨Nat.le_of_ble_eq_true rfl, Nat.le_of_ble_eq_true rfl⟩ (Nat.zero_le _) (Nat.zero_le _) dX3_tightIn_10 rfl rfl (fun H locs hw => ?_)
  refine lv_ishr hx hb dX3_tightIn_13 ?_
  refine lv_iconst (v := 1) hx hb dX3_tightIn_14 rfl ?_
  refine lv_iand hx hb dX3_tightIn_15 ?_
  refine lv_iadd hx hb dX3_tightIn_16 ?_
  exact x_iret E hA rt hw dX3_tightIn_17 (rfl) rfl
set_option maxHeartbeats 1000000 in
set_option maxRecDepth 100000 in
theorem c_X5_near (l : Launch) (G : GG) (k : Int32) (h : Int32) (t : Int32) (w : Int32) (b : Int32) (lt : Int32) : CT l G yX5_near cX5_near 9 (some .int) 1 13 [.int k, .int h, .int t, .int w, .int b, .int lt] ([]) (some (.int (nr k h t w b lt))) ([]) := by
  refine CT.mk (own := RX5) (la := [(0, .int k), (1, .int h), (2, .int t), (3, .int w), (4, .int b), (5, .int lt)]) (by decide) rfl (Nat.le_of_ble_eq_true rfl) rfl ?_
  intro p e s m args below meth c A Q E hA hw rt ls hl
  have hx := E.1
  have hb := E.2.1
  refine lv_iconst (v := 0) hx hb dX5_near_0 rfl ?_
  refine lv_iload_n hx hb dX5_near_1 rfl (lv_at hl 1 rfl) ?_
  refine lv_iconst (v := 3) hx hb dX5_near_2 rfl ?_
  refine lv_iload_n hx hb dX5_near_3 rfl (lv_at hl 2 rfl) ?_
  refine lv_imul hx hb dX5_near_4 ?_
  refine lv_iadd hx hb dX5_near_5 ?_
  refine lv_iload_n hx hb dX5_near_6 rfl (lv_at hl 3 rfl) ?_
  refine lv_iconst (v := 2) hx hb dX5_near_7 rfl ?_
  refine lv_idiv hx hb dX5_near_8 (by decide) ?_
  refine lv_isub hx hb dX5_near_9 ?_
  refine x_mmax E lw_X5_245 kw_math_max hl.1 (Nat.le_of_ble_eq_true rfl) (Nat.le_of_ble_eq_true rfl) (Nat.zero_le _) (Nat.zero_le _) dX5_near_10 ?_
  refine x_topi (y := nrP h t w) (rfl) ?_
  refine lv_istore (lv' := [(6, .int (nrP h t w)), (0, .int k), (1, .int h), (2, .int t), (3, .int w), (4, .int b), (5, .int lt)]) hx hb dX5_near_13 hl (by decide) rfl (fun ls hl => ?_)
  refine lv_iconst (v := 0) hx hb dX5_near_15 rfl ?_
  refine lv_iload hx hb dX5_near_16 (lv_at hl 0 rfl) ?_
  refine lv_iload_n hx hb dX5_near_18 rfl (lv_at hl 4 rfl) ?_
  refine lv_iconst (v := 2) hx hb dX5_near_19 rfl ?_
  refine lv_idiv hx hb dX5_near_20 (by decide) ?_
  refine lv_isub hx hb dX5_near_21 ?_
  refine x_mmax E lw_X5_245 kw_math_max hl.1 (Nat.le_of_ble_eq_true rfl) (Nat.le_of_ble_eq_true rfl) (Nat.zero_le _) (Nat.zero_le _) dX5_near_22 ?_
  refine x_topi (y := nrT (nrP h t w) w) (rfl) ?_
  refine lv_istore (lv' := [(7, .int (nrT (nrP h t w) w)), (6, .int (nrP h t w)), (0, .int k), (1, .int h), (2, .int t), (3, .int w), (4, .int b), (5, .int lt)]) hx hb dX5_near_25 hl (by decide) rfl (fun ls hl => ?_)
  refine lv_iload hx hb dX5_near_27 (lv_at hl 1 rfl) ?_
  refine lv_iconst (v := 3) hx hb dX5_near_29 rfl ?_
  refine lv_iload hx hb dX5_near_30 (lv_at hl 7 rfl) ?_
  refine lv_imul hx hb dX5_near_32 ?_
  refine lv_iadd hx hb dX5_near_33 ?_
  refine lv_istore (lv' := [(8, .int ((nrP h t w) + (3 * lt))), (7, .int (nrT (nrP h t w) w)), (6, .int (nrP h t w)), (0, .int k), (1, .int h), (2, .int t), (3, .int w), (4, .int b), (5, .int lt)]) hx hb dX5_near_34 hl (by decide) rfl (fun ls hl => ?_)
  refine lv_iload_n hx hb dX5_near_36 rfl (lv_at hl 3 rfl) ?_
  by_cases cq37_1 : k = (1 : Int32)
  · skip
    refine lv_tableIn (off := 35) (tgt := 72) hx hb dX5_near_37 (by rw [cq37_1]; decide) (by rw [cq37_1]; decide) (by rw [cq37_1]; rfl) rfl ?_
    refine lv_iload hx hb dX5_near_72 (lv_at hl 2 rfl) ?_
    refine lv_iconst (v := 4) hx hb dX5_near_74 rfl ?_
    refine lv_iadd hx hb dX5_near_75 ?_
    exact x_iret E hA rt hw dX5_near_76 (by simp [nr, cq37_1]) rfl
  by_cases cq37_2 : k = (2 : Int32)
  · skip
    refine lv_tableIn (off := 40) (tgt := 77) hx hb dX5_near_37 (by rw [cq37_2]; decide) (by rw [cq37_2]; decide) (by rw [cq37_2]; rfl) rfl ?_
    refine lv_iload hx hb dX5_near_77 (lv_at hl 1 rfl) ?_
    exact x_iret E hA rt hw dX5_near_79 (by simp [nr, cq37_1, cq37_2]) rfl
  by_cases cq37_3 : k = (3 : Int32)
  · skip
    refine lv_tableIn (off := 43) (tgt := 80) hx hb dX5_near_37 (by rw [cq37_3]; decide) (by rw [cq37_3]; decide) (by rw [cq37_3]; rfl) rfl ?_
    refine lv_iload hx hb dX5_near_80 (lv_at hl 0 rfl) ?_
    exact x_iret E hA rt hw dX5_near_82 (by simp [nr, cq37_1, cq37_2, cq37_3]) rfl
  by_cases cq37_4 : k = (4 : Int32)
  · skip
    refine lv_tableIn (off := 46) (tgt := 83) hx hb dX5_near_37 (by rw [cq37_4]; decide) (by rw [cq37_4]; decide) (by rw [cq37_4]; rfl) rfl ?_
    refine lv_iload hx hb dX5_near_83 (lv_at hl 0 rfl) ?_
    refine lv_iconst (v := 2) hx hb dX5_near_85 rfl ?_
    refine lv_iload hx hb dX5_near_86 (lv_at hl 7 rfl) ?_
    refine lv_imul hx hb dX5_near_88 ?_
    refine lv_iadd hx hb dX5_near_89 ?_
    exact x_iret E hA rt hw dX5_near_90 (by simp [nr, cq37_1, cq37_2, cq37_3, cq37_4]) rfl
  by_cases cq37_5 : k = (5 : Int32)
  · skip
    refine lv_tableIn (off := 54) (tgt := 91) hx hb dX5_near_37 (by rw [cq37_5]; decide) (by rw [cq37_5]; decide) (by rw [cq37_5]; rfl) rfl ?_
    refine lv_iload hx hb dX5_near_91 (lv_at hl 1 rfl) ?_
    refine lv_iconst (v := 2) hx hb dX5_near_93 rfl ?_
    refine lv_idiv hx hb dX5_near_94 (by decide) ?_
    exact x_iret E hA rt hw dX5_near_95 (by simp [nr, cq37_1, cq37_2, cq37_3, cq37_4, cq37_5]) rfl
  refine lv_tableOut (tgt := 96) hx hb dX5_near_37 (by have g1 := lv_neT (a := 1) cq37_1 rfl; have g2 := lv_neT (a := 2) cq37_2 rfl; have g3 := lv_neT (a := 3) cq37_3 rfl; have g4 := lv_neT (a := 4) cq37_4 rfl; have g5 := lv_neT (a := 5) cq37_5 rfl; omega) rfl ?_
  refine lv_iload hx hb dX5_near_96 (lv_at hl 2 rfl) ?_
  exact x_iret E hA rt hw dX5_near_98 (by simp [nr, cq37_1, cq37_2, cq37_3, cq37_4, cq37_5]) rfl
set_option maxHeartbeats 1000000 in
set_option maxRecDepth 100000 in
theorem c_X3_childAt (l : Launch) (G : GG) (a : Nat → Nat) (w : Int32) (wo : Int32) (mi : Int32) (bi : Int32) (la : Int32) (n : Nat) (ki : Nat → Int32) (se : Nat → Int32) (wd : Nat → Int32) (hu : Nat → Int32) (bt : Nat → Int32) (hn : n ≤ 6) : CT l G yX3_childAt cX3_childAt 3 (some .int) 0 0 [.ref (a 0), .int w] (tW G a wo mi bi la (nI n) ki se wd hu bt) (some (.int (fi se w n 0))) (tW G a wo mi bi la (nI n) ki se wd hu bt) := by
  refine CT.mk (own := RX3) (la := [(0, .ref (a 0)), (1, .int w)]) (by decide) rfl (Nat.le_of_ble_eq_true rfl) rfl ?_
  intro p e s m args below meth c A Q E hA hw rt ls hl
  have hx := E.1
  have hb := E.2.1
  refine lv_iconst (v := 0) hx hb dX3_childAt_0 rfl ?_
  refine lv_istore_n (lv' := [(2, .int 0), (0, .ref (a 0)), (1, .int w)]) hx hb dX3_childAt_1 rfl hl (by decide) rfl (fun ls hl => ?_)
  have lp2 : ∀ (fuel : Nat), ∀ (k : Nat) (hk : k ≤ n) (hiv : fi se w n 0 = fi se w (n - k) k), (n - k) < fuel → ∀ (H : Heap) (locs : List Loc) (ls : Array Slot), Wd G A s H locs (tW G a wo mi bi la (nI n) ki se wd hu bt) → lv_has ls 3 [(0, .ref (a 0)), (1, .int w), (2, .int (nI k))] → W p l e (rmx 0 0) s m args below meth c H locs 0 0 Q (F0 m 2 ls []) := by
    intro fuel
    induction fuel with
    | zero => intro k hk hiv hfu; exact absurd hfu (Nat.not_lt_zero _)
    | succ fuel ih2 =>
      intro k hk hiv hfu H locs ls hw hl
      refine lv_iload_n hx hb dX3_childAt_2 rfl (lv_at hl 2 rfl) ?_
      refine lv_aload_n hx hb dX3_childAt_3 rfl (lv_at hl 0 rfl) ?_
      refine x_get E hw fw_X3_40 0 rfl rfl dX3_childAt_4 ?_
      refine lv_icmp_ge (tgt := 28) hx hb dX3_childAt_7 rfl (fun cq7 => ?_) (fun cq7 => ?_)
      · skip
        have cq7 : n ≤ k := (cv_le (a := n) (b := k) rfl rfl (by omega) (by omega)).mp cq7
        refine lv_iconst (v := -1) hx hb dX3_childAt_28 rfl ?_
        exact x_iret E hA rt hw dX3_childAt_29 (by rw [hiv, fi_end (by omega)]) rfl
      · skip
        have cq7 : ¬ n ≤ k := fun h => cq7 ((cv_le (a := n) (b := k) rfl rfl (by omega) (by omega)).mpr h)
        refine lv_aload_n hx hb dX3_childAt_10 rfl (lv_at hl 0 rfl) ?_
        refine x_get E hw fw_X3_15 0 rfl rfl dX3_childAt_11 ?_
        refine lv_iload_n hx hb dX3_childAt_14 rfl (lv_at hl 2 rfl) ?_
        refine x_iald E hw 2 rfl k (rfl) (by omega) (by omega) dX3_childAt_15 ?_
        refine lv_iload_n hx hb dX3_childAt_16 rfl (lv_at hl 1 rfl) ?_
        refine lv_icmp_ne (tgt := 22) hx hb dX3_childAt_17 rfl (fun cq17 => ?_) (fun cq17 => ?_)
        · skip
          refine lv_iinc (v := nI (k + 1)) (lv' := [(2, .int (nI (k + 1))), (0, .ref (a 0)), (1, .int w)]) hx hb dX3_childAt_22 hl (k := 2) rfl (nI_add _ 1) (by decide) rfl (fun ls hl => ?_)
          refine lv_goto (tgt := 2) hx hb dX3_childAt_25 rfl ?_
          exact ih2 (k + 1) (by omega) (by rw [hiv, fi_step (by omega), if_neg cq17]) (by omega) _ _ _ hw (lv_sub hl [1, 2, 0] rfl)
        · skip
          refine lv_iload_n hx hb dX3_childAt_20 rfl (lv_at hl 2 rfl) ?_
          exact x_iret E hA rt hw dX3_childAt_21 (by rw [hiv, fi_step (by omega), if_pos cq17]) rfl
  exact lp2 (n - 0 + 1) 0 (by omega) (rfl) (by omega) _ _ _ hw (lv_sub hl [1, 2, 0] rfl)
set_option maxHeartbeats 1000000 in
set_option maxRecDepth 100000 in
theorem c_X3_takenSeats (l : Launch) (G : GG) (a : Nat → Nat) (wo : Int32) (mi : Int32) (bi : Int32) (la : Int32) (n : Nat) (ki : Nat → Int32) (se : Nat → Int32) (wd : Nat → Int32) (hu : Nat → Int32) (bt : Nat → Int32) (hn : n ≤ 6) : CT l G yX3_takenSeats cX3_takenSeats 3 (some .int) 0 0 [.ref (a 0)] (tW G a wo mi bi la (nI n) ki se wd hu bt) (some (.int (tk se n))) (tW G a wo mi bi la (nI n) ki se wd hu bt) := by
  refine CT.mk (own := RX3) (la := [(0, .ref (a 0))]) (by decide) rfl (Nat.le_of_ble_eq_true rfl) rfl ?_
  intro p e s m args below meth c A Q E hA hw rt ls hl
  have hx := E.1
  have hb := E.2.1
  refine lv_iconst (v := 0) hx hb dX3_takenSeats_0 rfl ?_
  refine lv_istore_n (lv' := [(1, .int 0), (0, .ref (a 0))]) hx hb dX3_takenSeats_1 rfl hl (by decide) rfl (fun ls hl => ?_)
  refine lv_iconst (v := 0) hx hb dX3_takenSeats_2 rfl ?_
  refine lv_istore_n (lv' := [(2, .int 0), (1, .int 0), (0, .ref (a 0))]) hx hb dX3_takenSeats_3 rfl hl (by decide) rfl (fun ls hl => ?_)
  have lp4 : ∀ (fuel : Nat), ∀ (k : Nat) (acc : Int32) (hk : k ≤ n) (hiv : acc = tk se k), (n - k) < fuel → ∀ (H : Heap) (locs : List Loc) (ls : Array Slot), Wd G A s H locs (tW G a wo mi bi la (nI n) ki se wd hu bt) → lv_has ls 3 [(0, .ref (a 0)), (1, .int acc), (2, .int (nI k))] → W p l e (rmx 0 0) s m args below meth c H locs 0 0 Q (F0 m 4 ls []) := by
    intro fuel
    induction fuel with
    | zero => intro k acc hk hiv hfu; exact absurd hfu (Nat.not_lt_zero _)
    | succ fuel ih4 =>
      intro k acc hk hiv hfu H locs ls hw hl
      refine lv_iload_n hx hb dX3_takenSeats_4 rfl (lv_at hl 2 rfl) ?_
      refine lv_aload_n hx hb dX3_takenSeats_5 rfl (lv_at hl 0 rfl) ?_
      refine x_get E hw fw_X3_40 0 rfl rfl dX3_takenSeats_6 ?_
      refine lv_icmp_ge (tgt := 29) hx hb dX3_takenSeats_9 rfl (fun cq9 => ?_) (fun cq9 => ?_)
      · skip
        have cq9 : n ≤ k := (cv_le (a := n) (b := k) rfl rfl (by omega) (by omega)).mp cq9
        refine lv_iload_n hx hb dX3_takenSeats_29 rfl (lv_at hl 1 rfl) ?_
        exact x_iret E hA rt hw dX3_takenSeats_30 (by rw [hiv, show k = n by omega]) rfl
      · skip
        have cq9 : ¬ n ≤ k := fun h => cq9 ((cv_le (a := n) (b := k) rfl rfl (by omega) (by omega)).mpr h)
        refine lv_iload_n hx hb dX3_takenSeats_12 rfl (lv_at hl 1 rfl) ?_
        refine lv_iconst (v := 1) hx hb dX3_takenSeats_13 rfl ?_
        refine lv_aload_n hx hb dX3_takenSeats_14 rfl (lv_at hl 0 rfl) ?_
        refine x_get E hw fw_X3_15 0 rfl rfl dX3_takenSeats_15 ?_
        refine lv_iload_n hx hb dX3_takenSeats_18 rfl (lv_at hl 2 rfl) ?_
        refine x_iald E hw 2 rfl k (rfl) (by omega) (by omega) dX3_takenSeats_19 ?_
        refine lv_ishl hx hb dX3_takenSeats_20 ?_
        refine lv_ior hx hb dX3_takenSeats_21 ?_
        refine lv_istore_n (lv' := [(1, .int (acc ||| ((1 : Int32) <<< ((se k) &&& 31)))), (0, .ref (a 0)), (2, .int (nI k))]) hx hb dX3_takenSeats_22 rfl hl (by decide) rfl (fun ls hl => ?_)
        refine lv_iinc (v := nI (k + 1)) (lv' := [(2, .int (nI (k + 1))), (1, .int (acc ||| ((1 : Int32) <<< ((se k) &&& 31)))), (0, .ref (a 0))]) hx hb dX3_takenSeats_23 hl (k := 2) rfl (nI_add _ 1) (by decide) rfl (fun ls hl => ?_)
        refine lv_goto (tgt := 4) hx hb dX3_takenSeats_26 rfl ?_
        exact ih4 (k + 1) (acc ||| ((1 : Int32) <<< ((se k) &&& 31))) (by omega) (by rw [hiv]; rfl) (by omega) _ _ _ hw (lv_sub hl [2, 1, 0] rfl)
  exact lp4 (n - 0 + 1) 0 0 (by omega) (rfl) (by omega) _ _ _ hw (lv_sub hl [2, 1, 0] rfl)
set_option maxHeartbeats 1000000 in
set_option maxRecDepth 100000 in
theorem c_X3_tightOf (l : Launch) (G : GG) (a : Nat → Nat) (i : Int32) (k : Nat) (hv_i : i = nI k) (wo : Int32) (mi : Int32) (bi : Int32) (la : Int32) (n : Nat) (ki : Nat → Int32) (se : Nat → Int32) (wd : Nat → Int32) (hu : Nat → Int32) (bt : Nat → Int32) (hn : n ≤ 6) (hk : k < 6) : CT l G yX3_tightOf cX3_tightOf 2 (some .int) 2 41 [.ref (a 0), .int i] (tW G a wo mi bi la (nI n) ki se wd hu bt) (some (.int (tgI (tk se n) (se k)))) (tW G a wo mi bi la (nI n) ki se wd hu bt) := by
  refine CT.mk (own := RX3) (la := [(0, .ref (a 0)), (1, .int i)]) (by decide) rfl (Nat.le_of_ble_eq_true rfl) rfl ?_
  intro p e s m args below meth c A Q E hA hw rt ls hl
  have hx := E.1
  have hb := E.2.1
  refine lv_aload_n hx hb dX3_tightOf_0 rfl (lv_at hl 0 rfl) ?_
  refine x_callV (is := [0, 1, 2, 3, 4, 5]) (q0 := 0) (As := []) (rest := []) (st1 := [.int (tk se n)]) (ws' := tW G a wo mi bi la (nI n) ki se wd hu bt) E (c_X3_takenSeats l G a wo mi bi la n ki se wd hu bt (by omega)) vw_X3_56 hw [0, 1, 2, 3, 4, 5] rfl rfl rfl rfl rfl rfl rfl hl.1 rfl rfl (Nat.le_of_ble_eq_true rfl) ⟨Nat.le_of_ble_eq_true rfl, Nat.le_of_ble_eq_true rfl⟩ (Nat.zero_le _) (Nat.zero_le _) dX3_tightOf_1 rfl rfl (fun H locs hw => ?_)
  refine lv_aload_n hx hb dX3_tightOf_4 rfl (lv_at hl 0 rfl) ?_
  refine x_get E hw fw_X3_15 0 rfl rfl dX3_tightOf_5 ?_
  refine lv_iload_n hx hb dX3_tightOf_8 rfl (lv_at hl 1 rfl) ?_
  refine x_iald E hw 2 rfl k (hv_i) (by omega) (by omega) dX3_tightOf_9 ?_
  refine x_callS (is := []) (As := [.int (tk se n), .int (se k)]) (rest := []) (st1 := [.int (tgI (tk se n) (se k))]) (ws' := tW G a wo mi bi la (nI n) ki se wd hu bt) E (c_X3_tightIn l G (tk se n) (se k)) sw_X3_60 hw [] rfl rfl rfl rfl hl.1 rfl rfl (Nat.le_of_ble_eq_true rfl) ⟨Nat.le_of_ble_eq_true rfl, Nat.le_of_ble_eq_true rfl⟩ (Nat.zero_le _) (Nat.zero_le _) dX3_tightOf_10 rfl rfl (fun H locs hw => ?_)
  exact x_iret E hA rt hw dX3_tightOf_13 (rfl) rfl
set_option maxHeartbeats 1000000 in
set_option maxRecDepth 100000 in
theorem c_X3_nearIf (l : Launch) (G : GG) (a : Nat → Nat) (i : Int32) (k : Nat) (hv_i : i = nI k) (t : Int32) (wo : Int32) (mi : Int32) (bi : Int32) (la : Int32) (n : Nat) (ki : Nat → Int32) (se : Nat → Int32) (wd : Nat → Int32) (hu : Nat → Int32) (bt : Nat → Int32) (hk : k < 6) : CT l G yX3_nearIf cX3_nearIf 3 (some .int) 2 41 [.ref (a 0), .int i, .int t] (tW G a wo mi bi la (nI n) ki se wd hu bt) (some (.int (nr (ki k) (hu k) t (wd k) (bt k) la))) (tW G a wo mi bi la (nI n) ki se wd hu bt) := by
  refine CT.mk (own := RX3) (la := [(0, .ref (a 0)), (1, .int i), (2, .int t)]) (by decide) rfl (Nat.le_of_ble_eq_true rfl) rfl ?_
  intro p e s m args below meth c A Q E hA hw rt ls hl
  have hx := E.1
  have hb := E.2.1
  refine lv_aload_n hx hb dX3_nearIf_0 rfl (lv_at hl 0 rfl) ?_
  refine x_get E hw fw_X3_9 0 rfl rfl dX3_nearIf_1 ?_
  refine lv_iload_n hx hb dX3_nearIf_4 rfl (lv_at hl 1 rfl) ?_
  refine x_iald E hw 1 rfl k (hv_i) (by omega) (by omega) dX3_nearIf_5 ?_
  refine lv_aload_n hx hb dX3_nearIf_6 rfl (lv_at hl 0 rfl) ?_
  refine x_get E hw fw_X3_21 0 rfl rfl dX3_nearIf_7 ?_
  refine lv_iload_n hx hb dX3_nearIf_10 rfl (lv_at hl 1 rfl) ?_
  refine x_iald E hw 4 rfl k (hv_i) (by omega) (by omega) dX3_nearIf_11 ?_
  refine lv_iload_n hx hb dX3_nearIf_12 rfl (lv_at hl 2 rfl) ?_
  refine lv_aload_n hx hb dX3_nearIf_13 rfl (lv_at hl 0 rfl) ?_
  refine x_get E hw fw_X3_18 0 rfl rfl dX3_nearIf_14 ?_
  refine lv_iload_n hx hb dX3_nearIf_17 rfl (lv_at hl 1 rfl) ?_
  refine x_iald E hw 3 rfl k (hv_i) (by omega) (by omega) dX3_nearIf_18 ?_
  refine lv_aload_n hx hb dX3_nearIf_19 rfl (lv_at hl 0 rfl) ?_
  refine x_get E hw fw_X3_24 0 rfl rfl dX3_nearIf_20 ?_
  refine lv_iload_n hx hb dX3_nearIf_23 rfl (lv_at hl 1 rfl) ?_
  refine x_iald E hw 5 rfl k (hv_i) (by omega) (by omega) dX3_nearIf_24 ?_
  refine lv_aload_n hx hb dX3_nearIf_25 rfl (lv_at hl 0 rfl) ?_
  refine x_get E hw fw_X3_37 0 rfl rfl dX3_nearIf_26 ?_
  refine x_callS (is := []) (As := [.int (ki k), .int (hu k), .int t, .int (wd k), .int (bt k), .int la]) (rest := []) (st1 := [.int (nr (ki k) (hu k) t (wd k) (bt k) la)]) (ws' := tW G a wo mi bi la (nI n) ki se wd hu bt) E (c_X5_near l G (ki k) (hu k) t (wd k) (bt k) la) sw_X3_64 hw [] rfl rfl rfl rfl hl.1 rfl rfl (Nat.le_of_ble_eq_true rfl) ⟨Nat.le_of_ble_eq_true rfl, Nat.le_of_ble_eq_true rfl⟩ (Nat.zero_le _) (Nat.zero_le _) dX3_nearIf_29 rfl rfl (fun H locs hw => ?_)
  exact x_iret E hA rt hw dX3_nearIf_32 (rfl) rfl
set_option maxHeartbeats 1000000 in
set_option maxRecDepth 100000 in
theorem c_X3_nearOf (l : Launch) (G : GG) (a : Nat → Nat) (i : Int32) (k : Nat) (hv_i : i = nI k) (wo : Int32) (mi : Int32) (bi : Int32) (la : Int32) (n : Nat) (ki : Nat → Int32) (se : Nat → Int32) (wd : Nat → Int32) (hu : Nat → Int32) (bt : Nat → Int32) (hn : n ≤ 6) (hk : k < 6) : CT l G yX3_nearOf cX3_nearOf 2 (some .int) 3 63 [.ref (a 0), .int i] (tW G a wo mi bi la (nI n) ki se wd hu bt) (some (.int (nr (ki k) (hu k) (tgI (tk se n) (se k)) (wd k) (bt k) la))) (tW G a wo mi bi la (nI n) ki se wd hu bt) := by
  refine CT.mk (own := RX3) (la := [(0, .ref (a 0)), (1, .int i)]) (by decide) rfl (Nat.le_of_ble_eq_true rfl) rfl ?_
  intro p e s m args below meth c A Q E hA hw rt ls hl
  have hx := E.1
  have hb := E.2.1
  refine lv_aload_n hx hb dX3_nearOf_0 rfl (lv_at hl 0 rfl) ?_
  refine lv_iload_n hx hb dX3_nearOf_1 rfl (lv_at hl 1 rfl) ?_
  refine lv_aload_n hx hb dX3_nearOf_2 rfl (lv_at hl 0 rfl) ?_
  refine lv_iload_n hx hb dX3_nearOf_3 rfl (lv_at hl 1 rfl) ?_
  refine x_callV (is := [0, 1, 2, 3, 4, 5]) (q0 := 0) (As := [.int i]) (rest := [.int i, .ref (a 0)]) (st1 := [.int (tgI (tk se n) (se k)), .int i, .ref (a 0)]) (ws' := tW G a wo mi bi la (nI n) ki se wd hu bt) E (c_X3_tightOf l G a i k (hv_i) wo mi bi la n ki se wd hu bt (by omega) (by omega)) vw_X3_68 hw [0, 1, 2, 3, 4, 5] rfl rfl rfl rfl rfl rfl rfl hl.1 rfl rfl (Nat.le_of_ble_eq_true rfl) ⟨Nat.le_of_ble_eq_true rfl, Nat.le_of_ble_eq_true rfl⟩ (Nat.zero_le _) (Nat.zero_le _) dX3_nearOf_4 rfl rfl (fun H locs hw => ?_)
  refine x_callV (is := [0, 1, 2, 3, 4, 5]) (q0 := 0) (As := [.int i, .int (tgI (tk se n) (se k))]) (rest := []) (st1 := [.int (nr (ki k) (hu k) (tgI (tk se n) (se k)) (wd k) (bt k) la)]) (ws' := tW G a wo mi bi la (nI n) ki se wd hu bt) E (c_X3_nearIf l G a i k (hv_i) (tgI (tk se n) (se k)) wo mi bi la n ki se wd hu bt (by omega)) vw_X3_71 hw [0, 1, 2, 3, 4, 5] rfl rfl rfl rfl rfl rfl rfl hl.1 rfl rfl (Nat.le_of_ble_eq_true rfl) ⟨Nat.le_of_ble_eq_true rfl, Nat.le_of_ble_eq_true rfl⟩ (Nat.zero_le _) (Nat.zero_le _) dX3_nearOf_7 rfl rfl (fun H locs hw => ?_)
  exact x_iret E hA rt hw dX3_nearOf_10 (rfl) rfl
set_option maxHeartbeats 1000000 in
set_option maxRecDepth 100000 in
theorem c_X3_whomOf (l : Launch) (G : GG) (a : Nat → Nat) (i : Int32) (k : Nat) (hv_i : i = nI k) (wo : Int32) (mi : Int32) (bi : Int32) (la : Int32) (n : Nat) (ki : Nat → Int32) (se : Nat → Int32) (wd : Nat → Int32) (hu : Nat → Int32) (bt : Nat → Int32) (hn : n ≤ 6) (hk : k < 6) : CT l G yX3_whomOf cX3_whomOf 3 (some .int) 1 22 [.ref (a 0), .int i] (tW G a wo mi bi la (nI n) ki se wd hu bt) (some (.int (whm se n (se k)))) (tW G a wo mi bi la (nI n) ki se wd hu bt) := by
  refine CT.mk (own := RX3) (la := [(0, .ref (a 0)), (1, .int i)]) (by decide) rfl (Nat.le_of_ble_eq_true rfl) rfl ?_
  intro p e s m args below meth c A Q E hA hw rt ls hl
  have hx := E.1
  have hb := E.2.1
  refine lv_aload_n hx hb dX3_whomOf_0 rfl (lv_at hl 0 rfl) ?_
  refine lv_aload_n hx hb dX3_whomOf_1 rfl (lv_at hl 0 rfl) ?_
  refine x_get E hw fw_X3_15 0 rfl rfl dX3_whomOf_2 ?_
  refine lv_iload_n hx hb dX3_whomOf_5 rfl (lv_at hl 1 rfl) ?_
  refine x_iald E hw 2 rfl k (hv_i) (by omega) (by omega) dX3_whomOf_6 ?_
  refine x_callS (is := []) (As := [.int (se k)]) (rest := [.ref (a 0)]) (st1 := [.int (nxS (se k)), .ref (a 0)]) (ws' := tW G a wo mi bi la (nI n) ki se wd hu bt) E (c_X3_nextSeat l G (se k)) sw_X3_49 hw [] rfl rfl rfl rfl hl.1 rfl rfl (Nat.le_of_ble_eq_true rfl) ⟨Nat.le_of_ble_eq_true rfl, Nat.le_of_ble_eq_true rfl⟩ (Nat.zero_le _) (Nat.zero_le _) dX3_whomOf_7 rfl rfl (fun H locs hw => ?_)
  refine x_callV (is := [0, 1, 2, 3, 4, 5]) (q0 := 0) (As := [.int (nxS (se k))]) (rest := []) (st1 := [.int (fi se (nxS (se k)) n 0)]) (ws' := tW G a wo mi bi la (nI n) ki se wd hu bt) E (c_X3_childAt l G a (nxS (se k)) wo mi bi la n ki se wd hu bt (by omega)) vw_X3_74 hw [0, 1, 2, 3, 4, 5] rfl rfl rfl rfl rfl rfl rfl hl.1 rfl rfl (Nat.le_of_ble_eq_true rfl) ⟨Nat.le_of_ble_eq_true rfl, Nat.le_of_ble_eq_true rfl⟩ (Nat.zero_le _) (Nat.zero_le _) dX3_whomOf_10 rfl rfl (fun H locs hw => ?_)
  refine lv_istore_n (lv' := [(2, .int (fi se (nxS (se k)) n 0)), (0, .ref (a 0)), (1, .int i)]) hx hb dX3_whomOf_13 rfl hl (by decide) rfl (fun ls hl => ?_)
  refine lv_iload_n hx hb dX3_whomOf_14 rfl (lv_at hl 0 rfl) ?_
  refine lv_iconst (v := -1) hx hb dX3_whomOf_15 rfl ?_
  refine lv_icmp_eq (tgt := 23) hx hb dX3_whomOf_16 rfl (fun cq16 => ?_) (fun cq16 => ?_)
  · skip
    refine lv_aload_n hx hb dX3_whomOf_23 rfl (lv_at hl 1 rfl) ?_
    refine lv_aload_n hx hb dX3_whomOf_24 rfl (lv_at hl 1 rfl) ?_
    refine x_get E hw fw_X3_15 0 rfl rfl dX3_whomOf_25 ?_
    refine lv_iload_n hx hb dX3_whomOf_28 rfl (lv_at hl 2 rfl) ?_
    refine x_iald E hw 2 rfl k (hv_i) (by omega) (by omega) dX3_whomOf_29 ?_
    refine x_callS (is := []) (As := [.int (se k)]) (rest := [.ref (a 0)]) (st1 := [.int (ahS (se k)), .ref (a 0)]) (ws' := tW G a wo mi bi la (nI n) ki se wd hu bt) E (c_X3_seatAhead l G (se k)) sw_X3_53 hw [] rfl rfl rfl rfl hl.1 rfl rfl (Nat.le_of_ble_eq_true rfl) ⟨Nat.le_of_ble_eq_true rfl, Nat.le_of_ble_eq_true rfl⟩ (Nat.zero_le _) (Nat.zero_le _) dX3_whomOf_30 rfl rfl (fun H locs hw => ?_)
    refine x_callV (is := [0, 1, 2, 3, 4, 5]) (q0 := 0) (As := [.int (ahS (se k))]) (rest := []) (st1 := [.int (fi se (ahS (se k)) n 0)]) (ws' := tW G a wo mi bi la (nI n) ki se wd hu bt) E (c_X3_childAt l G a (ahS (se k)) wo mi bi la n ki se wd hu bt (by omega)) vw_X3_74 hw [0, 1, 2, 3, 4, 5] rfl rfl rfl rfl rfl rfl rfl hl.1 rfl rfl (Nat.le_of_ble_eq_true rfl) ⟨Nat.le_of_ble_eq_true rfl, Nat.le_of_ble_eq_true rfl⟩ (Nat.zero_le _) (Nat.zero_le _) dX3_whomOf_33 rfl rfl (fun H locs hw => ?_)
    exact x_iret E hA rt hw dX3_whomOf_36 (by simp [whm, cq16]) rfl
  · skip
    refine lv_iload_n hx hb dX3_whomOf_19 rfl (lv_at hl 0 rfl) ?_
    refine lv_goto (tgt := 36) hx hb dX3_whomOf_20 rfl ?_
    exact x_iret E hA rt hw dX3_whomOf_36 (by simp [whm, cq16]) rfl
set_option maxHeartbeats 1000000 in
set_option maxRecDepth 100000 in
theorem c_X3_isGuarded (l : Launch) (G : GG) (a : Nat → Nat) (w : Int32) (wo : Int32) (mi : Int32) (bi : Int32) (la : Int32) (n : Nat) (ki : Nat → Int32) (se : Nat → Int32) (wd : Nat → Int32) (hu : Nat → Int32) (bt : Nat → Int32) : CT l G yX3_isGuarded cX3_isGuarded 2 (some .boolean) 1 20 [.ref (a 0), .int w] (tW G a wo mi bi la (nI n) ki se wd hu bt) (some (.int (bI (gdd wo w)))) (tW G a wo mi bi la (nI n) ki se wd hu bt) := by
  refine CT.mk (own := RX3) (la := [(0, .ref (a 0)), (1, .int w)]) (by decide) rfl (Nat.le_of_ble_eq_true rfl) rfl ?_
  intro p e s m args below meth c A Q E hA hw rt ls hl
  have hx := E.1
  have hb := E.2.1
  refine lv_iload_n hx hb dX3_isGuarded_0 rfl (lv_at hl 1 rfl) ?_
  refine lv_aload_n hx hb dX3_isGuarded_1 rfl (lv_at hl 0 rfl) ?_
  refine x_get E hw fw_X3_27 0 rfl rfl dX3_isGuarded_2 ?_
  refine lv_icmp_eq (tgt := 30) hx hb dX3_isGuarded_5 rfl (fun cq5 => ?_) (fun cq5 => ?_)
  · skip
    refine lv_iconst (v := 1) hx hb dX3_isGuarded_30 rfl ?_
    refine lv_goto (tgt := 35) hx hb dX3_isGuarded_31 rfl ?_
    exact x_zret E hA rt hw (by decide) dX3_isGuarded_35 (by simp [bI, gdd, cq5]) rfl
  · skip
    refine lv_iload_n hx hb dX3_isGuarded_8 rfl (lv_at hl 1 rfl) ?_
    refine lv_aload_n hx hb dX3_isGuarded_9 rfl (lv_at hl 0 rfl) ?_
    refine x_get E hw fw_X3_27 0 rfl rfl dX3_isGuarded_10 ?_
    refine x_callS (is := []) (As := [.int wo]) (rest := [.int w]) (st1 := [.int (nxS wo), .int w]) (ws' := tW G a wo mi bi la (nI n) ki se wd hu bt) E (c_X3_nextSeat l G wo) sw_X3_49 hw [] rfl rfl rfl rfl hl.1 rfl rfl (Nat.le_of_ble_eq_true rfl) ⟨Nat.le_of_ble_eq_true rfl, Nat.le_of_ble_eq_true rfl⟩ (Nat.zero_le _) (Nat.zero_le _) dX3_isGuarded_13 rfl rfl (fun H locs hw => ?_)
    refine lv_icmp_eq (tgt := 30) hx hb dX3_isGuarded_16 rfl (fun cq16 => ?_) (fun cq16 => ?_)
    · skip
      refine lv_iconst (v := 1) hx hb dX3_isGuarded_30 rfl ?_
      refine lv_goto (tgt := 35) hx hb dX3_isGuarded_31 rfl ?_
      exact x_zret E hA rt hw (by decide) dX3_isGuarded_35 (by simp [bI, gdd, cq5, cq16]) rfl
    · skip
      refine lv_iload_n hx hb dX3_isGuarded_19 rfl (lv_at hl 1 rfl) ?_
      refine lv_aload_n hx hb dX3_isGuarded_20 rfl (lv_at hl 0 rfl) ?_
      refine x_get E hw fw_X3_27 0 rfl rfl dX3_isGuarded_21 ?_
      refine x_callS (is := []) (As := [.int wo]) (rest := [.int w]) (st1 := [.int (ahS wo), .int w]) (ws' := tW G a wo mi bi la (nI n) ki se wd hu bt) E (c_X3_seatAhead l G wo) sw_X3_53 hw [] rfl rfl rfl rfl hl.1 rfl rfl (Nat.le_of_ble_eq_true rfl) ⟨Nat.le_of_ble_eq_true rfl, Nat.le_of_ble_eq_true rfl⟩ (Nat.zero_le _) (Nat.zero_le _) dX3_isGuarded_24 rfl rfl (fun H locs hw => ?_)
      refine lv_icmp_ne (tgt := 34) hx hb dX3_isGuarded_27 rfl (fun cq27 => ?_) (fun cq27 => ?_)
      · skip
        refine lv_iconst (v := 0) hx hb dX3_isGuarded_34 rfl ?_
        exact x_zret E hA rt hw (by decide) dX3_isGuarded_35 (by simp [bI, gdd, cq5, cq16, cq27]) rfl
      · skip
        refine lv_iconst (v := 1) hx hb dX3_isGuarded_30 rfl ?_
        refine lv_goto (tgt := 35) hx hb dX3_isGuarded_31 rfl ?_
        exact x_zret E hA rt hw (by decide) dX3_isGuarded_35 (by simp [bI, gdd, cq5, cq16, cq27]) rfl
set_option maxHeartbeats 1000000 in
set_option maxRecDepth 100000 in
theorem c_X3_biters (l : Launch) (G : GG) (a : Nat → Nat) (wo : Int32) (mi : Int32) (bi : Int32) (la : Int32) (n : Nat) (ki : Nat → Int32) (se : Nat → Int32) (wd : Nat → Int32) (hu : Nat → Int32) (bt : Nat → Int32) (hn : n ≤ 6) : CT l G yX3_biters cX3_biters 5 (some .int) 3 63 [.ref (a 0)] (tW G a wo mi bi la (nI n) ki se wd hu bt) (some (.int (bitr wo la n ki se wd hu bt))) (tW G a wo mi bi la (nI n) ki se wd hu bt) := by
  refine CT.mk (own := RX3) (la := [(0, .ref (a 0))]) (by decide) rfl (Nat.le_of_ble_eq_true rfl) rfl ?_
  intro p e s m args below meth c A Q E hA hw rt ls hl
  have hx := E.1
  have hb := E.2.1
  refine lv_aload_n hx hb dX3_biters_0 rfl (lv_at hl 0 rfl) ?_
  refine x_callV (is := [0, 1, 2, 3, 4, 5]) (q0 := 0) (As := []) (rest := []) (st1 := [.int (tk se n)]) (ws' := tW G a wo mi bi la (nI n) ki se wd hu bt) E (c_X3_takenSeats l G a wo mi bi la n ki se wd hu bt (by omega)) vw_X3_56 hw [0, 1, 2, 3, 4, 5] rfl rfl rfl rfl rfl rfl rfl hl.1 rfl rfl (Nat.le_of_ble_eq_true rfl) ⟨Nat.le_of_ble_eq_true rfl, Nat.le_of_ble_eq_true rfl⟩ (Nat.zero_le _) (Nat.zero_le _) dX3_biters_1 rfl rfl (fun H locs hw => ?_)
  refine lv_istore_n (lv' := [(1, .int (tk se n)), (0, .ref (a 0))]) hx hb dX3_biters_4 rfl hl (by decide) rfl (fun ls hl => ?_)
  refine lv_iconst (v := 0) hx hb dX3_biters_5 rfl ?_
  refine lv_istore_n (lv' := [(2, .int 0), (1, .int (tk se n)), (0, .ref (a 0))]) hx hb dX3_biters_6 rfl hl (by decide) rfl (fun ls hl => ?_)
  refine lv_iconst (v := 0) hx hb dX3_biters_7 rfl ?_
  refine lv_istore_n (lv' := [(3, .int 0), (2, .int 0), (1, .int (tk se n)), (0, .ref (a 0))]) hx hb dX3_biters_8 rfl hl (by decide) rfl (fun ls hl => ?_)
  have lp9 : ∀ (fuel : Nat), ∀ (k : Nat) (acc : Int32) (hk : k ≤ n) (hiv : acc = btS (bitesC wo la ki se wd hu bt (tk se n)) k), (n - k) < fuel → ∀ (H : Heap) (locs : List Loc) (ls : Array Slot), Wd G A s H locs (tW G a wo mi bi la (nI n) ki se wd hu bt) → lv_has ls 5 [(0, .ref (a 0)), (1, .int (tk se n)), (2, .int acc), (3, .int (nI k))] → W p l e (rmx 3 63) s m args below meth c H locs 0 0 Q (F0 m 9 ls []) := by
    intro fuel
    induction fuel with
    | zero => intro k acc hk hiv hfu; exact absurd hfu (Nat.not_lt_zero _)
    | succ fuel ih9 =>
      intro k acc hk hiv hfu H locs ls hw hl
      refine lv_iload_n hx hb dX3_biters_9 rfl (lv_at hl 3 rfl) ?_
      refine lv_aload_n hx hb dX3_biters_10 rfl (lv_at hl 0 rfl) ?_
      refine x_get E hw fw_X3_40 0 rfl rfl dX3_biters_11 ?_
      refine lv_icmp_ge (tgt := 71) hx hb dX3_biters_14 rfl (fun cq14 => ?_) (fun cq14 => ?_)
      · skip
        have cq14 : n ≤ k := (cv_le (a := n) (b := k) rfl rfl (by omega) (by omega)).mp cq14
        refine lv_iload_n hx hb dX3_biters_71 rfl (lv_at hl 2 rfl) ?_
        exact x_iret E hA rt hw dX3_biters_72 (by rw [hiv, show k = n by omega]; rfl) rfl
      · skip
        have cq14 : ¬ n ≤ k := fun h => cq14 ((cv_le (a := n) (b := k) rfl rfl (by omega) (by omega)).mpr h)
        refine lv_iload_n hx hb dX3_biters_17 rfl (lv_at hl 1 rfl) ?_
        refine lv_aload_n hx hb dX3_biters_18 rfl (lv_at hl 0 rfl) ?_
        refine x_get E hw fw_X3_15 0 rfl rfl dX3_biters_19 ?_
        refine lv_iload_n hx hb dX3_biters_22 rfl (lv_at hl 3 rfl) ?_
        refine x_iald E hw 2 rfl k (rfl) (by omega) (by omega) dX3_biters_23 ?_
        refine x_callS (is := []) (As := [.int (tk se n), .int (se k)]) (rest := []) (st1 := [.int (tgI (tk se n) (se k))]) (ws' := tW G a wo mi bi la (nI n) ki se wd hu bt) E (c_X3_tightIn l G (tk se n) (se k)) sw_X3_60 hw [] rfl rfl rfl rfl hl.1 rfl rfl (Nat.le_of_ble_eq_true rfl) ⟨Nat.le_of_ble_eq_true rfl, Nat.le_of_ble_eq_true rfl⟩ (Nat.zero_le _) (Nat.zero_le _) dX3_biters_24 rfl rfl (fun H locs hw => ?_)
        refine lv_istore (lv' := [(4, .int (tgI (tk se n) (se k))), (0, .ref (a 0)), (1, .int (tk se n)), (2, .int acc), (3, .int (nI k))]) hx hb dX3_biters_27 hl (by decide) rfl (fun ls hl => ?_)
        refine lv_iload hx hb dX3_biters_29 (lv_at hl 0 rfl) ?_
        refine lv_if_le (tgt := 65) hx hb dX3_biters_31 rfl (fun cq31 => ?_) (fun cq31 => ?_)
        · skip
          refine lv_iinc (v := nI (k + 1)) (lv' := [(3, .int (nI (k + 1))), (4, .int (tgI (tk se n) (se k))), (0, .ref (a 0)), (1, .int (tk se n)), (2, .int acc)]) hx hb dX3_biters_65 hl (k := 4) rfl (nI_add _ 1) (by decide) rfl (fun ls hl => ?_)
          refine lv_goto (tgt := 9) hx hb dX3_biters_68 rfl ?_
          exact ih9 (k + 1) acc (by omega) (by rw [hiv, btS]; simp [bitesC, cq14, cq31]) (by omega) _ _ _ hw (lv_sub hl [2, 3, 4, 0] rfl)
        · skip
          refine lv_aload_n hx hb dX3_biters_34 rfl (lv_at hl 1 rfl) ?_
          refine lv_aload_n hx hb dX3_biters_35 rfl (lv_at hl 1 rfl) ?_
          refine x_get E hw fw_X3_15 0 rfl rfl dX3_biters_36 ?_
          refine lv_iload_n hx hb dX3_biters_39 rfl (lv_at hl 4 rfl) ?_
          refine x_iald E hw 2 rfl k (rfl) (by omega) (by omega) dX3_biters_40 ?_
          refine x_callV (is := [0, 1, 2, 3, 4, 5]) (q0 := 0) (As := [.int (se k)]) (rest := []) (st1 := [.int (bI (gdd wo (se k)))]) (ws' := tW G a wo mi bi la (nI n) ki se wd hu bt) E (c_X3_isGuarded l G a (se k) wo mi bi la n ki se wd hu bt) vw_X3_77 hw [0, 1, 2, 3, 4, 5] rfl rfl rfl rfl rfl rfl rfl hl.1 rfl rfl (Nat.le_of_ble_eq_true rfl) ⟨Nat.le_of_ble_eq_true rfl, Nat.le_of_ble_eq_true rfl⟩ (Nat.zero_le _) (Nat.zero_le _) dX3_biters_41 rfl rfl (fun H locs hw => ?_)
          refine lv_if_ne (tgt := 65) hx hb dX3_biters_44 rfl (fun cq44 => ?_) (fun cq44 => ?_)
          · skip
            have cq44 := bI_n0.mp cq44
            refine lv_iinc (v := nI (k + 1)) (lv' := [(3, .int (nI (k + 1))), (4, .int (tgI (tk se n) (se k))), (0, .ref (a 0)), (1, .int (tk se n)), (2, .int acc)]) hx hb dX3_biters_65 hl (k := 4) rfl (nI_add _ 1) (by decide) rfl (fun ls hl => ?_)
            refine lv_goto (tgt := 9) hx hb dX3_biters_68 rfl ?_
            exact ih9 (k + 1) acc (by omega) (by rw [hiv, btS]; simp [bitesC, cq14, cq31, cq44]) (by omega) _ _ _ hw (lv_sub hl [2, 3, 4, 0] rfl)
          · skip
            have cq44 := bI_0.mp cq44
            refine lv_aload_n hx hb dX3_biters_47 rfl (lv_at hl 1 rfl) ?_
            refine lv_iload_n hx hb dX3_biters_48 rfl (lv_at hl 4 rfl) ?_
            refine lv_iload hx hb dX3_biters_49 (lv_at hl 0 rfl) ?_
            refine x_callV (is := [0, 1, 2, 3, 4, 5]) (q0 := 0) (As := [.int (nI k), .int (tgI (tk se n) (se k))]) (rest := []) (st1 := [.int (nr (ki k) (hu k) (tgI (tk se n) (se k)) (wd k) (bt k) la)]) (ws' := tW G a wo mi bi la (nI n) ki se wd hu bt) E (c_X3_nearIf l G a (nI k) k (rfl) (tgI (tk se n) (se k)) wo mi bi la n ki se wd hu bt (by omega)) vw_X3_71 hw [0, 1, 2, 3, 4, 5] rfl rfl rfl rfl rfl rfl rfl hl.1 rfl rfl (Nat.le_of_ble_eq_true rfl) ⟨Nat.le_of_ble_eq_true rfl, Nat.le_of_ble_eq_true rfl⟩ (Nat.zero_le _) (Nat.zero_le _) dX3_biters_51 rfl rfl (fun H locs hw => ?_)
            refine lv_bipush (v := 12) hx hb dX3_biters_54 rfl ?_
            refine lv_icmp_lt (tgt := 65) hx hb dX3_biters_56 rfl (fun cq56 => ?_) (fun cq56 => ?_)
            · skip
              refine lv_iinc (v := nI (k + 1)) (lv' := [(3, .int (nI (k + 1))), (4, .int (tgI (tk se n) (se k))), (0, .ref (a 0)), (1, .int (tk se n)), (2, .int acc)]) hx hb dX3_biters_65 hl (k := 4) rfl (nI_add _ 1) (by decide) rfl (fun ls hl => ?_)
              refine lv_goto (tgt := 9) hx hb dX3_biters_68 rfl ?_
              exact ih9 (k + 1) acc (by omega) (by rw [hiv, btS]; simp [bitesC, cq14, cq31, cq44, cq56]) (by omega) _ _ _ hw (lv_sub hl [2, 3, 4, 0] rfl)
            · skip
              refine lv_iload_n hx hb dX3_biters_59 rfl (lv_at hl 3 rfl) ?_
              refine lv_iconst (v := 1) hx hb dX3_biters_60 rfl ?_
              refine lv_iload_n hx hb dX3_biters_61 rfl (lv_at hl 4 rfl) ?_
              refine lv_ishl hx hb dX3_biters_62 ?_
              refine lv_ior hx hb dX3_biters_63 ?_
              refine lv_istore_n (lv' := [(2, .int (acc ||| ((1 : Int32) <<< ((nI k) &&& 31)))), (4, .int (tgI (tk se n) (se k))), (0, .ref (a 0)), (1, .int (tk se n)), (3, .int (nI k))]) hx hb dX3_biters_64 rfl hl (by decide) rfl (fun ls hl => ?_)
              refine lv_iinc (v := nI (k + 1)) (lv' := [(3, .int (nI (k + 1))), (2, .int (acc ||| ((1 : Int32) <<< ((nI k) &&& 31)))), (4, .int (tgI (tk se n) (se k))), (0, .ref (a 0)), (1, .int (tk se n))]) hx hb dX3_biters_65 hl (k := 4) rfl (nI_add _ 1) (by decide) rfl (fun ls hl => ?_)
              refine lv_goto (tgt := 9) hx hb dX3_biters_68 rfl ?_
              exact ih9 (k + 1) (acc ||| ((1 : Int32) <<< ((nI k) &&& 31))) (by omega) (by rw [hiv, btS]; simp [bitesC, cq14, cq31, cq44, cq56]) (by omega) _ _ _ hw (lv_sub hl [3, 4, 1, 0] rfl)
  exact lp9 (n - 0 + 1) 0 0 (by omega) (rfl) (by omega) _ _ _ hw (lv_sub hl [3, 2, 1, 0] rfl)

set_option maxHeartbeats 1000000 in
set_option maxRecDepth 100000 in
theorem c_X5_within (l : Launch) (G : GG) (x : Int32) (lo : Int32) (hi : Int32) : CT l G yX5_within cX5_within 3 (some .boolean) 0 0 [.int x, .int lo, .int hi] ([]) (some (.int (bI (inI x lo hi)))) ([]) := by
  refine CT.mk (own := RX5) (la := [(0, .int x), (1, .int lo), (2, .int hi)]) (by decide) rfl (Nat.le_of_ble_eq_true rfl) rfl ?_
  intro p e s m args below meth c A Q E hA hw rt ls hl
  have hx := E.1
  have hb := E.2.1
  refine lv_iload_n hx hb dX5_within_0 rfl (lv_at hl 0 rfl) ?_
  refine lv_iload_n hx hb dX5_within_1 rfl (lv_at hl 1 rfl) ?_
  refine lv_icmp_lt (tgt := 14) hx hb dX5_within_2 rfl (fun cq2 => ?_) (fun cq2 => ?_)
  · skip
    refine lv_iconst (v := 0) hx hb dX5_within_14 rfl ?_
    exact x_zret E hA rt hw (by decide) dX5_within_15 (by simp [inI, bI, cq2]) rfl
  · skip
    refine lv_iload_n hx hb dX5_within_5 rfl (lv_at hl 0 rfl) ?_
    refine lv_iload_n hx hb dX5_within_6 rfl (lv_at hl 2 rfl) ?_
    refine lv_icmp_gt (tgt := 14) hx hb dX5_within_7 rfl (fun cq7 => ?_) (fun cq7 => ?_)
    · skip
      refine lv_iconst (v := 0) hx hb dX5_within_14 rfl ?_
      exact x_zret E hA rt hw (by decide) dX5_within_15 (by simp [inI, bI, cq2, cq7]) rfl
    · skip
      refine lv_iconst (v := 1) hx hb dX5_within_10 rfl ?_
      refine lv_goto (tgt := 15) hx hb dX5_within_11 rfl ?_
      exact x_zret E hA rt hw (by decide) dX5_within_15 (by simp [inI, bI, cq2, cq7]) rfl
set_option maxHeartbeats 1000000 in
set_option maxRecDepth 100000 in
theorem c_X5_isSeat (l : Launch) (G : GG) (x : Int32) : CT l G yX5_isSeat cX5_isSeat 1 (some .boolean) 1 22 [.int x] ([]) (some (.int (bI (inI x 0 7)))) ([]) := by
  refine CT.mk (own := RX5) (la := [(0, .int x)]) (by decide) rfl (Nat.le_of_ble_eq_true rfl) rfl ?_
  intro p e s m args below meth c A Q E hA hw rt ls hl
  have hx := E.1
  have hb := E.2.1
  refine lv_iload_n hx hb dX5_isSeat_0 rfl (lv_at hl 0 rfl) ?_
  refine lv_iconst (v := 0) hx hb dX5_isSeat_1 rfl ?_
  refine lv_bipush (v := 7) hx hb dX5_isSeat_2 rfl ?_
  refine x_callS (is := []) (As := [.int x, .int 0, .int 7]) (rest := []) (st1 := [.int (bI (inI x 0 7))]) E (c_X5_within l G x 0 7) sw_X5_75 hw [] rfl rfl rfl rfl hl.1 rfl rfl (Nat.le_of_ble_eq_true rfl) ⟨Nat.le_of_ble_eq_true rfl, Nat.le_of_ble_eq_true rfl⟩ (Nat.zero_le _) (Nat.zero_le _) dX5_isSeat_4 rfl rfl (fun H locs hw => ?_)
  exact x_zret E hA rt hw (bI_nar _) dX5_isSeat_7 (rfl) rfl
set_option maxHeartbeats 1000000 in
set_option maxRecDepth 100000 in
theorem c_X5_isChild (l : Launch) (G : GG) (x0 : Nat) (s0 : Nat) (t0 : Nat → Nat) (p0 : Nat → Nat) (n0 : Nat → Nat) (g0 : Nat) (k0 : Nat) (xt : Nat → Nat) (tr : Nat → Nat) (sg : Nat) (rf : Nat) (x : Int32) (ab : Int64) (bl : Int64) (wo : Int32) (mi : Int32) (bi : Int32) (la : Int32) (n : Nat) (ki : Nat → Int32) (se : Nat → Int32) (wd : Nat → Int32) (hu : Nat → Int32) (bt : Nat → Int32) : CT l G yX5_isChild cX5_isChild 2 (some .boolean) 1 22 [.ref x0, .int x] ([xO G x0 s0 g0 k0 xt tr sg rf ab bl, oS G s0 t0 p0 n0, tW G t0 wo mi bi la (nI n) ki se wd hu bt].flatten) (some (.int (bI (inI x 0 (nI n - 1))))) ([xO G x0 s0 g0 k0 xt tr sg rf ab bl, oS G s0 t0 p0 n0, tW G t0 wo mi bi la (nI n) ki se wd hu bt].flatten) := by
  refine CT.mk (own := RX5) (la := [(0, .ref x0), (1, .int x)]) (by decide) rfl (Nat.le_of_ble_eq_true rfl) rfl ?_
  intro p e s m args below meth c A Q E hA hw rt ls hl
  have hx := E.1
  have hb := E.2.1
  refine lv_iload_n hx hb dX5_isChild_0 rfl (lv_at hl 1 rfl) ?_
  refine lv_iconst (v := 0) hx hb dX5_isChild_1 rfl ?_
  refine lv_aload_n hx hb dX5_isChild_2 rfl (lv_at hl 0 rfl) ?_
  refine b_get E hw fw_X5_10 0 0 rfl rfl rfl dX5_isChild_3 ?_
  refine b_get E hw fw_X5_60 1 0 rfl rfl rfl dX5_isChild_6 ?_
  refine b_get E hw fw_X5_63 2 0 rfl rfl rfl dX5_isChild_9 ?_
  refine lv_iconst (v := 1) hx hb dX5_isChild_12 rfl ?_
  refine lv_isub hx hb dX5_isChild_13 ?_
  refine b_callS (is := []) (wb := []) (wb' := []) (As := [.int x, .int 0, .int ((nI n) - 1)]) (rest := []) (st1 := [.int (bI (inI x 0 ((nI n) - 1)))]) (bs' := [xO G x0 s0 g0 k0 xt tr sg rf ab bl, oS G s0 t0 p0 n0, tW G t0 wo mi bi la (nI n) ki se wd hu bt]) E (c_X5_within l G x 0 ((nI n) - 1)) sw_X5_75 hw [] rfl rfl rfl rfl rfl rfl hl.1 rfl rfl (Nat.le_of_ble_eq_true rfl) ⟨Nat.le_of_ble_eq_true rfl, Nat.le_of_ble_eq_true rfl⟩ (Nat.zero_le _) (Nat.zero_le _) dX5_isChild_14 rfl rfl (fun H locs hw => ?_)
  exact x_zret E hA rt hw (bI_nar _) dX5_isChild_17 (rfl) rfl
set_option maxHeartbeats 1000000 in
set_option maxRecDepth 100000 in
theorem c_X5_refuse (l : Launch) (G : GG) (x0 : Nat) (s0 : Nat) (g0 : Nat) (k0 : Nat) (xt : Nat → Nat) (tr : Nat → Nat) (sg : Nat) (rf : Nat) (x : Int32) (ab : Int64) (bl : Int64) (rfd : Nat → Int32) (k : Nat) (hk : k < 3) (hxk : -2 - x = nI k) : CT l G yX5_refuse cX5_refuse 3 (some .int) 1 22 [.ref x0, .int x] ([xO G x0 s0 g0 k0 xt tr sg rf ab bl, aW G rf 3 rfd].flatten) (some (.int x)) ([xO G x0 s0 g0 k0 xt tr sg rf ab bl, aW G rf 3 (upd rfd k (rfd k + 1))].flatten) := by
  refine CT.mk (own := RX5) (la := [(0, .ref x0), (1, .int x)]) (by decide) rfl (Nat.le_of_ble_eq_true rfl) rfl ?_
  intro p e s m args below meth c A Q E hA hw rt ls hl
  have hx := E.1
  have hb := E.2.1
  refine lv_bipush (v := -2) hx hb dX5_refuse_0 rfl ?_
  refine lv_iload_n hx hb dX5_refuse_2 rfl (lv_at hl 1 rfl) ?_
  refine lv_isub hx hb dX5_refuse_3 ?_
  refine x_topi (y := nI k) (hxk) ?_
  refine lv_istore_n (lv' := [(2, .int (nI k)), (0, .ref x0), (1, .int x)]) hx hb dX5_refuse_4 rfl hl (by decide) rfl (fun ls hl => ?_)
  refine lv_iload_n hx hb dX5_refuse_5 rfl (lv_at hl 0 rfl) ?_
  refine lv_iconst (v := 0) hx hb dX5_refuse_6 rfl ?_
  refine lv_aload_n hx hb dX5_refuse_7 rfl (lv_at hl 1 rfl) ?_
  refine b_get E hw fw_X5_42 0 0 rfl rfl rfl dX5_refuse_8 ?_
  refine b_len (v := 3) E hw 1 0 0 rfl rfl rfl rfl dX5_refuse_11 ?_
  refine lv_iconst (v := 1) hx hb dX5_refuse_12 rfl ?_
  refine lv_isub hx hb dX5_refuse_13 ?_
  refine b_callS (is := []) (wb := []) (wb' := []) (As := [.int (nI k), .int 0, .int (3 - 1)]) (rest := []) (st1 := [.int (bI (inI (nI k) 0 (3 - 1)))]) (bs' := [xO G x0 s0 g0 k0 xt tr sg rf ab bl, aW G rf 3 rfd]) E (c_X5_within l G (nI k) 0 (3 - 1)) sw_X5_75 hw [] rfl rfl rfl rfl rfl rfl hl.1 rfl rfl (Nat.le_of_ble_eq_true rfl) ⟨Nat.le_of_ble_eq_true rfl, Nat.le_of_ble_eq_true rfl⟩ (Nat.zero_le _) (Nat.zero_le _) dX5_refuse_14 rfl rfl (fun H locs hw => ?_)
  refine lv_if_eq (tgt := 30) hx hb dX5_refuse_17 rfl (fun cq17 => ?_) (fun cq17 => ?_)
  · skip
    have cq17 := bI_0.mp cq17
    exact absurd cq17 (by rw [show inI (nI k) 0 (3 - 1) = true by rcases (show k = 0 ∨ k = 1 ∨ k = 2 by omega) with h9 | h9 | h9 <;> (rw [h9]; decide)]; decide)
  · skip
    have cq17 := bI_n0.mp cq17
    refine lv_aload_n hx hb dX5_refuse_20 rfl (lv_at hl 1 rfl) ?_
    refine b_get E hw fw_X5_42 0 0 rfl rfl rfl dX5_refuse_21 ?_
    refine lv_iload_n hx hb dX5_refuse_24 rfl (lv_at hl 0 rfl) ?_
    refine lv_dup2_11 hx hb dX5_refuse_25 rfl rfl ?_
    refine b_iald E hw 1 0 rfl rfl k (rfl) (by omega) (by omega) dX5_refuse_26 ?_
    refine lv_iconst (v := 1) hx hb dX5_refuse_27 rfl ?_
    refine lv_iadd hx hb dX5_refuse_28 ?_
    refine b_iast (bs' := [xO G x0 s0 g0 k0 xt tr sg rf ab bl, aW G rf 3 (upd rfd k ((rfd k) + 1))]) E hw 1 0 rfl rfl k (rfl) (by omega) (by omega) dX5_refuse_29 rfl (fun H locs hw => ?_)
    refine lv_iload_n hx hb dX5_refuse_30 rfl (lv_at hl 2 rfl) ?_
    exact x_iret E hA rt hw dX5_refuse_31 (rfl) rfl
set_option maxHeartbeats 1000000 in
set_option maxRecDepth 100000 in
theorem c_X5_howMany (l : Launch) (G : GG) (x0 : Nat) (s0 : Nat) (t0 : Nat → Nat) (p0 : Nat → Nat) (n0 : Nat → Nat) (g0 : Nat) (k0 : Nat) (xt : Nat → Nat) (tr : Nat → Nat) (sg : Nat) (rf : Nat) (x : Int32) (ab : Int64) (bl : Int64) (wo : Int32) (mi : Int32) (bi : Int32) (la : Int32) (n : Nat) (ki : Nat → Int32) (se : Nat → Int32) (wd : Nat → Int32) (hu : Nat → Int32) (bt : Nat → Int32) (o : Nat) (u : Nat) (T : Nat → Tb) (np : Nat → Int32) (zn : Nat) (f : Nat → Int32) (z : Nat) (pl : Int32) (sa : Int32) (tk : Int32) (vl : Int32) : CT l G yX5_howMany cX5_howMany 2 (some .int) 0 0 [.ref x0, .int x] ([xO G x0 s0 g0 k0 xt tr sg rf ab bl, oS G s0 t0 p0 n0, tW G t0 wo mi bi la (nI n) ki se wd hu bt, pW G p0 (nI o) (nI u) T, nW G n0 np (nI zn), xT G xt f (nI z) pl sa tk vl].flatten) (some (.int (if x = 0 then nI n else if x = 1 then mi else if x = 2 then bi else if x = 3 then la else if x = 4 then wo else if x = 5 then nI zn else if x = 6 then nI u else nI z))) ([xO G x0 s0 g0 k0 xt tr sg rf ab bl, oS G s0 t0 p0 n0, tW G t0 wo mi bi la (nI n) ki se wd hu bt, pW G p0 (nI o) (nI u) T, nW G n0 np (nI zn), xT G xt f (nI z) pl sa tk vl].flatten) := by
  refine CT.mk (own := RX5) (la := [(0, .ref x0), (1, .int x)]) (by decide) rfl (Nat.le_of_ble_eq_true rfl) rfl ?_
  intro p e s m args below meth c A Q E hA hw rt ls hl
  have hx := E.1
  have hb := E.2.1
  refine lv_iload_n hx hb dX5_howMany_0 rfl (lv_at hl 1 rfl) ?_
  by_cases cq1_0 : x = (0 : Int32)
  · skip
    refine lv_tableIn (off := 43) (tgt := 44) hx hb dX5_howMany_1 (by rw [cq1_0]; decide) (by rw [cq1_0]; decide) (by rw [cq1_0]; rfl) rfl ?_
    refine lv_aload_n hx hb dX5_howMany_44 rfl (lv_at hl 0 rfl) ?_
    refine b_get E hw fw_X5_10 0 0 rfl rfl rfl dX5_howMany_45 ?_
    refine b_get E hw fw_X5_60 1 0 rfl rfl rfl dX5_howMany_48 ?_
    refine b_get E hw fw_X5_63 2 0 rfl rfl rfl dX5_howMany_51 ?_
    exact x_iret E hA rt hw dX5_howMany_54 (by rw [if_pos cq1_0]) rfl
  by_cases cq1_1 : x = (1 : Int32)
  · skip
    refine lv_tableIn (off := 54) (tgt := 55) hx hb dX5_howMany_1 (by rw [cq1_1]; decide) (by rw [cq1_1]; decide) (by rw [cq1_1]; rfl) rfl ?_
    refine lv_aload_n hx hb dX5_howMany_55 rfl (lv_at hl 0 rfl) ?_
    refine b_get E hw fw_X5_10 0 0 rfl rfl rfl dX5_howMany_56 ?_
    refine b_get E hw fw_X5_60 1 0 rfl rfl rfl dX5_howMany_59 ?_
    refine b_get E hw fw_X5_108 2 0 rfl rfl rfl dX5_howMany_62 ?_
    exact x_iret E hA rt hw dX5_howMany_65 (by rw [if_neg cq1_0, if_pos cq1_1]) rfl
  by_cases cq1_2 : x = (2 : Int32)
  · skip
    refine lv_tableIn (off := 65) (tgt := 66) hx hb dX5_howMany_1 (by rw [cq1_2]; decide) (by rw [cq1_2]; decide) (by rw [cq1_2]; rfl) rfl ?_
    refine lv_aload_n hx hb dX5_howMany_66 rfl (lv_at hl 0 rfl) ?_
    refine b_get E hw fw_X5_10 0 0 rfl rfl rfl dX5_howMany_67 ?_
    refine b_get E hw fw_X5_60 1 0 rfl rfl rfl dX5_howMany_70 ?_
    refine b_get E hw fw_X5_157 2 0 rfl rfl rfl dX5_howMany_73 ?_
    exact x_iret E hA rt hw dX5_howMany_76 (by rw [if_neg cq1_0, if_neg cq1_1, if_pos cq1_2]) rfl
  by_cases cq1_3 : x = (3 : Int32)
  · skip
    refine lv_tableIn (off := 76) (tgt := 77) hx hb dX5_howMany_1 (by rw [cq1_3]; decide) (by rw [cq1_3]; decide) (by rw [cq1_3]; rfl) rfl ?_
    refine lv_aload_n hx hb dX5_howMany_77 rfl (lv_at hl 0 rfl) ?_
    refine b_get E hw fw_X5_10 0 0 rfl rfl rfl dX5_howMany_78 ?_
    refine b_get E hw fw_X5_60 1 0 rfl rfl rfl dX5_howMany_81 ?_
    refine b_get E hw fw_X5_227 2 0 rfl rfl rfl dX5_howMany_84 ?_
    exact x_iret E hA rt hw dX5_howMany_87 (by rw [if_neg cq1_0, if_neg cq1_1, if_neg cq1_2, if_pos cq1_3]) rfl
  by_cases cq1_4 : x = (4 : Int32)
  · skip
    refine lv_tableIn (off := 87) (tgt := 88) hx hb dX5_howMany_1 (by rw [cq1_4]; decide) (by rw [cq1_4]; decide) (by rw [cq1_4]; rfl) rfl ?_
    refine lv_aload_n hx hb dX5_howMany_88 rfl (lv_at hl 0 rfl) ?_
    refine b_get E hw fw_X5_10 0 0 rfl rfl rfl dX5_howMany_89 ?_
    refine b_get E hw fw_X5_60 1 0 rfl rfl rfl dX5_howMany_92 ?_
    refine b_get E hw fw_X5_129 2 0 rfl rfl rfl dX5_howMany_95 ?_
    exact x_iret E hA rt hw dX5_howMany_98 (by rw [if_neg cq1_0, if_neg cq1_1, if_neg cq1_2, if_neg cq1_3, if_pos cq1_4]) rfl
  by_cases cq1_5 : x = (5 : Int32)
  · skip
    refine lv_tableIn (off := 98) (tgt := 99) hx hb dX5_howMany_1 (by rw [cq1_5]; decide) (by rw [cq1_5]; decide) (by rw [cq1_5]; rfl) rfl ?_
    refine lv_aload_n hx hb dX5_howMany_99 rfl (lv_at hl 0 rfl) ?_
    refine b_get E hw fw_X5_10 0 0 rfl rfl rfl dX5_howMany_100 ?_
    refine b_get E hw fw_X5_176 1 0 rfl rfl rfl dX5_howMany_103 ?_
    refine b_get E hw fw_X5_180 4 0 rfl rfl rfl dX5_howMany_106 ?_
    exact x_iret E hA rt hw dX5_howMany_109 (by rw [if_neg cq1_0, if_neg cq1_1, if_neg cq1_2, if_neg cq1_3, if_neg cq1_4, if_pos cq1_5]) rfl
  by_cases cq1_6 : x = (6 : Int32)
  · skip
    refine lv_tableIn (off := 109) (tgt := 110) hx hb dX5_howMany_1 (by rw [cq1_6]; decide) (by rw [cq1_6]; decide) (by rw [cq1_6]; rfl) rfl ?_
    refine lv_aload_n hx hb dX5_howMany_110 rfl (lv_at hl 0 rfl) ?_
    refine b_get E hw fw_X5_10 0 0 rfl rfl rfl dX5_howMany_111 ?_
    refine b_get E hw fw_X5_82 1 0 rfl rfl rfl dX5_howMany_114 ?_
    refine b_get E hw fw_X5_132 3 0 rfl rfl rfl dX5_howMany_117 ?_
    exact x_iret E hA rt hw dX5_howMany_120 (by rw [if_neg cq1_0, if_neg cq1_1, if_neg cq1_2, if_neg cq1_3, if_neg cq1_4, if_neg cq1_5, if_pos cq1_6]) rfl
  refine lv_tableOut (tgt := 121) hx hb dX5_howMany_1 (by have g0 := lv_neT (a := 0) cq1_0 rfl; have g1 := lv_neT (a := 1) cq1_1 rfl; have g2 := lv_neT (a := 2) cq1_2 rfl; have g3 := lv_neT (a := 3) cq1_3 rfl; have g4 := lv_neT (a := 4) cq1_4 rfl; have g5 := lv_neT (a := 5) cq1_5 rfl; have g6 := lv_neT (a := 6) cq1_6 rfl; omega) rfl ?_
  refine lv_aload_n hx hb dX5_howMany_121 rfl (lv_at hl 0 rfl) ?_
  refine b_get E hw fw_X5_27 0 0 rfl rfl rfl dX5_howMany_122 ?_
  refine b_get E hw fw_X5_95 5 0 rfl rfl rfl dX5_howMany_125 ?_
  exact x_iret E hA rt hw dX5_howMany_128 (by rw [if_neg cq1_0, if_neg cq1_1, if_neg cq1_2, if_neg cq1_3, if_neg cq1_4, if_neg cq1_5, if_neg cq1_6]) rfl
set_option maxHeartbeats 1000000 in
set_option maxRecDepth 100000 in
theorem c_X5_table_no (l : Launch) (G : GG) (x0 : Nat) (s0 : Nat) (g0 : Nat) (k0 : Nat) (xt : Nat → Nat) (tr : Nat → Nat) (sg : Nat) (rf : Nat) (x : Int32) (ab : Int64) (bl : Int64) (rfd : Nat → Int32) (h1 : inI x 0 7 = false) : CT l G yX5_table cX5_table 3 (some .int) 2 44 [.ref x0, .int x] ([xO G x0 s0 g0 k0 xt tr sg rf ab bl, aW G rf 3 rfd].flatten) (some (.int (-2))) ([xO G x0 s0 g0 k0 xt tr sg rf ab bl, aW G rf 3 (upd rfd 0 (rfd 0 + 1))].flatten) := by
  refine CT.mk (own := RX5) (la := [(0, .ref x0), (1, .int x)]) (by decide) rfl (Nat.le_of_ble_eq_true rfl) rfl ?_
  intro p e s m args below meth c A Q E hA hw rt ls hl
  have hx := E.1
  have hb := E.2.1
  refine lv_iload_n hx hb dX5_table_0 rfl (lv_at hl 1 rfl) ?_
  refine b_callS (is := []) (wb := []) (wb' := []) (As := [.int x]) (rest := []) (st1 := [.int (bI (inI x 0 7))]) (bs' := [xO G x0 s0 g0 k0 xt tr sg rf ab bl, aW G rf 3 rfd]) E (c_X5_isSeat l G x) sw_X5_52 hw [] rfl rfl rfl rfl rfl rfl hl.1 rfl rfl (Nat.le_of_ble_eq_true rfl) ⟨Nat.le_of_ble_eq_true rfl, Nat.le_of_ble_eq_true rfl⟩ (Nat.zero_le _) (Nat.zero_le _) dX5_table_1 rfl rfl (fun H locs hw => ?_)
  refine lv_if_ne (tgt := 14) hx hb dX5_table_4 rfl (fun cq4 => ?_) (fun cq4 => ?_)
  · skip
    have cq4 := bI_n0.mp cq4
    exact absurd cq4 (by rw [h1]; decide)
  · skip
    have cq4 := bI_0.mp cq4
    refine lv_aload_n hx hb dX5_table_7 rfl (lv_at hl 0 rfl) ?_
    refine lv_bipush (v := -2) hx hb dX5_table_8 rfl ?_
    refine b_callV (is := [0, 1]) (wb := [xO G x0 s0 g0 k0 xt tr sg rf ab bl, aW G rf 3 rfd]) (wb' := [xO G x0 s0 g0 k0 xt tr sg rf ab bl, aW G rf 3 (upd rfd 0 (rfd 0 + 1))]) (As := [.int (-2)]) (rest := []) (st1 := [.int (-2)]) (bs' := [xO G x0 s0 g0 k0 xt tr sg rf ab bl, aW G rf 3 (upd rfd 0 (rfd 0 + 1))]) E (c_X5_refuse l G x0 s0 g0 k0 xt tr sg rf (-2) ab bl rfd 0 (by omega) (by decide)) vw_X5_56 hw [0, 1] rfl 0 0 rfl rfl rfl rfl rfl rfl rfl rfl rfl hl.1 rfl rfl (Nat.le_of_ble_eq_true rfl) ⟨Nat.le_of_ble_eq_true rfl, Nat.le_of_ble_eq_true rfl⟩ (Nat.zero_le _) (Nat.zero_le _) dX5_table_10 rfl rfl (fun H locs hw => ?_)
    exact x_iret E hA rt hw dX5_table_13 (rfl) rfl
set_option maxHeartbeats 1000000 in
set_option maxRecDepth 100000 in
theorem c_X5_table_ok (l : Launch) (G : GG) (x0 : Nat) (s0 : Nat) (t0 : Nat → Nat) (p0 : Nat → Nat) (n0 : Nat → Nat) (g0 : Nat) (k0 : Nat) (xt : Nat → Nat) (tr : Nat → Nat) (sg : Nat) (rf : Nat) (x : Int32) (ab : Int64) (bl : Int64) (wo : Int32) (mi : Int32) (bi : Int32) (la : Int32) (n : Nat) (ki : Nat → Int32) (se : Nat → Int32) (wd : Nat → Int32) (hu : Nat → Int32) (bt : Nat → Int32) (o : Nat) (u : Nat) (T : Nat → Tb) (np : Nat → Int32) (zn : Nat) (wo1 : Int32) (mi1 : Int32) (bi1 : Int32) (la1 : Int32) (ch1 : Int32) (ki1 : Nat → Int32) (se1 : Nat → Int32) (wd1 : Nat → Int32) (hu1 : Nat → Int32) (bt1 : Nat → Int32) (h1 : inI x 0 7 = true) : CT l G yX5_table cX5_table 3 (some .int) 3 60 [.ref x0, .int x] ([xO G x0 s0 g0 k0 xt tr sg rf ab bl, oS G s0 t0 p0 n0, tW G t0 wo mi bi la (nI n) ki se wd hu bt, pW G p0 (nI o) (nI u) T, nW G n0 np (nI zn), tW G tr wo1 mi1 bi1 la1 ch1 ki1 se1 wd1 hu1 bt1].flatten) (some (.int (nI n))) ([xO G x0 s0 g0 k0 xt tr sg rf ab bl, oS G s0 t0 p0 n0, tW G t0 x 0 0 0 0 ki1 se1 wd1 hu1 bt1, pW G p0 0 0 T, nW G n0 np 0, tW G tr x 0 0 0 0 ki1 se1 wd1 hu1 bt1].flatten) := by
  refine CT.mk (own := RX5) (la := [(0, .ref x0), (1, .int x)]) (by decide) rfl (Nat.le_of_ble_eq_true rfl) rfl ?_
  intro p e s m args below meth c A Q E hA hw rt ls hl
  have hx := E.1
  have hb := E.2.1
  refine lv_iload_n hx hb dX5_table_0 rfl (lv_at hl 1 rfl) ?_
  refine b_callS (is := []) (wb := []) (wb' := []) (As := [.int x]) (rest := []) (st1 := [.int (bI (inI x 0 7))]) (bs' := [xO G x0 s0 g0 k0 xt tr sg rf ab bl, oS G s0 t0 p0 n0, tW G t0 wo mi bi la (nI n) ki se wd hu bt, pW G p0 (nI o) (nI u) T, nW G n0 np (nI zn), tW G tr wo1 mi1 bi1 la1 ch1 ki1 se1 wd1 hu1 bt1]) E (c_X5_isSeat l G x) sw_X5_52 hw [] rfl rfl rfl rfl rfl rfl hl.1 rfl rfl (Nat.le_of_ble_eq_true rfl) ⟨Nat.le_of_ble_eq_true rfl, Nat.le_of_ble_eq_true rfl⟩ (Nat.zero_le _) (Nat.zero_le _) dX5_table_1 rfl rfl (fun H locs hw => ?_)
  refine lv_if_ne (tgt := 14) hx hb dX5_table_4 rfl (fun cq4 => ?_) (fun cq4 => ?_)
  · skip
    have cq4 := bI_n0.mp cq4
    refine lv_aload_n hx hb dX5_table_14 rfl (lv_at hl 0 rfl) ?_
    refine b_get E hw fw_X5_10 0 0 rfl rfl rfl dX5_table_15 ?_
    refine b_get E hw fw_X5_60 1 0 rfl rfl rfl dX5_table_18 ?_
    refine b_get E hw fw_X5_63 2 0 rfl rfl rfl dX5_table_21 ?_
    refine lv_istore_n (lv' := [(2, .int (nI n)), (0, .ref x0), (1, .int x)]) hx hb dX5_table_24 rfl hl (by decide) rfl (fun ls hl => ?_)
    refine lv_aload_n hx hb dX5_table_25 rfl (lv_at hl 1 rfl) ?_
    refine b_get E hw fw_X5_34 0 0 rfl rfl rfl dX5_table_26 ?_
    refine lv_iload_n hx hb dX5_table_29 rfl (lv_at hl 2 rfl) ?_
    refine b_callV (is := [5]) (wb := [tW G tr wo1 mi1 bi1 la1 ch1 ki1 se1 wd1 hu1 bt1]) (wb' := [tW G tr x 0 0 0 0 ki1 se1 wd1 hu1 bt1]) (As := [.int x]) (rest := []) (st1 := []) (bs' := [xO G x0 s0 g0 k0 xt tr sg rf ab bl, oS G s0 t0 p0 n0, tW G t0 wo mi bi la (nI n) ki se wd hu bt, pW G p0 (nI o) (nI u) T, nW G n0 np (nI zn), tW G tr x 0 0 0 0 ki1 se1 wd1 hu1 bt1]) E (c_X3_layAnew l G tr x wo1 mi1 bi1 la1 ch1 ki1 se1 wd1 hu1 bt1) vw_X5_67 hw [5] rfl 5 0 rfl rfl rfl rfl rfl rfl (flat1 _) (flat1 _) rfl hl.1 rfl rfl (Nat.le_of_ble_eq_true rfl) ⟨Nat.le_of_ble_eq_true rfl, Nat.le_of_ble_eq_true rfl⟩ (Nat.zero_le _) (Nat.zero_le _) dX5_table_30 rfl rfl (fun H locs hw => ?_)
    refine lv_aload_n hx hb dX5_table_33 rfl (lv_at hl 1 rfl) ?_
    refine b_get E hw fw_X5_10 0 0 rfl rfl rfl dX5_table_34 ?_
    refine lv_aload_n hx hb dX5_table_37 rfl (lv_at hl 1 rfl) ?_
    refine b_get E hw fw_X5_34 0 0 rfl rfl rfl dX5_table_38 ?_
    refine b_callV (is := [1, 2, 3, 4, 5]) (wb := [oS G s0 t0 p0 n0, tW G t0 wo mi bi la (nI n) ki se wd hu bt, pW G p0 (nI o) (nI u) T, nW G n0 np (nI zn), tW G tr x 0 0 0 0 ki1 se1 wd1 hu1 bt1]) (wb' := [oS G s0 t0 p0 n0, tW G t0 x 0 0 0 0 ki1 se1 wd1 hu1 bt1, pW G p0 0 0 T, nW G n0 np 0, tW G tr x 0 0 0 0 ki1 se1 wd1 hu1 bt1]) (As := [.ref (tr 0)]) (rest := []) (st1 := []) (bs' := [xO G x0 s0 g0 k0 xt tr sg rf ab bl, oS G s0 t0 p0 n0, tW G t0 x 0 0 0 0 ki1 se1 wd1 hu1 bt1, pW G p0 0 0 T, nW G n0 np 0, tW G tr x 0 0 0 0 ki1 se1 wd1 hu1 bt1]) E (c_X2_beginWith l G s0 t0 p0 n0 tr wo mi bi la (nI n) ki se wd hu bt (nI o) (nI u) T np (nI zn) x 0 0 0 0 ki1 se1 wd1 hu1 bt1) vw_X5_71 hw [1, 2, 3, 4, 5] rfl 1 0 rfl rfl rfl rfl rfl rfl rfl rfl rfl hl.1 rfl rfl (Nat.le_of_ble_eq_true rfl) ⟨Nat.le_of_ble_eq_true rfl, Nat.le_of_ble_eq_true rfl⟩ (Nat.zero_le _) (Nat.zero_le _) dX5_table_41 rfl rfl (fun H locs hw => ?_)
    refine lv_iload_n hx hb dX5_table_44 rfl (lv_at hl 0 rfl) ?_
    exact x_iret E hA rt hw dX5_table_45 (rfl) rfl
  · skip
    have cq4 := bI_0.mp cq4
    exact absurd cq4 (by rw [h1]; decide)
set_option maxHeartbeats 1000000 in
set_option maxRecDepth 100000 in
theorem c_X5_child_bad (l : Launch) (G : GG) (x0 : Nat) (s0 : Nat) (g0 : Nat) (k0 : Nat) (xt : Nat → Nat) (tr : Nat → Nat) (sg : Nat) (rf : Nat) (xk : Int32) (xs : Int32) (xw : Int32) (xh : Int32) (ab : Int64) (bl : Int64) (rfd : Nat → Int32) (h0 : (inI xk 0 5 && (inI xs 0 7 && (inI xw 0 20 && inI xh 0 30))) = false) : CT l G yX5_child cX5_child 6 (some .int) 2 44 [.ref x0, .int xk, .int xs, .int xw, .int xh] ([xO G x0 s0 g0 k0 xt tr sg rf ab bl, aW G rf 3 rfd].flatten) (some (.int (-2))) ([xO G x0 s0 g0 k0 xt tr sg rf ab bl, aW G rf 3 (upd rfd 0 (rfd 0 + 1))].flatten) := by
  refine CT.mk (own := RX5) (la := [(0, .ref x0), (1, .int xk), (2, .int xs), (3, .int xw), (4, .int xh)]) (by decide) rfl (Nat.le_of_ble_eq_true rfl) rfl ?_
  intro p e s m args below meth c A Q E hA hw rt ls hl
  have hx := E.1
  have hb := E.2.1
  refine lv_iload_n hx hb dX5_child_0 rfl (lv_at hl 1 rfl) ?_
  refine lv_iconst (v := 0) hx hb dX5_child_1 rfl ?_
  refine lv_iconst (v := 5) hx hb dX5_child_2 rfl ?_
  refine b_callS (is := []) (wb := []) (wb' := []) (As := [.int xk, .int 0, .int 5]) (rest := []) (st1 := [.int (bI (inI xk 0 5))]) (bs' := [xO G x0 s0 g0 k0 xt tr sg rf ab bl, aW G rf 3 rfd]) E (c_X5_within l G xk 0 5) sw_X5_75 hw [] rfl rfl rfl rfl rfl rfl hl.1 rfl rfl (Nat.le_of_ble_eq_true rfl) ⟨Nat.le_of_ble_eq_true rfl, Nat.le_of_ble_eq_true rfl⟩ (Nat.zero_le _) (Nat.zero_le _) dX5_child_3 rfl rfl (fun H locs hw => ?_)
  refine lv_if_eq (tgt := 41) hx hb dX5_child_6 rfl (fun cq6 => ?_) (fun cq6 => ?_)
  · skip
    have cq6 := bI_0.mp cq6
    refine lv_iconst (v := 0) hx hb dX5_child_41 rfl ?_
    refine lv_istore (lv' := [(5, .int 0), (0, .ref x0), (1, .int xk), (2, .int xs), (3, .int xw), (4, .int xh)]) hx hb dX5_child_42 hl (by decide) rfl (fun ls hl => ?_)
    refine lv_iload hx hb dX5_child_44 (lv_at hl 0 rfl) ?_
    refine lv_if_ne (tgt := 56) hx hb dX5_child_46 rfl (fun cq46 => ?_) (fun cq46 => ?_)
    · skip
      exact absurd rfl cq46
    · skip
      refine lv_aload_n hx hb dX5_child_49 rfl (lv_at hl 1 rfl) ?_
      refine lv_bipush (v := -2) hx hb dX5_child_50 rfl ?_
      refine b_callV (is := [0, 1]) (wb := [xO G x0 s0 g0 k0 xt tr sg rf ab bl, aW G rf 3 rfd]) (wb' := [xO G x0 s0 g0 k0 xt tr sg rf ab bl, aW G rf 3 (upd rfd 0 (rfd 0 + 1))]) (As := [.int (-2)]) (rest := []) (st1 := [.int (-2)]) (bs' := [xO G x0 s0 g0 k0 xt tr sg rf ab bl, aW G rf 3 (upd rfd 0 (rfd 0 + 1))]) E (c_X5_refuse l G x0 s0 g0 k0 xt tr sg rf (-2) ab bl rfd 0 (by omega) (by decide)) vw_X5_56 hw [0, 1] rfl 0 0 rfl rfl rfl rfl rfl rfl rfl rfl rfl hl.1 rfl rfl (Nat.le_of_ble_eq_true rfl) ⟨Nat.le_of_ble_eq_true rfl, Nat.le_of_ble_eq_true rfl⟩ (Nat.zero_le _) (Nat.zero_le _) dX5_child_52 rfl rfl (fun H locs hw => ?_)
      exact x_iret E hA rt hw dX5_child_55 (rfl) rfl
  · skip
    have cq6 := bI_n0.mp cq6
    refine lv_iload_n hx hb dX5_child_9 rfl (lv_at hl 2 rfl) ?_
    refine b_callS (is := []) (wb := []) (wb' := []) (As := [.int xs]) (rest := []) (st1 := [.int (bI (inI xs 0 7))]) (bs' := [xO G x0 s0 g0 k0 xt tr sg rf ab bl, aW G rf 3 rfd]) E (c_X5_isSeat l G xs) sw_X5_52 hw [] rfl rfl rfl rfl rfl rfl hl.1 rfl rfl (Nat.le_of_ble_eq_true rfl) ⟨Nat.le_of_ble_eq_true rfl, Nat.le_of_ble_eq_true rfl⟩ (Nat.zero_le _) (Nat.zero_le _) dX5_child_10 rfl rfl (fun H locs hw => ?_)
    refine lv_if_eq (tgt := 41) hx hb dX5_child_13 rfl (fun cq13 => ?_) (fun cq13 => ?_)
    · skip
      have cq13 := bI_0.mp cq13
      refine lv_iconst (v := 0) hx hb dX5_child_41 rfl ?_
      refine lv_istore (lv' := [(5, .int 0), (0, .ref x0), (1, .int xk), (2, .int xs), (3, .int xw), (4, .int xh)]) hx hb dX5_child_42 hl (by decide) rfl (fun ls hl => ?_)
      refine lv_iload hx hb dX5_child_44 (lv_at hl 0 rfl) ?_
      refine lv_if_ne (tgt := 56) hx hb dX5_child_46 rfl (fun cq46 => ?_) (fun cq46 => ?_)
      · skip
        exact absurd rfl cq46
      · skip
        refine lv_aload_n hx hb dX5_child_49 rfl (lv_at hl 1 rfl) ?_
        refine lv_bipush (v := -2) hx hb dX5_child_50 rfl ?_
        refine b_callV (is := [0, 1]) (wb := [xO G x0 s0 g0 k0 xt tr sg rf ab bl, aW G rf 3 rfd]) (wb' := [xO G x0 s0 g0 k0 xt tr sg rf ab bl, aW G rf 3 (upd rfd 0 (rfd 0 + 1))]) (As := [.int (-2)]) (rest := []) (st1 := [.int (-2)]) (bs' := [xO G x0 s0 g0 k0 xt tr sg rf ab bl, aW G rf 3 (upd rfd 0 (rfd 0 + 1))]) E (c_X5_refuse l G x0 s0 g0 k0 xt tr sg rf (-2) ab bl rfd 0 (by omega) (by decide)) vw_X5_56 hw [0, 1] rfl 0 0 rfl rfl rfl rfl rfl rfl rfl rfl rfl hl.1 rfl rfl (Nat.le_of_ble_eq_true rfl) ⟨Nat.le_of_ble_eq_true rfl, Nat.le_of_ble_eq_true rfl⟩ (Nat.zero_le _) (Nat.zero_le _) dX5_child_52 rfl rfl (fun H locs hw => ?_)
        exact x_iret E hA rt hw dX5_child_55 (rfl) rfl
    · skip
      have cq13 := bI_n0.mp cq13
      refine lv_iload_n hx hb dX5_child_16 rfl (lv_at hl 3 rfl) ?_
      refine lv_iconst (v := 0) hx hb dX5_child_17 rfl ?_
      refine lv_bipush (v := 20) hx hb dX5_child_18 rfl ?_
      refine b_callS (is := []) (wb := []) (wb' := []) (As := [.int xw, .int 0, .int 20]) (rest := []) (st1 := [.int (bI (inI xw 0 20))]) (bs' := [xO G x0 s0 g0 k0 xt tr sg rf ab bl, aW G rf 3 rfd]) E (c_X5_within l G xw 0 20) sw_X5_75 hw [] rfl rfl rfl rfl rfl rfl hl.1 rfl rfl (Nat.le_of_ble_eq_true rfl) ⟨Nat.le_of_ble_eq_true rfl, Nat.le_of_ble_eq_true rfl⟩ (Nat.zero_le _) (Nat.zero_le _) dX5_child_20 rfl rfl (fun H locs hw => ?_)
      refine lv_if_eq (tgt := 41) hx hb dX5_child_23 rfl (fun cq23 => ?_) (fun cq23 => ?_)
      · skip
        have cq23 := bI_0.mp cq23
        refine lv_iconst (v := 0) hx hb dX5_child_41 rfl ?_
        refine lv_istore (lv' := [(5, .int 0), (0, .ref x0), (1, .int xk), (2, .int xs), (3, .int xw), (4, .int xh)]) hx hb dX5_child_42 hl (by decide) rfl (fun ls hl => ?_)
        refine lv_iload hx hb dX5_child_44 (lv_at hl 0 rfl) ?_
        refine lv_if_ne (tgt := 56) hx hb dX5_child_46 rfl (fun cq46 => ?_) (fun cq46 => ?_)
        · skip
          exact absurd rfl cq46
        · skip
          refine lv_aload_n hx hb dX5_child_49 rfl (lv_at hl 1 rfl) ?_
          refine lv_bipush (v := -2) hx hb dX5_child_50 rfl ?_
          refine b_callV (is := [0, 1]) (wb := [xO G x0 s0 g0 k0 xt tr sg rf ab bl, aW G rf 3 rfd]) (wb' := [xO G x0 s0 g0 k0 xt tr sg rf ab bl, aW G rf 3 (upd rfd 0 (rfd 0 + 1))]) (As := [.int (-2)]) (rest := []) (st1 := [.int (-2)]) (bs' := [xO G x0 s0 g0 k0 xt tr sg rf ab bl, aW G rf 3 (upd rfd 0 (rfd 0 + 1))]) E (c_X5_refuse l G x0 s0 g0 k0 xt tr sg rf (-2) ab bl rfd 0 (by omega) (by decide)) vw_X5_56 hw [0, 1] rfl 0 0 rfl rfl rfl rfl rfl rfl rfl rfl rfl hl.1 rfl rfl (Nat.le_of_ble_eq_true rfl) ⟨Nat.le_of_ble_eq_true rfl, Nat.le_of_ble_eq_true rfl⟩ (Nat.zero_le _) (Nat.zero_le _) dX5_child_52 rfl rfl (fun H locs hw => ?_)
          exact x_iret E hA rt hw dX5_child_55 (rfl) rfl
      · skip
        have cq23 := bI_n0.mp cq23
        refine lv_iload hx hb dX5_child_26 (lv_at hl 4 rfl) ?_
        refine lv_iconst (v := 0) hx hb dX5_child_28 rfl ?_
        refine lv_bipush (v := 30) hx hb dX5_child_29 rfl ?_
        refine b_callS (is := []) (wb := []) (wb' := []) (As := [.int xh, .int 0, .int 30]) (rest := []) (st1 := [.int (bI (inI xh 0 30))]) (bs' := [xO G x0 s0 g0 k0 xt tr sg rf ab bl, aW G rf 3 rfd]) E (c_X5_within l G xh 0 30) sw_X5_75 hw [] rfl rfl rfl rfl rfl rfl hl.1 rfl rfl (Nat.le_of_ble_eq_true rfl) ⟨Nat.le_of_ble_eq_true rfl, Nat.le_of_ble_eq_true rfl⟩ (Nat.zero_le _) (Nat.zero_le _) dX5_child_31 rfl rfl (fun H locs hw => ?_)
        refine lv_if_eq (tgt := 41) hx hb dX5_child_34 rfl (fun cq34 => ?_) (fun cq34 => ?_)
        · skip
          have cq34 := bI_0.mp cq34
          refine lv_iconst (v := 0) hx hb dX5_child_41 rfl ?_
          refine lv_istore (lv' := [(5, .int 0), (0, .ref x0), (1, .int xk), (2, .int xs), (3, .int xw), (4, .int xh)]) hx hb dX5_child_42 hl (by decide) rfl (fun ls hl => ?_)
          refine lv_iload hx hb dX5_child_44 (lv_at hl 0 rfl) ?_
          refine lv_if_ne (tgt := 56) hx hb dX5_child_46 rfl (fun cq46 => ?_) (fun cq46 => ?_)
          · skip
            exact absurd rfl cq46
          · skip
            refine lv_aload_n hx hb dX5_child_49 rfl (lv_at hl 1 rfl) ?_
            refine lv_bipush (v := -2) hx hb dX5_child_50 rfl ?_
            refine b_callV (is := [0, 1]) (wb := [xO G x0 s0 g0 k0 xt tr sg rf ab bl, aW G rf 3 rfd]) (wb' := [xO G x0 s0 g0 k0 xt tr sg rf ab bl, aW G rf 3 (upd rfd 0 (rfd 0 + 1))]) (As := [.int (-2)]) (rest := []) (st1 := [.int (-2)]) (bs' := [xO G x0 s0 g0 k0 xt tr sg rf ab bl, aW G rf 3 (upd rfd 0 (rfd 0 + 1))]) E (c_X5_refuse l G x0 s0 g0 k0 xt tr sg rf (-2) ab bl rfd 0 (by omega) (by decide)) vw_X5_56 hw [0, 1] rfl 0 0 rfl rfl rfl rfl rfl rfl rfl rfl rfl hl.1 rfl rfl (Nat.le_of_ble_eq_true rfl) ⟨Nat.le_of_ble_eq_true rfl, Nat.le_of_ble_eq_true rfl⟩ (Nat.zero_le _) (Nat.zero_le _) dX5_child_52 rfl rfl (fun H locs hw => ?_)
            exact x_iret E hA rt hw dX5_child_55 (rfl) rfl
        · skip
          have cq34 := bI_n0.mp cq34
          rw [cq6, cq13, cq23, cq34] at h0; exact absurd h0 (by decide)
set_option maxHeartbeats 1000000 in
set_option maxRecDepth 100000 in
theorem c_X5_child_no (l : Launch) (G : GG) (x0 : Nat) (s0 : Nat) (t0 : Nat → Nat) (p0 : Nat → Nat) (n0 : Nat → Nat) (g0 : Nat) (k0 : Nat) (xt : Nat → Nat) (tr : Nat → Nat) (sg : Nat) (rf : Nat) (xk : Int32) (xs : Int32) (xw : Int32) (xh : Int32) (ab : Int64) (bl : Int64) (wo : Int32) (mi : Int32) (bi : Int32) (la : Int32) (n : Nat) (ki : Nat → Int32) (se : Nat → Int32) (wd : Nat → Int32) (hu : Nat → Int32) (bt : Nat → Int32) (rfd : Nat → Int32) (h1 : inI xk 0 5 = true) (h2 : inI xs 0 7 = true) (h3 : inI xw 0 20 = true) (h4 : inI xh 0 30 = true) (hn : n ≤ 6) (h5 : ¬ fi se xs n 0 = -1) : CT l G yX5_child cX5_child 6 (some .int) 2 44 [.ref x0, .int xk, .int xs, .int xw, .int xh] ([xO G x0 s0 g0 k0 xt tr sg rf ab bl, oS G s0 t0 p0 n0, tW G t0 wo mi bi la (nI n) ki se wd hu bt, aW G rf 3 rfd].flatten) (some (.int (-3))) ([xO G x0 s0 g0 k0 xt tr sg rf ab bl, oS G s0 t0 p0 n0, tW G t0 wo mi bi la (nI n) ki se wd hu bt, aW G rf 3 (upd rfd 1 (rfd 1 + 1))].flatten) := by
  refine CT.mk (own := RX5) (la := [(0, .ref x0), (1, .int xk), (2, .int xs), (3, .int xw), (4, .int xh)]) (by decide) rfl (Nat.le_of_ble_eq_true rfl) rfl ?_
  intro p e s m args below meth c A Q E hA hw rt ls hl
  have hx := E.1
  have hb := E.2.1
  refine lv_iload_n hx hb dX5_child_0 rfl (lv_at hl 1 rfl) ?_
  refine lv_iconst (v := 0) hx hb dX5_child_1 rfl ?_
  refine lv_iconst (v := 5) hx hb dX5_child_2 rfl ?_
  refine b_callS (is := []) (wb := []) (wb' := []) (As := [.int xk, .int 0, .int 5]) (rest := []) (st1 := [.int (bI (inI xk 0 5))]) (bs' := [xO G x0 s0 g0 k0 xt tr sg rf ab bl, oS G s0 t0 p0 n0, tW G t0 wo mi bi la (nI n) ki se wd hu bt, aW G rf 3 rfd]) E (c_X5_within l G xk 0 5) sw_X5_75 hw [] rfl rfl rfl rfl rfl rfl hl.1 rfl rfl (Nat.le_of_ble_eq_true rfl) ⟨Nat.le_of_ble_eq_true rfl, Nat.le_of_ble_eq_true rfl⟩ (Nat.zero_le _) (Nat.zero_le _) dX5_child_3 rfl rfl (fun H locs hw => ?_)
  refine lv_if_eq (tgt := 41) hx hb dX5_child_6 rfl (fun cq6 => ?_) (fun cq6 => ?_)
  · skip
    have cq6 := bI_0.mp cq6
    exact absurd cq6 (by rw [h1]; decide)
  · skip
    have cq6 := bI_n0.mp cq6
    refine lv_iload_n hx hb dX5_child_9 rfl (lv_at hl 2 rfl) ?_
    refine b_callS (is := []) (wb := []) (wb' := []) (As := [.int xs]) (rest := []) (st1 := [.int (bI (inI xs 0 7))]) (bs' := [xO G x0 s0 g0 k0 xt tr sg rf ab bl, oS G s0 t0 p0 n0, tW G t0 wo mi bi la (nI n) ki se wd hu bt, aW G rf 3 rfd]) E (c_X5_isSeat l G xs) sw_X5_52 hw [] rfl rfl rfl rfl rfl rfl hl.1 rfl rfl (Nat.le_of_ble_eq_true rfl) ⟨Nat.le_of_ble_eq_true rfl, Nat.le_of_ble_eq_true rfl⟩ (Nat.zero_le _) (Nat.zero_le _) dX5_child_10 rfl rfl (fun H locs hw => ?_)
    refine lv_if_eq (tgt := 41) hx hb dX5_child_13 rfl (fun cq13 => ?_) (fun cq13 => ?_)
    · skip
      have cq13 := bI_0.mp cq13
      exact absurd cq13 (by rw [h2]; decide)
    · skip
      have cq13 := bI_n0.mp cq13
      refine lv_iload_n hx hb dX5_child_16 rfl (lv_at hl 3 rfl) ?_
      refine lv_iconst (v := 0) hx hb dX5_child_17 rfl ?_
      refine lv_bipush (v := 20) hx hb dX5_child_18 rfl ?_
      refine b_callS (is := []) (wb := []) (wb' := []) (As := [.int xw, .int 0, .int 20]) (rest := []) (st1 := [.int (bI (inI xw 0 20))]) (bs' := [xO G x0 s0 g0 k0 xt tr sg rf ab bl, oS G s0 t0 p0 n0, tW G t0 wo mi bi la (nI n) ki se wd hu bt, aW G rf 3 rfd]) E (c_X5_within l G xw 0 20) sw_X5_75 hw [] rfl rfl rfl rfl rfl rfl hl.1 rfl rfl (Nat.le_of_ble_eq_true rfl) ⟨Nat.le_of_ble_eq_true rfl, Nat.le_of_ble_eq_true rfl⟩ (Nat.zero_le _) (Nat.zero_le _) dX5_child_20 rfl rfl (fun H locs hw => ?_)
      refine lv_if_eq (tgt := 41) hx hb dX5_child_23 rfl (fun cq23 => ?_) (fun cq23 => ?_)
      · skip
        have cq23 := bI_0.mp cq23
        exact absurd cq23 (by rw [h3]; decide)
      · skip
        have cq23 := bI_n0.mp cq23
        refine lv_iload hx hb dX5_child_26 (lv_at hl 4 rfl) ?_
        refine lv_iconst (v := 0) hx hb dX5_child_28 rfl ?_
        refine lv_bipush (v := 30) hx hb dX5_child_29 rfl ?_
        refine b_callS (is := []) (wb := []) (wb' := []) (As := [.int xh, .int 0, .int 30]) (rest := []) (st1 := [.int (bI (inI xh 0 30))]) (bs' := [xO G x0 s0 g0 k0 xt tr sg rf ab bl, oS G s0 t0 p0 n0, tW G t0 wo mi bi la (nI n) ki se wd hu bt, aW G rf 3 rfd]) E (c_X5_within l G xh 0 30) sw_X5_75 hw [] rfl rfl rfl rfl rfl rfl hl.1 rfl rfl (Nat.le_of_ble_eq_true rfl) ⟨Nat.le_of_ble_eq_true rfl, Nat.le_of_ble_eq_true rfl⟩ (Nat.zero_le _) (Nat.zero_le _) dX5_child_31 rfl rfl (fun H locs hw => ?_)
        refine lv_if_eq (tgt := 41) hx hb dX5_child_34 rfl (fun cq34 => ?_) (fun cq34 => ?_)
        · skip
          have cq34 := bI_0.mp cq34
          exact absurd cq34 (by rw [h4]; decide)
        · skip
          have cq34 := bI_n0.mp cq34
          refine lv_iconst (v := 1) hx hb dX5_child_37 rfl ?_
          refine lv_goto (tgt := 42) hx hb dX5_child_38 rfl ?_
          refine lv_istore (lv' := [(5, .int 1), (0, .ref x0), (1, .int xk), (2, .int xs), (3, .int xw), (4, .int xh)]) hx hb dX5_child_42 hl (by decide) rfl (fun ls hl => ?_)
          refine lv_iload hx hb dX5_child_44 (lv_at hl 0 rfl) ?_
          refine lv_if_ne (tgt := 56) hx hb dX5_child_46 rfl (fun cq46 => ?_) (fun cq46 => ?_)
          · skip
            refine lv_aload_n hx hb dX5_child_56 rfl (lv_at hl 1 rfl) ?_
            refine b_get E hw fw_X5_10 0 0 rfl rfl rfl dX5_child_57 ?_
            refine b_get E hw fw_X5_60 1 0 rfl rfl rfl dX5_child_60 ?_
            refine lv_iload_n hx hb dX5_child_63 rfl (lv_at hl 3 rfl) ?_
            refine b_callV (is := [2]) (wb := [tW G t0 wo mi bi la (nI n) ki se wd hu bt]) (wb' := [tW G t0 wo mi bi la (nI n) ki se wd hu bt]) (As := [.int xs]) (rest := []) (st1 := [.int (fi se xs n 0)]) (bs' := [xO G x0 s0 g0 k0 xt tr sg rf ab bl, oS G s0 t0 p0 n0, tW G t0 wo mi bi la (nI n) ki se wd hu bt, aW G rf 3 rfd]) E (c_X3_childAt l G t0 xs wo mi bi la n ki se wd hu bt (by omega)) vw_X5_79 hw [2] rfl 2 0 rfl rfl rfl rfl rfl rfl (flat1 _) (flat1 _) rfl hl.1 rfl rfl (Nat.le_of_ble_eq_true rfl) ⟨Nat.le_of_ble_eq_true rfl, Nat.le_of_ble_eq_true rfl⟩ (Nat.zero_le _) (Nat.zero_le _) dX5_child_64 rfl rfl (fun H locs hw => ?_)
            refine lv_iconst (v := -1) hx hb dX5_child_67 rfl ?_
            refine lv_icmp_eq (tgt := 78) hx hb dX5_child_68 rfl (fun cq68 => ?_) (fun cq68 => ?_)
            · skip
              exact absurd cq68 h5
            · skip
              refine lv_aload_n hx hb dX5_child_71 rfl (lv_at hl 1 rfl) ?_
              refine lv_bipush (v := -3) hx hb dX5_child_72 rfl ?_
              refine b_callV (is := [0, 3]) (wb := [xO G x0 s0 g0 k0 xt tr sg rf ab bl, aW G rf 3 rfd]) (wb' := [xO G x0 s0 g0 k0 xt tr sg rf ab bl, aW G rf 3 (upd rfd 1 (rfd 1 + 1))]) (As := [.int (-3)]) (rest := []) (st1 := [.int (-3)]) (bs' := [xO G x0 s0 g0 k0 xt tr sg rf ab bl, oS G s0 t0 p0 n0, tW G t0 wo mi bi la (nI n) ki se wd hu bt, aW G rf 3 (upd rfd 1 (rfd 1 + 1))]) E (c_X5_refuse l G x0 s0 g0 k0 xt tr sg rf (-3) ab bl rfd 1 (by omega) (by decide)) vw_X5_56 hw [0, 3] rfl 0 0 rfl rfl rfl rfl rfl rfl rfl rfl rfl hl.1 rfl rfl (Nat.le_of_ble_eq_true rfl) ⟨Nat.le_of_ble_eq_true rfl, Nat.le_of_ble_eq_true rfl⟩ (Nat.zero_le _) (Nat.zero_le _) dX5_child_74 rfl rfl (fun H locs hw => ?_)
              exact x_iret E hA rt hw dX5_child_77 (rfl) rfl
          · skip
            exact absurd cq46 (by decide)
set_option maxHeartbeats 1000000 in
set_option maxRecDepth 100000 in
theorem c_X5_child_full (l : Launch) (G : GG) (x0 : Nat) (s0 : Nat) (t0 : Nat → Nat) (p0 : Nat → Nat) (n0 : Nat → Nat) (g0 : Nat) (k0 : Nat) (xt : Nat → Nat) (tr : Nat → Nat) (sg : Nat) (rf : Nat) (xk : Int32) (xs : Int32) (xw : Int32) (xh : Int32) (ab : Int64) (bl : Int64) (wo : Int32) (mi : Int32) (bi : Int32) (la : Int32) (n : Nat) (ki : Nat → Int32) (se : Nat → Int32) (wd : Nat → Int32) (hu : Nat → Int32) (bt : Nat → Int32) (rfd : Nat → Int32) (h1 : inI xk 0 5 = true) (h2 : inI xs 0 7 = true) (h3 : inI xw 0 20 = true) (h4 : inI xh 0 30 = true) (hn : n ≤ 6) (h5 : fi se xs n 0 = -1) (h6 : 6 ≤ n) : CT l G yX5_child cX5_child 6 (some .int) 2 44 [.ref x0, .int xk, .int xs, .int xw, .int xh] ([xO G x0 s0 g0 k0 xt tr sg rf ab bl, oS G s0 t0 p0 n0, tW G t0 wo mi bi la (nI n) ki se wd hu bt, aW G rf 3 rfd].flatten) (some (.int (-4))) ([xO G x0 s0 g0 k0 xt tr sg rf ab bl, oS G s0 t0 p0 n0, tW G t0 wo mi bi la (nI n) ki se wd hu bt, aW G rf 3 (upd rfd 2 (rfd 2 + 1))].flatten) := by
  refine CT.mk (own := RX5) (la := [(0, .ref x0), (1, .int xk), (2, .int xs), (3, .int xw), (4, .int xh)]) (by decide) rfl (Nat.le_of_ble_eq_true rfl) rfl ?_
  intro p e s m args below meth c A Q E hA hw rt ls hl
  have hx := E.1
  have hb := E.2.1
  refine lv_iload_n hx hb dX5_child_0 rfl (lv_at hl 1 rfl) ?_
  refine lv_iconst (v := 0) hx hb dX5_child_1 rfl ?_
  refine lv_iconst (v := 5) hx hb dX5_child_2 rfl ?_
  refine b_callS (is := []) (wb := []) (wb' := []) (As := [.int xk, .int 0, .int 5]) (rest := []) (st1 := [.int (bI (inI xk 0 5))]) (bs' := [xO G x0 s0 g0 k0 xt tr sg rf ab bl, oS G s0 t0 p0 n0, tW G t0 wo mi bi la (nI n) ki se wd hu bt, aW G rf 3 rfd]) E (c_X5_within l G xk 0 5) sw_X5_75 hw [] rfl rfl rfl rfl rfl rfl hl.1 rfl rfl (Nat.le_of_ble_eq_true rfl) ⟨Nat.le_of_ble_eq_true rfl, Nat.le_of_ble_eq_true rfl⟩ (Nat.zero_le _) (Nat.zero_le _) dX5_child_3 rfl rfl (fun H locs hw => ?_)
  refine lv_if_eq (tgt := 41) hx hb dX5_child_6 rfl (fun cq6 => ?_) (fun cq6 => ?_)
  · skip
    have cq6 := bI_0.mp cq6
    exact absurd cq6 (by rw [h1]; decide)
  · skip
    have cq6 := bI_n0.mp cq6
    refine lv_iload_n hx hb dX5_child_9 rfl (lv_at hl 2 rfl) ?_
    refine b_callS (is := []) (wb := []) (wb' := []) (As := [.int xs]) (rest := []) (st1 := [.int (bI (inI xs 0 7))]) (bs' := [xO G x0 s0 g0 k0 xt tr sg rf ab bl, oS G s0 t0 p0 n0, tW G t0 wo mi bi la (nI n) ki se wd hu bt, aW G rf 3 rfd]) E (c_X5_isSeat l G xs) sw_X5_52 hw [] rfl rfl rfl rfl rfl rfl hl.1 rfl rfl (Nat.le_of_ble_eq_true rfl) ⟨Nat.le_of_ble_eq_true rfl, Nat.le_of_ble_eq_true rfl⟩ (Nat.zero_le _) (Nat.zero_le _) dX5_child_10 rfl rfl (fun H locs hw => ?_)
    refine lv_if_eq (tgt := 41) hx hb dX5_child_13 rfl (fun cq13 => ?_) (fun cq13 => ?_)
    · skip
      have cq13 := bI_0.mp cq13
      exact absurd cq13 (by rw [h2]; decide)
    · skip
      have cq13 := bI_n0.mp cq13
      refine lv_iload_n hx hb dX5_child_16 rfl (lv_at hl 3 rfl) ?_
      refine lv_iconst (v := 0) hx hb dX5_child_17 rfl ?_
      refine lv_bipush (v := 20) hx hb dX5_child_18 rfl ?_
      refine b_callS (is := []) (wb := []) (wb' := []) (As := [.int xw, .int 0, .int 20]) (rest := []) (st1 := [.int (bI (inI xw 0 20))]) (bs' := [xO G x0 s0 g0 k0 xt tr sg rf ab bl, oS G s0 t0 p0 n0, tW G t0 wo mi bi la (nI n) ki se wd hu bt, aW G rf 3 rfd]) E (c_X5_within l G xw 0 20) sw_X5_75 hw [] rfl rfl rfl rfl rfl rfl hl.1 rfl rfl (Nat.le_of_ble_eq_true rfl) ⟨Nat.le_of_ble_eq_true rfl, Nat.le_of_ble_eq_true rfl⟩ (Nat.zero_le _) (Nat.zero_le _) dX5_child_20 rfl rfl (fun H locs hw => ?_)
      refine lv_if_eq (tgt := 41) hx hb dX5_child_23 rfl (fun cq23 => ?_) (fun cq23 => ?_)
      · skip
        have cq23 := bI_0.mp cq23
        exact absurd cq23 (by rw [h3]; decide)
      · skip
        have cq23 := bI_n0.mp cq23
        refine lv_iload hx hb dX5_child_26 (lv_at hl 4 rfl) ?_
        refine lv_iconst (v := 0) hx hb dX5_child_28 rfl ?_
        refine lv_bipush (v := 30) hx hb dX5_child_29 rfl ?_
        refine b_callS (is := []) (wb := []) (wb' := []) (As := [.int xh, .int 0, .int 30]) (rest := []) (st1 := [.int (bI (inI xh 0 30))]) (bs' := [xO G x0 s0 g0 k0 xt tr sg rf ab bl, oS G s0 t0 p0 n0, tW G t0 wo mi bi la (nI n) ki se wd hu bt, aW G rf 3 rfd]) E (c_X5_within l G xh 0 30) sw_X5_75 hw [] rfl rfl rfl rfl rfl rfl hl.1 rfl rfl (Nat.le_of_ble_eq_true rfl) ⟨Nat.le_of_ble_eq_true rfl, Nat.le_of_ble_eq_true rfl⟩ (Nat.zero_le _) (Nat.zero_le _) dX5_child_31 rfl rfl (fun H locs hw => ?_)
        refine lv_if_eq (tgt := 41) hx hb dX5_child_34 rfl (fun cq34 => ?_) (fun cq34 => ?_)
        · skip
          have cq34 := bI_0.mp cq34
          exact absurd cq34 (by rw [h4]; decide)
        · skip
          have cq34 := bI_n0.mp cq34
          refine lv_iconst (v := 1) hx hb dX5_child_37 rfl ?_
          refine lv_goto (tgt := 42) hx hb dX5_child_38 rfl ?_
          refine lv_istore (lv' := [(5, .int 1), (0, .ref x0), (1, .int xk), (2, .int xs), (3, .int xw), (4, .int xh)]) hx hb dX5_child_42 hl (by decide) rfl (fun ls hl => ?_)
          refine lv_iload hx hb dX5_child_44 (lv_at hl 0 rfl) ?_
          refine lv_if_ne (tgt := 56) hx hb dX5_child_46 rfl (fun cq46 => ?_) (fun cq46 => ?_)
          · skip
            refine lv_aload_n hx hb dX5_child_56 rfl (lv_at hl 1 rfl) ?_
            refine b_get E hw fw_X5_10 0 0 rfl rfl rfl dX5_child_57 ?_
            refine b_get E hw fw_X5_60 1 0 rfl rfl rfl dX5_child_60 ?_
            refine lv_iload_n hx hb dX5_child_63 rfl (lv_at hl 3 rfl) ?_
            refine b_callV (is := [2]) (wb := [tW G t0 wo mi bi la (nI n) ki se wd hu bt]) (wb' := [tW G t0 wo mi bi la (nI n) ki se wd hu bt]) (As := [.int xs]) (rest := []) (st1 := [.int (fi se xs n 0)]) (bs' := [xO G x0 s0 g0 k0 xt tr sg rf ab bl, oS G s0 t0 p0 n0, tW G t0 wo mi bi la (nI n) ki se wd hu bt, aW G rf 3 rfd]) E (c_X3_childAt l G t0 xs wo mi bi la n ki se wd hu bt (by omega)) vw_X5_79 hw [2] rfl 2 0 rfl rfl rfl rfl rfl rfl (flat1 _) (flat1 _) rfl hl.1 rfl rfl (Nat.le_of_ble_eq_true rfl) ⟨Nat.le_of_ble_eq_true rfl, Nat.le_of_ble_eq_true rfl⟩ (Nat.zero_le _) (Nat.zero_le _) dX5_child_64 rfl rfl (fun H locs hw => ?_)
            refine lv_iconst (v := -1) hx hb dX5_child_67 rfl ?_
            refine lv_icmp_eq (tgt := 78) hx hb dX5_child_68 rfl (fun cq68 => ?_) (fun cq68 => ?_)
            · skip
              refine lv_aload_n hx hb dX5_child_78 rfl (lv_at hl 1 rfl) ?_
              refine b_get E hw fw_X5_10 0 0 rfl rfl rfl dX5_child_79 ?_
              refine b_get E hw fw_X5_60 1 0 rfl rfl rfl dX5_child_82 ?_
              refine b_get E hw fw_X5_63 2 0 rfl rfl rfl dX5_child_85 ?_
              refine lv_bipush (v := 6) hx hb dX5_child_88 rfl ?_
              refine lv_icmp_lt (tgt := 100) hx hb dX5_child_90 rfl (fun cq90 => ?_) (fun cq90 => ?_)
              · skip
                have cq90 : n < 6 := (cv_lt (a := n) (b := 6) rfl rfl (by omega) (by omega)).mp cq90
                exact absurd cq90 (by omega)
              · skip
                have cq90 : ¬ n < 6 := fun h => cq90 ((cv_lt (a := n) (b := 6) rfl rfl (by omega) (by omega)).mpr h)
                refine lv_aload_n hx hb dX5_child_93 rfl (lv_at hl 1 rfl) ?_
                refine lv_bipush (v := -4) hx hb dX5_child_94 rfl ?_
                refine b_callV (is := [0, 3]) (wb := [xO G x0 s0 g0 k0 xt tr sg rf ab bl, aW G rf 3 rfd]) (wb' := [xO G x0 s0 g0 k0 xt tr sg rf ab bl, aW G rf 3 (upd rfd 2 (rfd 2 + 1))]) (As := [.int (-4)]) (rest := []) (st1 := [.int (-4)]) (bs' := [xO G x0 s0 g0 k0 xt tr sg rf ab bl, oS G s0 t0 p0 n0, tW G t0 wo mi bi la (nI n) ki se wd hu bt, aW G rf 3 (upd rfd 2 (rfd 2 + 1))]) E (c_X5_refuse l G x0 s0 g0 k0 xt tr sg rf (-4) ab bl rfd 2 (by omega) (by decide)) vw_X5_56 hw [0, 3] rfl 0 0 rfl rfl rfl rfl rfl rfl rfl rfl rfl hl.1 rfl rfl (Nat.le_of_ble_eq_true rfl) ⟨Nat.le_of_ble_eq_true rfl, Nat.le_of_ble_eq_true rfl⟩ (Nat.zero_le _) (Nat.zero_le _) dX5_child_96 rfl rfl (fun H locs hw => ?_)
                exact x_iret E hA rt hw dX5_child_99 (rfl) rfl
            · skip
              exact absurd h5 cq68
          · skip
            exact absurd cq46 (by decide)
set_option maxHeartbeats 1000000 in
set_option maxRecDepth 100000 in
theorem c_X5_child_ok (l : Launch) (G : GG) (x0 : Nat) (s0 : Nat) (t0 : Nat → Nat) (p0 : Nat → Nat) (n0 : Nat → Nat) (g0 : Nat) (k0 : Nat) (xt : Nat → Nat) (tr : Nat → Nat) (sg : Nat) (rf : Nat) (xk : Int32) (xs : Int32) (xw : Int32) (xh : Int32) (ab : Int64) (bl : Int64) (wo : Int32) (mi : Int32) (bi : Int32) (la : Int32) (n : Nat) (ki : Nat → Int32) (se : Nat → Int32) (wd : Nat → Int32) (hu : Nat → Int32) (bt : Nat → Int32) (o : Nat) (u : Nat) (T : Nat → Tb) (h1 : inI xk 0 5 = true) (h2 : inI xs 0 7 = true) (h3 : inI xw 0 20 = true) (h4 : inI xh 0 30 = true) (hn : n ≤ 6) (h5 : fi se xs n 0 = -1) (h6 : n < 6) : CT l G yX5_child cX5_child 6 (some .int) 2 42 [.ref x0, .int xk, .int xs, .int xw, .int xh] ([xO G x0 s0 g0 k0 xt tr sg rf ab bl, oS G s0 t0 p0 n0, tW G t0 wo mi bi la (nI n) ki se wd hu bt, pW G p0 (nI o) (nI u) T].flatten) (some (.int (nI n))) ([xO G x0 s0 g0 k0 xt tr sg rf ab bl, oS G s0 t0 p0 n0, tW G t0 wo mi bi la (nI (n + 1)) (upd ki n xk) (upd se n xs) (upd wd n xw) (upd hu n xh) (upd bt n 0), pW G p0 0 0 T].flatten) := by
  refine CT.mk (own := RX5) (la := [(0, .ref x0), (1, .int xk), (2, .int xs), (3, .int xw), (4, .int xh)]) (by decide) rfl (Nat.le_of_ble_eq_true rfl) rfl ?_
  intro p e s m args below meth c A Q E hA hw rt ls hl
  have hx := E.1
  have hb := E.2.1
  refine lv_iload_n hx hb dX5_child_0 rfl (lv_at hl 1 rfl) ?_
  refine lv_iconst (v := 0) hx hb dX5_child_1 rfl ?_
  refine lv_iconst (v := 5) hx hb dX5_child_2 rfl ?_
  refine b_callS (is := []) (wb := []) (wb' := []) (As := [.int xk, .int 0, .int 5]) (rest := []) (st1 := [.int (bI (inI xk 0 5))]) (bs' := [xO G x0 s0 g0 k0 xt tr sg rf ab bl, oS G s0 t0 p0 n0, tW G t0 wo mi bi la (nI n) ki se wd hu bt, pW G p0 (nI o) (nI u) T]) E (c_X5_within l G xk 0 5) sw_X5_75 hw [] rfl rfl rfl rfl rfl rfl hl.1 rfl rfl (Nat.le_of_ble_eq_true rfl) ⟨Nat.le_of_ble_eq_true rfl, Nat.le_of_ble_eq_true rfl⟩ (Nat.zero_le _) (Nat.zero_le _) dX5_child_3 rfl rfl (fun H locs hw => ?_)
  refine lv_if_eq (tgt := 41) hx hb dX5_child_6 rfl (fun cq6 => ?_) (fun cq6 => ?_)
  · skip
    have cq6 := bI_0.mp cq6
    exact absurd cq6 (by rw [h1]; decide)
  · skip
    have cq6 := bI_n0.mp cq6
    refine lv_iload_n hx hb dX5_child_9 rfl (lv_at hl 2 rfl) ?_
    refine b_callS (is := []) (wb := []) (wb' := []) (As := [.int xs]) (rest := []) (st1 := [.int (bI (inI xs 0 7))]) (bs' := [xO G x0 s0 g0 k0 xt tr sg rf ab bl, oS G s0 t0 p0 n0, tW G t0 wo mi bi la (nI n) ki se wd hu bt, pW G p0 (nI o) (nI u) T]) E (c_X5_isSeat l G xs) sw_X5_52 hw [] rfl rfl rfl rfl rfl rfl hl.1 rfl rfl (Nat.le_of_ble_eq_true rfl) ⟨Nat.le_of_ble_eq_true rfl, Nat.le_of_ble_eq_true rfl⟩ (Nat.zero_le _) (Nat.zero_le _) dX5_child_10 rfl rfl (fun H locs hw => ?_)
    refine lv_if_eq (tgt := 41) hx hb dX5_child_13 rfl (fun cq13 => ?_) (fun cq13 => ?_)
    · skip
      have cq13 := bI_0.mp cq13
      exact absurd cq13 (by rw [h2]; decide)
    · skip
      have cq13 := bI_n0.mp cq13
      refine lv_iload_n hx hb dX5_child_16 rfl (lv_at hl 3 rfl) ?_
      refine lv_iconst (v := 0) hx hb dX5_child_17 rfl ?_
      refine lv_bipush (v := 20) hx hb dX5_child_18 rfl ?_
      refine b_callS (is := []) (wb := []) (wb' := []) (As := [.int xw, .int 0, .int 20]) (rest := []) (st1 := [.int (bI (inI xw 0 20))]) (bs' := [xO G x0 s0 g0 k0 xt tr sg rf ab bl, oS G s0 t0 p0 n0, tW G t0 wo mi bi la (nI n) ki se wd hu bt, pW G p0 (nI o) (nI u) T]) E (c_X5_within l G xw 0 20) sw_X5_75 hw [] rfl rfl rfl rfl rfl rfl hl.1 rfl rfl (Nat.le_of_ble_eq_true rfl) ⟨Nat.le_of_ble_eq_true rfl, Nat.le_of_ble_eq_true rfl⟩ (Nat.zero_le _) (Nat.zero_le _) dX5_child_20 rfl rfl (fun H locs hw => ?_)
      refine lv_if_eq (tgt := 41) hx hb dX5_child_23 rfl (fun cq23 => ?_) (fun cq23 => ?_)
      · skip
        have cq23 := bI_0.mp cq23
        exact absurd cq23 (by rw [h3]; decide)
      · skip
        have cq23 := bI_n0.mp cq23
        refine lv_iload hx hb dX5_child_26 (lv_at hl 4 rfl) ?_
        refine lv_iconst (v := 0) hx hb dX5_child_28 rfl ?_
        refine lv_bipush (v := 30) hx hb dX5_child_29 rfl ?_
        refine b_callS (is := []) (wb := []) (wb' := []) (As := [.int xh, .int 0, .int 30]) (rest := []) (st1 := [.int (bI (inI xh 0 30))]) (bs' := [xO G x0 s0 g0 k0 xt tr sg rf ab bl, oS G s0 t0 p0 n0, tW G t0 wo mi bi la (nI n) ki se wd hu bt, pW G p0 (nI o) (nI u) T]) E (c_X5_within l G xh 0 30) sw_X5_75 hw [] rfl rfl rfl rfl rfl rfl hl.1 rfl rfl (Nat.le_of_ble_eq_true rfl) ⟨Nat.le_of_ble_eq_true rfl, Nat.le_of_ble_eq_true rfl⟩ (Nat.zero_le _) (Nat.zero_le _) dX5_child_31 rfl rfl (fun H locs hw => ?_)
        refine lv_if_eq (tgt := 41) hx hb dX5_child_34 rfl (fun cq34 => ?_) (fun cq34 => ?_)
        · skip
          have cq34 := bI_0.mp cq34
          exact absurd cq34 (by rw [h4]; decide)
        · skip
          have cq34 := bI_n0.mp cq34
          refine lv_iconst (v := 1) hx hb dX5_child_37 rfl ?_
          refine lv_goto (tgt := 42) hx hb dX5_child_38 rfl ?_
          refine lv_istore (lv' := [(5, .int 1), (0, .ref x0), (1, .int xk), (2, .int xs), (3, .int xw), (4, .int xh)]) hx hb dX5_child_42 hl (by decide) rfl (fun ls hl => ?_)
          refine lv_iload hx hb dX5_child_44 (lv_at hl 0 rfl) ?_
          refine lv_if_ne (tgt := 56) hx hb dX5_child_46 rfl (fun cq46 => ?_) (fun cq46 => ?_)
          · skip
            refine lv_aload_n hx hb dX5_child_56 rfl (lv_at hl 1 rfl) ?_
            refine b_get E hw fw_X5_10 0 0 rfl rfl rfl dX5_child_57 ?_
            refine b_get E hw fw_X5_60 1 0 rfl rfl rfl dX5_child_60 ?_
            refine lv_iload_n hx hb dX5_child_63 rfl (lv_at hl 3 rfl) ?_
            refine b_callV (is := [2]) (wb := [tW G t0 wo mi bi la (nI n) ki se wd hu bt]) (wb' := [tW G t0 wo mi bi la (nI n) ki se wd hu bt]) (As := [.int xs]) (rest := []) (st1 := [.int (fi se xs n 0)]) (bs' := [xO G x0 s0 g0 k0 xt tr sg rf ab bl, oS G s0 t0 p0 n0, tW G t0 wo mi bi la (nI n) ki se wd hu bt, pW G p0 (nI o) (nI u) T]) E (c_X3_childAt l G t0 xs wo mi bi la n ki se wd hu bt (by omega)) vw_X5_79 hw [2] rfl 2 0 rfl rfl rfl rfl rfl rfl (flat1 _) (flat1 _) rfl hl.1 rfl rfl (Nat.le_of_ble_eq_true rfl) ⟨Nat.le_of_ble_eq_true rfl, Nat.le_of_ble_eq_true rfl⟩ (Nat.zero_le _) (Nat.zero_le _) dX5_child_64 rfl rfl (fun H locs hw => ?_)
            refine lv_iconst (v := -1) hx hb dX5_child_67 rfl ?_
            refine lv_icmp_eq (tgt := 78) hx hb dX5_child_68 rfl (fun cq68 => ?_) (fun cq68 => ?_)
            · skip
              refine lv_aload_n hx hb dX5_child_78 rfl (lv_at hl 1 rfl) ?_
              refine b_get E hw fw_X5_10 0 0 rfl rfl rfl dX5_child_79 ?_
              refine b_get E hw fw_X5_60 1 0 rfl rfl rfl dX5_child_82 ?_
              refine b_get E hw fw_X5_63 2 0 rfl rfl rfl dX5_child_85 ?_
              refine lv_bipush (v := 6) hx hb dX5_child_88 rfl ?_
              refine lv_icmp_lt (tgt := 100) hx hb dX5_child_90 rfl (fun cq90 => ?_) (fun cq90 => ?_)
              · skip
                have cq90 : n < 6 := (cv_lt (a := n) (b := 6) rfl rfl (by omega) (by omega)).mp cq90
                refine lv_aload_n hx hb dX5_child_100 rfl (lv_at hl 1 rfl) ?_
                refine b_get E hw fw_X5_10 0 0 rfl rfl rfl dX5_child_101 ?_
                refine b_get E hw fw_X5_82 1 0 rfl rfl rfl dX5_child_104 ?_
                refine b_callV (is := [3]) (wb := [pW G p0 (nI o) (nI u) T]) (wb' := [pW G p0 0 0 T]) (As := []) (rest := []) (st1 := []) (bs' := [xO G x0 s0 g0 k0 xt tr sg rf ab bl, oS G s0 t0 p0 n0, tW G t0 wo mi bi la (nI n) ki se wd hu bt, pW G p0 0 0 T]) E (c_X1_empty l G p0 (nI o) (nI u) T) vw_X5_86 hw [3] rfl 3 0 rfl rfl rfl rfl rfl rfl rfl rfl rfl hl.1 rfl rfl (Nat.le_of_ble_eq_true rfl) ⟨Nat.le_of_ble_eq_true rfl, Nat.le_of_ble_eq_true rfl⟩ (Nat.zero_le _) (Nat.zero_le _) dX5_child_107 rfl rfl (fun H locs hw => ?_)
                refine lv_aload_n hx hb dX5_child_110 rfl (lv_at hl 1 rfl) ?_
                refine b_get E hw fw_X5_10 0 0 rfl rfl rfl dX5_child_111 ?_
                refine b_get E hw fw_X5_60 1 0 rfl rfl rfl dX5_child_114 ?_
                refine lv_iload_n hx hb dX5_child_117 rfl (lv_at hl 2 rfl) ?_
                refine lv_iload_n hx hb dX5_child_118 rfl (lv_at hl 3 rfl) ?_
                refine lv_iload_n hx hb dX5_child_119 rfl (lv_at hl 4 rfl) ?_
                refine lv_iload hx hb dX5_child_120 (lv_at hl 5 rfl) ?_
                refine b_callV (is := [2]) (wb := [tW G t0 wo mi bi la (nI n) ki se wd hu bt]) (wb' := [tW G t0 wo mi bi la (nI (n + 1)) (upd ki n xk) (upd se n xs) (upd wd n xw) (upd hu n xh) (upd bt n 0)]) (As := [.int xk, .int xs, .int xw, .int xh]) (rest := []) (st1 := [.int (nI n)]) (bs' := [xO G x0 s0 g0 k0 xt tr sg rf ab bl, oS G s0 t0 p0 n0, tW G t0 wo mi bi la (nI (n + 1)) (upd ki n xk) (upd se n xs) (upd wd n xw) (upd hu n xh) (upd bt n 0), pW G p0 0 0 T]) E (c_X3_addChild l G t0 xk xs xw xh wo mi bi la n ki se wd hu bt (by omega)) vw_X5_91 hw [2] rfl 2 0 rfl rfl rfl rfl rfl rfl (flat1 _) (flat1 _) rfl hl.1 rfl rfl (Nat.le_of_ble_eq_true rfl) ⟨Nat.le_of_ble_eq_true rfl, Nat.le_of_ble_eq_true rfl⟩ (Nat.zero_le _) (Nat.zero_le _) dX5_child_122 rfl rfl (fun H locs hw => ?_)
                exact x_iret E hA rt hw dX5_child_125 (rfl) rfl
              · skip
                have cq90 : ¬ n < 6 := fun h => cq90 ((cv_lt (a := n) (b := 6) rfl rfl (by omega) (by omega)).mpr h)
                exact absurd h6 cq90
            · skip
              exact absurd h5 cq68
          · skip
            exact absurd cq46 (by decide)
set_option maxHeartbeats 1000000 in
set_option maxRecDepth 100000 in
theorem c_X5_type_bad (l : Launch) (G : GG) (x0 : Nat) (s0 : Nat) (g0 : Nat) (k0 : Nat) (xt : Nat → Nat) (tr : Nat → Nat) (sg : Nat) (rf : Nat) (x : Int32) (ab : Int64) (bl : Int64) (rfd : Nat → Int32) (h1 : inI x 0 127 = false) : CT l G yX5_type cX5_type 2 (some .int) 2 44 [.ref x0, .int x] ([xO G x0 s0 g0 k0 xt tr sg rf ab bl, aW G rf 3 rfd].flatten) (some (.int (-2))) ([xO G x0 s0 g0 k0 xt tr sg rf ab bl, aW G rf 3 (upd rfd 0 (rfd 0 + 1))].flatten) := by
  refine CT.mk (own := RX5) (la := [(0, .ref x0), (1, .int x)]) (by decide) rfl (Nat.le_of_ble_eq_true rfl) rfl ?_
  intro p e s m args below meth c A Q E hA hw rt ls hl
  have hx := E.1
  have hb := E.2.1
  refine lv_iload_n hx hb dX5_type_0 rfl (lv_at hl 1 rfl) ?_
  refine lv_iconst (v := 0) hx hb dX5_type_1 rfl ?_
  refine lv_bipush (v := 127) hx hb dX5_type_2 rfl ?_
  refine b_callS (is := []) (wb := []) (wb' := []) (As := [.int x, .int 0, .int 127]) (rest := []) (st1 := [.int (bI (inI x 0 127))]) (bs' := [xO G x0 s0 g0 k0 xt tr sg rf ab bl, aW G rf 3 rfd]) E (c_X5_within l G x 0 127) sw_X5_75 hw [] rfl rfl rfl rfl rfl rfl hl.1 rfl rfl (Nat.le_of_ble_eq_true rfl) ⟨Nat.le_of_ble_eq_true rfl, Nat.le_of_ble_eq_true rfl⟩ (Nat.zero_le _) (Nat.zero_le _) dX5_type_4 rfl rfl (fun H locs hw => ?_)
  refine lv_if_ne (tgt := 17) hx hb dX5_type_7 rfl (fun cq7 => ?_) (fun cq7 => ?_)
  · skip
    have cq7 := bI_n0.mp cq7
    exact absurd cq7 (by rw [h1]; decide)
  · skip
    have cq7 := bI_0.mp cq7
    refine lv_aload_n hx hb dX5_type_10 rfl (lv_at hl 0 rfl) ?_
    refine lv_bipush (v := -2) hx hb dX5_type_11 rfl ?_
    refine b_callV (is := [0, 1]) (wb := [xO G x0 s0 g0 k0 xt tr sg rf ab bl, aW G rf 3 rfd]) (wb' := [xO G x0 s0 g0 k0 xt tr sg rf ab bl, aW G rf 3 (upd rfd 0 (rfd 0 + 1))]) (As := [.int (-2)]) (rest := []) (st1 := [.int (-2)]) (bs' := [xO G x0 s0 g0 k0 xt tr sg rf ab bl, aW G rf 3 (upd rfd 0 (rfd 0 + 1))]) E (c_X5_refuse l G x0 s0 g0 k0 xt tr sg rf (-2) ab bl rfd 0 (by omega) (by decide)) vw_X5_56 hw [0, 1] rfl 0 0 rfl rfl rfl rfl rfl rfl rfl rfl rfl hl.1 rfl rfl (Nat.le_of_ble_eq_true rfl) ⟨Nat.le_of_ble_eq_true rfl, Nat.le_of_ble_eq_true rfl⟩ (Nat.zero_le _) (Nat.zero_le _) dX5_type_13 rfl rfl (fun H locs hw => ?_)
    exact x_iret E hA rt hw dX5_type_16 (rfl) rfl
set_option maxHeartbeats 1000000 in
set_option maxRecDepth 100000 in
theorem c_X5_type_full (l : Launch) (G : GG) (x0 : Nat) (s0 : Nat) (g0 : Nat) (k0 : Nat) (xt : Nat → Nat) (tr : Nat → Nat) (sg : Nat) (rf : Nat) (x : Int32) (ab : Int64) (bl : Int64) (f : Nat → Int32) (z : Nat) (pl : Int32) (sa : Int32) (tk : Int32) (vl : Int32) (rfd : Nat → Int32) (h1 : inI x 0 127 = true) (h2 : 150 ≤ z) (h3 : z ≤ 150) : CT l G yX5_type cX5_type 2 (some .int) 2 44 [.ref x0, .int x] ([xO G x0 s0 g0 k0 xt tr sg rf ab bl, xT G xt f (nI z) pl sa tk vl, aW G rf 3 rfd].flatten) (some (.int (-4))) ([xO G x0 s0 g0 k0 xt tr sg rf ab bl, xT G xt f (nI z) pl sa tk vl, aW G rf 3 (upd rfd 2 (rfd 2 + 1))].flatten) := by
  refine CT.mk (own := RX5) (la := [(0, .ref x0), (1, .int x)]) (by decide) rfl (Nat.le_of_ble_eq_true rfl) rfl ?_
  intro p e s m args below meth c A Q E hA hw rt ls hl
  have hx := E.1
  have hb := E.2.1
  refine lv_iload_n hx hb dX5_type_0 rfl (lv_at hl 1 rfl) ?_
  refine lv_iconst (v := 0) hx hb dX5_type_1 rfl ?_
  refine lv_bipush (v := 127) hx hb dX5_type_2 rfl ?_
  refine b_callS (is := []) (wb := []) (wb' := []) (As := [.int x, .int 0, .int 127]) (rest := []) (st1 := [.int (bI (inI x 0 127))]) (bs' := [xO G x0 s0 g0 k0 xt tr sg rf ab bl, xT G xt f (nI z) pl sa tk vl, aW G rf 3 rfd]) E (c_X5_within l G x 0 127) sw_X5_75 hw [] rfl rfl rfl rfl rfl rfl hl.1 rfl rfl (Nat.le_of_ble_eq_true rfl) ⟨Nat.le_of_ble_eq_true rfl, Nat.le_of_ble_eq_true rfl⟩ (Nat.zero_le _) (Nat.zero_le _) dX5_type_4 rfl rfl (fun H locs hw => ?_)
  refine lv_if_ne (tgt := 17) hx hb dX5_type_7 rfl (fun cq7 => ?_) (fun cq7 => ?_)
  · skip
    have cq7 := bI_n0.mp cq7
    refine lv_aload_n hx hb dX5_type_17 rfl (lv_at hl 0 rfl) ?_
    refine b_get E hw fw_X5_27 0 0 rfl rfl rfl dX5_type_18 ?_
    refine b_get E hw fw_X5_95 1 0 rfl rfl rfl dX5_type_21 ?_
    refine lv_sipush (v := 150) hx hb dX5_type_24 rfl ?_
    refine lv_icmp_lt (tgt := 37) hx hb dX5_type_27 rfl (fun cq27 => ?_) (fun cq27 => ?_)
    · skip
      have cq27 : z < 150 := (cv_lt (a := z) (b := 150) rfl rfl (by omega) (by omega)).mp cq27
      exact absurd cq27 (by omega)
    · skip
      have cq27 : ¬ z < 150 := fun h => cq27 ((cv_lt (a := z) (b := 150) rfl rfl (by omega) (by omega)).mpr h)
      refine lv_aload_n hx hb dX5_type_30 rfl (lv_at hl 0 rfl) ?_
      refine lv_bipush (v := -4) hx hb dX5_type_31 rfl ?_
      refine b_callV (is := [0, 2]) (wb := [xO G x0 s0 g0 k0 xt tr sg rf ab bl, aW G rf 3 rfd]) (wb' := [xO G x0 s0 g0 k0 xt tr sg rf ab bl, aW G rf 3 (upd rfd 2 (rfd 2 + 1))]) (As := [.int (-4)]) (rest := []) (st1 := [.int (-4)]) (bs' := [xO G x0 s0 g0 k0 xt tr sg rf ab bl, xT G xt f (nI z) pl sa tk vl, aW G rf 3 (upd rfd 2 (rfd 2 + 1))]) E (c_X5_refuse l G x0 s0 g0 k0 xt tr sg rf (-4) ab bl rfd 2 (by omega) (by decide)) vw_X5_56 hw [0, 2] rfl 0 0 rfl rfl rfl rfl rfl rfl rfl rfl rfl hl.1 rfl rfl (Nat.le_of_ble_eq_true rfl) ⟨Nat.le_of_ble_eq_true rfl, Nat.le_of_ble_eq_true rfl⟩ (Nat.zero_le _) (Nat.zero_le _) dX5_type_33 rfl rfl (fun H locs hw => ?_)
      exact x_iret E hA rt hw dX5_type_36 (rfl) rfl
  · skip
    have cq7 := bI_0.mp cq7
    exact absurd cq7 (by rw [h1]; decide)
set_option maxHeartbeats 1000000 in
set_option maxRecDepth 100000 in
theorem c_X5_type_ok (l : Launch) (G : GG) (x0 : Nat) (s0 : Nat) (g0 : Nat) (k0 : Nat) (xt : Nat → Nat) (tr : Nat → Nat) (sg : Nat) (rf : Nat) (x : Int32) (ab : Int64) (bl : Int64) (f : Nat → Int32) (z : Nat) (pl : Int32) (sa : Int32) (tk : Int32) (vl : Int32) (h1 : inI x 0 127 = true) (h2 : z < 150) : CT l G yX5_type cX5_type 2 (some .int) 1 22 [.ref x0, .int x] ([xO G x0 s0 g0 k0 xt tr sg rf ab bl, xT G xt f (nI z) pl sa tk vl].flatten) (some (.int (nI (z + 1)))) ([xO G x0 s0 g0 k0 xt tr sg rf ab bl, xT G xt (upd f z x.toInt8.toInt32.toInt8.toInt32) (nI (z + 1)) pl sa tk vl].flatten) := by
  refine CT.mk (own := RX5) (la := [(0, .ref x0), (1, .int x)]) (by decide) rfl (Nat.le_of_ble_eq_true rfl) rfl ?_
  intro p e s m args below meth c A Q E hA hw rt ls hl
  have hx := E.1
  have hb := E.2.1
  refine lv_iload_n hx hb dX5_type_0 rfl (lv_at hl 1 rfl) ?_
  refine lv_iconst (v := 0) hx hb dX5_type_1 rfl ?_
  refine lv_bipush (v := 127) hx hb dX5_type_2 rfl ?_
  refine b_callS (is := []) (wb := []) (wb' := []) (As := [.int x, .int 0, .int 127]) (rest := []) (st1 := [.int (bI (inI x 0 127))]) (bs' := [xO G x0 s0 g0 k0 xt tr sg rf ab bl, xT G xt f (nI z) pl sa tk vl]) E (c_X5_within l G x 0 127) sw_X5_75 hw [] rfl rfl rfl rfl rfl rfl hl.1 rfl rfl (Nat.le_of_ble_eq_true rfl) ⟨Nat.le_of_ble_eq_true rfl, Nat.le_of_ble_eq_true rfl⟩ (Nat.zero_le _) (Nat.zero_le _) dX5_type_4 rfl rfl (fun H locs hw => ?_)
  refine lv_if_ne (tgt := 17) hx hb dX5_type_7 rfl (fun cq7 => ?_) (fun cq7 => ?_)
  · skip
    have cq7 := bI_n0.mp cq7
    refine lv_aload_n hx hb dX5_type_17 rfl (lv_at hl 0 rfl) ?_
    refine b_get E hw fw_X5_27 0 0 rfl rfl rfl dX5_type_18 ?_
    refine b_get E hw fw_X5_95 1 0 rfl rfl rfl dX5_type_21 ?_
    refine lv_sipush (v := 150) hx hb dX5_type_24 rfl ?_
    refine lv_icmp_lt (tgt := 37) hx hb dX5_type_27 rfl (fun cq27 => ?_) (fun cq27 => ?_)
    · skip
      have cq27 : z < 150 := (cv_lt (a := z) (b := 150) rfl rfl (by omega) (by omega)).mp cq27
      refine lv_aload_n hx hb dX5_type_37 rfl (lv_at hl 0 rfl) ?_
      refine b_get E hw fw_X5_27 0 0 rfl rfl rfl dX5_type_38 ?_
      refine lv_iload_n hx hb dX5_type_41 rfl (lv_at hl 1 rfl) ?_
      refine b_callV (is := [1]) (wb := [xT G xt f (nI z) pl sa tk vl]) (wb' := [xT G xt (upd f z x.toInt8.toInt32.toInt8.toInt32) (nI (z + 1)) pl sa tk vl]) (As := [.int x]) (rest := []) (st1 := [.int (nI (z + 1))]) (bs' := [xO G x0 s0 g0 k0 xt tr sg rf ab bl, xT G xt (upd f z x.toInt8.toInt32.toInt8.toInt32) (nI (z + 1)) pl sa tk vl]) E (c_X4_append l G xt x f z pl sa tk vl (by omega)) vw_X5_98 hw [1] rfl 1 0 rfl rfl rfl rfl rfl rfl (flat1 _) (flat1 _) rfl hl.1 rfl rfl (Nat.le_of_ble_eq_true rfl) ⟨Nat.le_of_ble_eq_true rfl, Nat.le_of_ble_eq_true rfl⟩ (Nat.zero_le _) (Nat.zero_le _) dX5_type_42 rfl rfl (fun H locs hw => ?_)
      exact x_iret E hA rt hw dX5_type_45 (rfl) rfl
    · skip
      have cq27 : ¬ z < 150 := fun h => cq27 ((cv_lt (a := z) (b := 150) rfl rfl (by omega) (by omega)).mpr h)
      exact absurd h2 cq27
  · skip
    have cq7 := bI_0.mp cq7
    exact absurd cq7 (by rw [h1]; decide)
set_option maxHeartbeats 1000000 in
set_option maxRecDepth 100000 in
theorem c_X5_clear (l : Launch) (G : GG) (x0 : Nat) (s0 : Nat) (g0 : Nat) (k0 : Nat) (xt : Nat → Nat) (tr : Nat → Nat) (sg : Nat) (rf : Nat) (ab : Int64) (bl : Int64) (f : Nat → Int32) (z : Nat) (pl : Int32) (sa : Int32) (tk : Int32) (vl : Int32) : CT l G yX5_clear cX5_clear 2 (some .int) 0 0 [.ref x0] ([xO G x0 s0 g0 k0 xt tr sg rf ab bl, xT G xt f (nI z) pl sa tk vl].flatten) (some (.int (nI z))) ([xO G x0 s0 g0 k0 xt tr sg rf ab bl, xT G xt f 0 pl sa tk vl].flatten) := by
  refine CT.mk (own := RX5) (la := [(0, .ref x0)]) (by decide) rfl (Nat.le_of_ble_eq_true rfl) rfl ?_
  intro p e s m args below meth c A Q E hA hw rt ls hl
  have hx := E.1
  have hb := E.2.1
  refine lv_aload_n hx hb dX5_clear_0 rfl (lv_at hl 0 rfl) ?_
  refine b_get E hw fw_X5_27 0 0 rfl rfl rfl dX5_clear_1 ?_
  refine b_get E hw fw_X5_95 1 0 rfl rfl rfl dX5_clear_4 ?_
  refine lv_istore_n (lv' := [(1, .int (nI z)), (0, .ref x0)]) hx hb dX5_clear_7 rfl hl (by decide) rfl (fun ls hl => ?_)
  refine lv_aload_n hx hb dX5_clear_8 rfl (lv_at hl 1 rfl) ?_
  refine b_get E hw fw_X5_27 0 0 rfl rfl rfl dX5_clear_9 ?_
  refine lv_iconst (v := 0) hx hb dX5_clear_12 rfl ?_
  refine b_put (bs' := [xO G x0 s0 g0 k0 xt tr sg rf ab bl, xT G xt f 0 pl sa tk vl]) (ty := .int) E hw fw_X5_95 1 0 rfl rfl rfl rfl (by decide +kernel) rfl rfl (Nat.le_of_ble_eq_true rfl) dX5_clear_13 rfl (fun H locs hw => ?_)
  refine lv_iload_n hx hb dX5_clear_16 rfl (lv_at hl 0 rfl) ?_
  exact x_iret E hA rt hw dX5_clear_17 (rfl) rfl

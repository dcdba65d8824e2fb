set_option maxHeartbeats 1000000 in
set_option maxRecDepth 100000 in
theorem c_X5_seated_bad (l : Launch) (G : GG) (x0 : Nat) (s0 : Nat) (t0 : Nat → Nat) (p0 : Nat → Nat) (n0 : Nat → Nat) (g0 : Nat) (k0 : Nat) (xt : Nat → Nat) (tr : Nat → Nat) (sg : Nat) (rf : Nat) (x : Int32) (ab : Int64) (bl : Int64) (wo : Int32) (mi : Int32) (bi : Int32) (la : Int32) (n : Nat) (ki : Nat → Int32) (se : Nat → Int32) (wd : Nat → Int32) (hu : Nat → Int32) (bt : Nat → Int32) (rfd : Nat → Int32) (h1 : ¬ x = -1) (h2 : inI x 0 (nI n - 1) = false) : CT l G yX5_seated cX5_seated 4 (some .int) 2 44 [.ref x0, .int x] ([xO G x0 s0 g0 k0 xt tr sg rf ab bl, oS G s0 t0 p0 n0, tW G t0 wo mi bi la (nI n) ki se wd hu bt, aW G rf 3 rfd].flatten) (some (.int (-10))) ([xO G x0 s0 g0 k0 xt tr sg rf ab bl, oS G s0 t0 p0 n0, tW G t0 wo mi bi la (nI n) ki se wd hu bt, aW G rf 3 (upd rfd 0 (rfd 0 + 1))].flatten) := by
  refine CT.mk (own := RX5) (la := [(0, .ref x0), (1, .int x)]) (by decide) rfl (Nat.le_of_ble_eq_true rfl) rfl ?_
  intro p e s m args below meth c A Q E hA hw rt ls hl
  have hx := E.1
  have hb := E.2.1
  refine lv_iload_n hx hb dX5_seated_0 rfl (lv_at hl 1 rfl) ?_
  refine lv_iconst (v := -1) hx hb dX5_seated_1 rfl ?_
  refine lv_icmp_eq (tgt := 23) hx hb dX5_seated_2 rfl (fun cq2 => ?_) (fun cq2 => ?_)
  · skip
    exact (h1 cq2).elim
  · skip
    refine lv_aload_n hx hb dX5_seated_5 rfl (lv_at hl 0 rfl) ?_
    refine lv_iload_n hx hb dX5_seated_6 rfl (lv_at hl 1 rfl) ?_
    refine b_callV (is := [0, 1, 2]) (wb := [xO G x0 s0 g0 k0 xt tr sg rf ab bl, oS G s0 t0 p0 n0, tW G t0 wo mi bi la (nI n) ki se wd hu bt]) (wb' := [xO G x0 s0 g0 k0 xt tr sg rf ab bl, oS G s0 t0 p0 n0, tW G t0 wo mi bi la (nI n) ki se wd hu bt]) (As := [.int x]) (rest := []) (st1 := [.int (bI (inI x 0 (nI n - 1)))]) (bs' := [xO G x0 s0 g0 k0 xt tr sg rf ab bl, oS G s0 t0 p0 n0, tW G t0 wo mi bi la (nI n) ki se wd hu bt, aW G rf 3 rfd]) E (c_X5_isChild l G x0 s0 t0 p0 n0 g0 k0 xt tr sg rf x ab bl wo mi bi la n ki se wd hu bt) vw_X5_120 hw [0, 1, 2] rfl 0 0 rfl rfl rfl rfl rfl rfl rfl rfl rfl hl.1 rfl rfl (Nat.le_of_ble_eq_true rfl) ⟨Nat.le_of_ble_eq_true rfl, Nat.le_of_ble_eq_true rfl⟩ (Nat.zero_le _) (Nat.zero_le _) dX5_seated_7 rfl rfl (fun H locs hw => ?_)
    refine lv_if_ne (tgt := 23) hx hb dX5_seated_10 rfl (fun cq10 => ?_) (fun cq10 => ?_)
    · skip
      have cq10 := bI_n0.mp cq10
      exact absurd cq10 (by rw [h2]; decide)
    · skip
      have cq10 := bI_0.mp cq10
      refine lv_aload_n hx hb dX5_seated_13 rfl (lv_at hl 0 rfl) ?_
      refine lv_bipush (v := -2) hx hb dX5_seated_14 rfl ?_
      refine b_callV (is := [0, 3]) (wb := [xO G x0 s0 g0 k0 xt tr sg rf ab bl, aW G rf 3 rfd]) (wb' := [xO G x0 s0 g0 k0 xt tr sg rf ab bl, aW G rf 3 (upd rfd 0 (rfd 0 + 1))]) (As := [.int (-2)]) (rest := []) (st1 := [.int (-2)]) (bs' := [xO G x0 s0 g0 k0 xt tr sg rf ab bl, oS G s0 t0 p0 n0, tW G t0 wo mi bi la (nI n) ki se wd hu bt, aW G rf 3 (upd rfd 0 (rfd 0 + 1))]) E (c_X5_refuse l G x0 s0 g0 k0 xt tr sg rf (-2) ab bl rfd 0 (by omega) (by decide)) vw_X5_56 hw [0, 3] rfl 0 0 rfl rfl rfl rfl rfl rfl rfl rfl rfl hl.1 rfl rfl (Nat.le_of_ble_eq_true rfl) ⟨Nat.le_of_ble_eq_true rfl, Nat.le_of_ble_eq_true rfl⟩ (Nat.zero_le _) (Nat.zero_le _) dX5_seated_16 rfl rfl (fun H locs hw => ?_)
      refine lv_pop hx hb dX5_seated_19 rfl ?_
      refine lv_bipush (v := -10) hx hb dX5_seated_20 rfl ?_
      exact x_iret E hA rt hw dX5_seated_22 (rfl) rfl
set_option maxHeartbeats 1000000 in
set_option maxRecDepth 100000 in
theorem c_X5_seated_all (l : Launch) (G : GG) (x0 : Nat) (s0 : Nat) (t0 : Nat → Nat) (p0 : Nat → Nat) (n0 : Nat → Nat) (g0 : Nat) (k0 : Nat) (xt : Nat → Nat) (tr : Nat → Nat) (sg : Nat) (rf : Nat) (x : Int32) (ab : Int64) (bl : Int64) (wo : Int32) (mi : Int32) (bi : Int32) (la : Int32) (n : Nat) (ki : Nat → Int32) (se : Nat → Int32) (wd : Nat → Int32) (hu : Nat → Int32) (bt : Nat → Int32) (wo1 : Int32) (mi1 : Int32) (bi1 : Int32) (la1 : Int32) (ch1 : Int32) (ki1 : Nat → Int32) (se1 : Nat → Int32) (wd1 : Nat → Int32) (hu1 : Nat → Int32) (bt1 : Nat → Int32) (sgf : Nat → Int32) (Z : Ss) (hn : n ≤ 6) (hZ : srC wo la n ki wd hu bt 7 0 (nI n + 1) se sgf = Z) (h1 : x = -1) : CT l G yX5_seated cX5_seated 4 (some .int) 11 276 [.ref x0, .int x] ([xO G x0 s0 g0 k0 xt tr sg rf ab bl, oS G s0 t0 p0 n0, tW G t0 wo mi bi la (nI n) ki se wd hu bt, tW G tr wo1 mi1 bi1 la1 ch1 ki1 se1 wd1 hu1 bt1, aW G sg 6 sgf].flatten) (some (.int Z.1)) ([xO G x0 s0 g0 k0 xt tr sg rf ab bl, oS G s0 t0 p0 n0, tW G t0 wo mi bi la (nI n) ki se wd hu bt, tW G tr wo mi bi la Z.2.1 ki Z.2.2.1 wd hu bt, aW G sg 6 Z.2.2.2].flatten) := by
  refine CT.mk (own := RX5) (la := [(0, .ref x0), (1, .int x)]) (by decide) rfl (Nat.le_of_ble_eq_true rfl) rfl ?_
  intro p e s m args below meth c A Q E hA hw rt ls hl
  have hx := E.1
  have hb := E.2.1
  refine lv_iload_n hx hb dX5_seated_0 rfl (lv_at hl 1 rfl) ?_
  refine lv_iconst (v := -1) hx hb dX5_seated_1 rfl ?_
  refine lv_icmp_eq (tgt := 23) hx hb dX5_seated_2 rfl (fun cq2 => ?_) (fun cq2 => ?_)
  · skip
    refine lv_aload_n hx hb dX5_seated_23 rfl (lv_at hl 0 rfl) ?_
    refine b_get E hw fw_X5_10 0 0 rfl rfl rfl dX5_seated_24 ?_
    refine b_get E hw fw_X5_60 1 0 rfl rfl rfl dX5_seated_27 ?_
    refine b_get E hw fw_X5_63 2 0 rfl rfl rfl dX5_seated_30 ?_
    refine lv_istore_n (lv' := [(2, .int (nI n)), (0, .ref x0), (1, .int x)]) hx hb dX5_seated_33 rfl hl (by decide) rfl (fun ls hl => ?_)
    refine lv_aload_n hx hb dX5_seated_34 rfl (lv_at hl 1 rfl) ?_
    refine b_get E hw fw_X5_34 0 0 rfl rfl rfl dX5_seated_35 ?_
    refine lv_aload_n hx hb dX5_seated_38 rfl (lv_at hl 1 rfl) ?_
    refine b_get E hw fw_X5_10 0 0 rfl rfl rfl dX5_seated_39 ?_
    refine b_get E hw fw_X5_60 1 0 rfl rfl rfl dX5_seated_42 ?_
    refine b_callV (is := [3, 2]) (wb := [tW G tr wo1 mi1 bi1 la1 ch1 ki1 se1 wd1 hu1 bt1, tW G t0 wo mi bi la (nI n) ki se wd hu bt]) (wb' := [tW G tr wo mi bi la (nI n) ki se wd hu bt, tW G t0 wo mi bi la (nI n) ki se wd hu bt]) (As := [.ref (t0 0)]) (rest := []) (st1 := []) (bs' := [xO G x0 s0 g0 k0 xt tr sg rf ab bl, oS G s0 t0 p0 n0, tW G t0 wo mi bi la (nI n) ki se wd hu bt, tW G tr wo mi bi la (nI n) ki se wd hu bt, aW G sg 6 sgf]) E (c_X3_copyFrom l G tr t0 wo1 mi1 bi1 la1 ch1 ki1 se1 wd1 hu1 bt1 wo mi bi la (nI n) ki se wd hu bt) vw_X5_154 hw [3, 2] rfl 3 0 rfl rfl rfl rfl rfl rfl (flat2 _ _) (flat2 _ _) rfl hl.1 rfl rfl (Nat.le_of_ble_eq_true rfl) ⟨Nat.le_of_ble_eq_true rfl, Nat.le_of_ble_eq_true rfl⟩ (Nat.zero_le _) (Nat.zero_le _) dX5_seated_45 rfl rfl (fun H locs hw => ?_)
    refine lv_aload_n hx hb dX5_seated_48 rfl (lv_at hl 1 rfl) ?_
    refine b_get E hw fw_X5_34 0 0 rfl rfl rfl dX5_seated_49 ?_
    refine lv_iconst (v := 0) hx hb dX5_seated_52 rfl ?_
    refine lv_iload_n hx hb dX5_seated_53 rfl (lv_at hl 0 rfl) ?_
    refine lv_iload_n hx hb dX5_seated_54 rfl (lv_at hl 0 rfl) ?_
    refine lv_iconst (v := 1) hx hb dX5_seated_55 rfl ?_
    refine lv_iadd hx hb dX5_seated_56 ?_
    refine lv_aload_n hx hb dX5_seated_57 rfl (lv_at hl 1 rfl) ?_
    refine b_get E hw fw_X5_38 0 0 rfl rfl rfl dX5_seated_58 ?_
    refine b_callS (is := [3, 4]) (wb := [tW G tr wo mi bi la (nI n) ki se wd hu bt, aW G sg 6 sgf]) (wb' := [tW G tr wo mi bi la Z.2.1 ki Z.2.2.1 wd hu bt, aW G sg 6 Z.2.2.2]) (As := [.ref (tr 0), .int 0, .int (nI n), .int ((nI n) + 1), .ref sg]) (rest := []) (st1 := [.int Z.1]) (bs' := [xO G x0 s0 g0 k0 xt tr sg rf ab bl, oS G s0 t0 p0 n0, tW G t0 wo mi bi la (nI n) ki se wd hu bt, tW G tr wo mi bi la Z.2.1 ki Z.2.2.1 wd hu bt, aW G sg 6 Z.2.2.2]) E (c_X5_seatRest_6 l G tr sg 0 0 (rfl) (nI n) n (rfl) ((nI n) + 1) wo mi bi la (nI n) ki se wd hu bt sgf Z (by omega) (by omega) (by omega) (hZ)) sw_X5_169 hw [3, 4] rfl rfl rfl (flat2 _ _) (flat2 _ _) rfl hl.1 rfl rfl (Nat.le_of_ble_eq_true rfl) ⟨Nat.le_of_ble_eq_true rfl, Nat.le_of_ble_eq_true rfl⟩ (Nat.zero_le _) (Nat.zero_le _) dX5_seated_61 rfl rfl (fun H locs hw => ?_)
    refine lv_istore_n (lv' := [(3, .int Z.1), (2, .int (nI n)), (0, .ref x0), (1, .int x)]) hx hb dX5_seated_64 rfl hl (by decide) rfl (fun ls hl => ?_)
    refine lv_iload_n hx hb dX5_seated_65 rfl (lv_at hl 3 rfl) ?_
    refine lv_iconst (v := -1) hx hb dX5_seated_66 rfl ?_
    refine lv_icmp_ne (tgt := 74) hx hb dX5_seated_67 rfl (fun cq67 => ?_) (fun cq67 => ?_)
    · skip
      exact (cq67 h1).elim
    · skip
      refine lv_iload_n hx hb dX5_seated_70 rfl (lv_at hl 0 rfl) ?_
      refine lv_goto (tgt := 80) hx hb dX5_seated_71 rfl ?_
      exact x_iret E hA rt hw dX5_seated_80 (rfl) rfl
  · skip
    exact (cq2 h1).elim
set_option maxHeartbeats 1000000 in
set_option maxRecDepth 100000 in
theorem c_X5_seated_one (l : Launch) (G : GG) (x0 : Nat) (s0 : Nat) (t0 : Nat → Nat) (p0 : Nat → Nat) (n0 : Nat → Nat) (g0 : Nat) (k0 : Nat) (xt : Nat → Nat) (tr : Nat → Nat) (sg : Nat) (rf : Nat) (x : Int32) (k : Nat) (hv_x : x = nI k) (ab : Int64) (bl : Int64) (wo : Int32) (mi : Int32) (bi : Int32) (la : Int32) (n : Nat) (ki : Nat → Int32) (se : Nat → Int32) (wd : Nat → Int32) (hu : Nat → Int32) (bt : Nat → Int32) (wo1 : Int32) (mi1 : Int32) (bi1 : Int32) (la1 : Int32) (ch1 : Int32) (ki1 : Nat → Int32) (se1 : Nat → Int32) (wd1 : Nat → Int32) (hu1 : Nat → Int32) (bt1 : Nat → Int32) (sgf : Nat → Int32) (Z : Ss) (hn : n ≤ 6) (hZ : srC wo la n ki wd hu bt 7 0 (nI n + 1) se sgf = Z) (h1 : ¬ x = -1) (h2 : inI x 0 (nI n - 1) = true) (hk : k < n) : CT l G yX5_seated cX5_seated 4 (some .int) 11 276 [.ref x0, .int x] ([xO G x0 s0 g0 k0 xt tr sg rf ab bl, oS G s0 t0 p0 n0, tW G t0 wo mi bi la (nI n) ki se wd hu bt, tW G tr wo1 mi1 bi1 la1 ch1 ki1 se1 wd1 hu1 bt1, aW G sg 6 sgf].flatten) (some (.int (Z.2.2.2 k))) ([xO G x0 s0 g0 k0 xt tr sg rf ab bl, oS G s0 t0 p0 n0, tW G t0 wo mi bi la (nI n) ki se wd hu bt, tW G tr wo mi bi la Z.2.1 ki Z.2.2.1 wd hu bt, aW G sg 6 Z.2.2.2].flatten) := by
  refine CT.mk (own := RX5) (la := [(0, .ref x0), (1, .int x)]) (by decide) rfl (Nat.le_of_ble_eq_true rfl) rfl ?_
  intro p e s m args below meth c A Q E hA hw rt ls hl
  have hx := E.1
  have hb := E.2.1
  refine lv_iload_n hx hb dX5_seated_0 rfl (lv_at hl 1 rfl) ?_
  refine lv_iconst (v := -1) hx hb dX5_seated_1 rfl ?_
  refine lv_icmp_eq (tgt := 23) hx hb dX5_seated_2 rfl (fun cq2 => ?_) (fun cq2 => ?_)
  · skip
    exact (h1 cq2).elim
  · skip
    refine lv_aload_n hx hb dX5_seated_5 rfl (lv_at hl 0 rfl) ?_
    refine lv_iload_n hx hb dX5_seated_6 rfl (lv_at hl 1 rfl) ?_
    refine b_callV (is := [0, 1, 2]) (wb := [xO G x0 s0 g0 k0 xt tr sg rf ab bl, oS G s0 t0 p0 n0, tW G t0 wo mi bi la (nI n) ki se wd hu bt]) (wb' := [xO G x0 s0 g0 k0 xt tr sg rf ab bl, oS G s0 t0 p0 n0, tW G t0 wo mi bi la (nI n) ki se wd hu bt]) (As := [.int x]) (rest := []) (st1 := [.int (bI (inI x 0 (nI n - 1)))]) (bs' := [xO G x0 s0 g0 k0 xt tr sg rf ab bl, oS G s0 t0 p0 n0, tW G t0 wo mi bi la (nI n) ki se wd hu bt, tW G tr wo1 mi1 bi1 la1 ch1 ki1 se1 wd1 hu1 bt1, aW G sg 6 sgf]) E (c_X5_isChild l G x0 s0 t0 p0 n0 g0 k0 xt tr sg rf x ab bl wo mi bi la n ki se wd hu bt) vw_X5_120 hw [0, 1, 2] rfl 0 0 rfl rfl rfl rfl rfl rfl rfl rfl rfl hl.1 rfl rfl (Nat.le_of_ble_eq_true rfl) ⟨Nat.le_of_ble_eq_true rfl, Nat.le_of_ble_eq_true rfl⟩ (Nat.zero_le _) (Nat.zero_le _) dX5_seated_7 rfl rfl (fun H locs hw => ?_)
    refine lv_if_ne (tgt := 23) hx hb dX5_seated_10 rfl (fun cq10 => ?_) (fun cq10 => ?_)
    · skip
      have cq10 := bI_n0.mp cq10
      refine lv_aload_n hx hb dX5_seated_23 rfl (lv_at hl 0 rfl) ?_
      refine b_get E hw fw_X5_10 0 0 rfl rfl rfl dX5_seated_24 ?_
      refine b_get E hw fw_X5_60 1 0 rfl rfl rfl dX5_seated_27 ?_
      refine b_get E hw fw_X5_63 2 0 rfl rfl rfl dX5_seated_30 ?_
      refine lv_istore_n (lv' := [(2, .int (nI n)), (0, .ref x0), (1, .int x)]) hx hb dX5_seated_33 rfl hl (by decide) rfl (fun ls hl => ?_)
      refine lv_aload_n hx hb dX5_seated_34 rfl (lv_at hl 1 rfl) ?_
      refine b_get E hw fw_X5_34 0 0 rfl rfl rfl dX5_seated_35 ?_
      refine lv_aload_n hx hb dX5_seated_38 rfl (lv_at hl 1 rfl) ?_
      refine b_get E hw fw_X5_10 0 0 rfl rfl rfl dX5_seated_39 ?_
      refine b_get E hw fw_X5_60 1 0 rfl rfl rfl dX5_seated_42 ?_
      refine b_callV (is := [3, 2]) (wb := [tW G tr wo1 mi1 bi1 la1 ch1 ki1 se1 wd1 hu1 bt1, tW G t0 wo mi bi la (nI n) ki se wd hu bt]) (wb' := [tW G tr wo mi bi la (nI n) ki se wd hu bt, tW G t0 wo mi bi la (nI n) ki se wd hu bt]) (As := [.ref (t0 0)]) (rest := []) (st1 := []) (bs' := [xO G x0 s0 g0 k0 xt tr sg rf ab bl, oS G s0 t0 p0 n0, tW G t0 wo mi bi la (nI n) ki se wd hu bt, tW G tr wo mi bi la (nI n) ki se wd hu bt, aW G sg 6 sgf]) E (c_X3_copyFrom l G tr t0 wo1 mi1 bi1 la1 ch1 ki1 se1 wd1 hu1 bt1 wo mi bi la (nI n) ki se wd hu bt) vw_X5_154 hw [3, 2] rfl 3 0 rfl rfl rfl rfl rfl rfl (flat2 _ _) (flat2 _ _) rfl hl.1 rfl rfl (Nat.le_of_ble_eq_true rfl) ⟨Nat.le_of_ble_eq_true rfl, Nat.le_of_ble_eq_true rfl⟩ (Nat.zero_le _) (Nat.zero_le _) dX5_seated_45 rfl rfl (fun H locs hw => ?_)
      refine lv_aload_n hx hb dX5_seated_48 rfl (lv_at hl 1 rfl) ?_
      refine b_get E hw fw_X5_34 0 0 rfl rfl rfl dX5_seated_49 ?_
      refine lv_iconst (v := 0) hx hb dX5_seated_52 rfl ?_
      refine lv_iload_n hx hb dX5_seated_53 rfl (lv_at hl 0 rfl) ?_
      refine lv_iload_n hx hb dX5_seated_54 rfl (lv_at hl 0 rfl) ?_
      refine lv_iconst (v := 1) hx hb dX5_seated_55 rfl ?_
      refine lv_iadd hx hb dX5_seated_56 ?_
      refine lv_aload_n hx hb dX5_seated_57 rfl (lv_at hl 1 rfl) ?_
      refine b_get E hw fw_X5_38 0 0 rfl rfl rfl dX5_seated_58 ?_
      refine b_callS (is := [3, 4]) (wb := [tW G tr wo mi bi la (nI n) ki se wd hu bt, aW G sg 6 sgf]) (wb' := [tW G tr wo mi bi la Z.2.1 ki Z.2.2.1 wd hu bt, aW G sg 6 Z.2.2.2]) (As := [.ref (tr 0), .int 0, .int (nI n), .int ((nI n) + 1), .ref sg]) (rest := []) (st1 := [.int Z.1]) (bs' := [xO G x0 s0 g0 k0 xt tr sg rf ab bl, oS G s0 t0 p0 n0, tW G t0 wo mi bi la (nI n) ki se wd hu bt, tW G tr wo mi bi la Z.2.1 ki Z.2.2.1 wd hu bt, aW G sg 6 Z.2.2.2]) E (c_X5_seatRest_6 l G tr sg 0 0 (rfl) (nI n) n (rfl) ((nI n) + 1) wo mi bi la (nI n) ki se wd hu bt sgf Z (by omega) (by omega) (by omega) (hZ)) sw_X5_169 hw [3, 4] rfl rfl rfl (flat2 _ _) (flat2 _ _) rfl hl.1 rfl rfl (Nat.le_of_ble_eq_true rfl) ⟨Nat.le_of_ble_eq_true rfl, Nat.le_of_ble_eq_true rfl⟩ (Nat.zero_le _) (Nat.zero_le _) dX5_seated_61 rfl rfl (fun H locs hw => ?_)
      refine lv_istore_n (lv' := [(3, .int Z.1), (2, .int (nI n)), (0, .ref x0), (1, .int x)]) hx hb dX5_seated_64 rfl hl (by decide) rfl (fun ls hl => ?_)
      refine lv_iload_n hx hb dX5_seated_65 rfl (lv_at hl 3 rfl) ?_
      refine lv_iconst (v := -1) hx hb dX5_seated_66 rfl ?_
      refine lv_icmp_ne (tgt := 74) hx hb dX5_seated_67 rfl (fun cq67 => ?_) (fun cq67 => ?_)
      · skip
        refine lv_aload_n hx hb dX5_seated_74 rfl (lv_at hl 2 rfl) ?_
        refine b_get E hw fw_X5_38 0 0 rfl rfl rfl dX5_seated_75 ?_
        refine lv_iload_n hx hb dX5_seated_78 rfl (lv_at hl 3 rfl) ?_
        refine b_iald E hw 4 0 rfl rfl k (hv_x) (by omega) (by omega) dX5_seated_79 ?_
        exact x_iret E hA rt hw dX5_seated_80 (rfl) rfl
      · skip
        exact (h1 cq67).elim
    · skip
      have cq10 := bI_0.mp cq10
      exact absurd cq10 (by rw [h2]; decide)
set_option maxHeartbeats 1000000 in
set_option maxRecDepth 100000 in
theorem c_X5_weeks_bad (l : Launch) (G : GG) (x0 : Nat) (s0 : Nat) (g0 : Nat) (k0 : Nat) (xt : Nat → Nat) (tr : Nat → Nat) (sg : Nat) (rf : Nat) (x : Int32) (y : Int32) (ab : Int64) (bl : Int64) (rfd : Nat → Int32) (h0 : (inI x 0 999999 && inI y 0 60) = false) : CT l G yX5_weeks cX5_weeks 8 (some .int) 2 44 [.ref x0, .int x, .int y] ([xO G x0 s0 g0 k0 xt tr sg rf ab bl, aW G rf 3 rfd].flatten) (some (.int (-2))) ([xO G x0 s0 g0 k0 xt tr sg rf ab bl, aW G rf 3 (upd rfd 0 (rfd 0 + 1))].flatten) := by
  refine CT.mk (own := RX5) (la := [(0, .ref x0), (1, .int x), (2, .int y)]) (by decide) rfl (Nat.le_of_ble_eq_true rfl) rfl ?_
  intro p e s m args below meth c A Q E hA hw rt ls hl
  have hx := E.1
  have hb := E.2.1
  refine lv_iload_n hx hb dX5_weeks_0 rfl (lv_at hl 1 rfl) ?_
  refine lv_iconst (v := 0) hx hb dX5_weeks_1 rfl ?_
  refine lv_ldc hx hb E.2.2.2.1 (E.2.2.2.2.2.2.w kc_X5_205) dX5_weeks_2 ?_
  refine b_callS (is := []) (wb := []) (wb' := []) (As := [.int x, .int 0, .int 999999]) (rest := []) (st1 := [.int (bI (inI x 0 999999))]) (bs' := [xO G x0 s0 g0 k0 xt tr sg rf ab bl, aW G rf 3 rfd]) E (c_X5_within l G x 0 999999) sw_X5_75 hw [] rfl rfl rfl rfl rfl rfl hl.1 rfl rfl (Nat.le_of_ble_eq_true rfl) ⟨Nat.le_of_ble_eq_true rfl, Nat.le_of_ble_eq_true rfl⟩ (Nat.zero_le _) (Nat.zero_le _) dX5_weeks_4 rfl rfl (fun H locs hw => ?_)
  refine lv_if_eq (tgt := 20) hx hb dX5_weeks_7 rfl (fun cq7 => ?_) (fun cq7 => ?_)
  · skip
    have cq7 := bI_0.mp cq7
    refine lv_aload_n hx hb dX5_weeks_20 rfl (lv_at hl 0 rfl) ?_
    refine lv_bipush (v := -2) hx hb dX5_weeks_21 rfl ?_
    refine b_callV (is := [0, 1]) (wb := [xO G x0 s0 g0 k0 xt tr sg rf ab bl, aW G rf 3 rfd]) (wb' := [xO G x0 s0 g0 k0 xt tr sg rf ab bl, aW G rf 3 (upd rfd 0 (rfd 0 + 1))]) (As := [.int (-2)]) (rest := []) (st1 := [.int (-2)]) (bs' := [xO G x0 s0 g0 k0 xt tr sg rf ab bl, aW G rf 3 (upd rfd 0 (rfd 0 + 1))]) E (c_X5_refuse l G x0 s0 g0 k0 xt tr sg rf (-2) ab bl rfd 0 (by omega) (by decide)) vw_X5_56 hw [0, 1] rfl 0 0 rfl rfl rfl rfl rfl rfl rfl rfl rfl hl.1 rfl rfl (Nat.le_of_ble_eq_true rfl) ⟨Nat.le_of_ble_eq_true rfl, Nat.le_of_ble_eq_true rfl⟩ (Nat.zero_le _) (Nat.zero_le _) dX5_weeks_23 rfl rfl (fun H locs hw => ?_)
    exact x_iret E hA rt hw dX5_weeks_26 (rfl) rfl
  · skip
    have cq7 := bI_n0.mp cq7
    refine lv_iload_n hx hb dX5_weeks_10 rfl (lv_at hl 2 rfl) ?_
    refine lv_iconst (v := 0) hx hb dX5_weeks_11 rfl ?_
    refine lv_bipush (v := 60) hx hb dX5_weeks_12 rfl ?_
    refine b_callS (is := []) (wb := []) (wb' := []) (As := [.int y, .int 0, .int 60]) (rest := []) (st1 := [.int (bI (inI y 0 60))]) (bs' := [xO G x0 s0 g0 k0 xt tr sg rf ab bl, aW G rf 3 rfd]) E (c_X5_within l G y 0 60) sw_X5_75 hw [] rfl rfl rfl rfl rfl rfl hl.1 rfl rfl (Nat.le_of_ble_eq_true rfl) ⟨Nat.le_of_ble_eq_true rfl, Nat.le_of_ble_eq_true rfl⟩ (Nat.zero_le _) (Nat.zero_le _) dX5_weeks_14 rfl rfl (fun H locs hw => ?_)
    refine lv_if_ne (tgt := 27) hx hb dX5_weeks_17 rfl (fun cq17 => ?_) (fun cq17 => ?_)
    · skip
      have cq17 := bI_n0.mp cq17
      rw [cq7, cq17] at h0; exact absurd h0 (by decide)
    · skip
      have cq17 := bI_0.mp cq17
      refine lv_aload_n hx hb dX5_weeks_20 rfl (lv_at hl 0 rfl) ?_
      refine lv_bipush (v := -2) hx hb dX5_weeks_21 rfl ?_
      refine b_callV (is := [0, 1]) (wb := [xO G x0 s0 g0 k0 xt tr sg rf ab bl, aW G rf 3 rfd]) (wb' := [xO G x0 s0 g0 k0 xt tr sg rf ab bl, aW G rf 3 (upd rfd 0 (rfd 0 + 1))]) (As := [.int (-2)]) (rest := []) (st1 := [.int (-2)]) (bs' := [xO G x0 s0 g0 k0 xt tr sg rf ab bl, aW G rf 3 (upd rfd 0 (rfd 0 + 1))]) E (c_X5_refuse l G x0 s0 g0 k0 xt tr sg rf (-2) ab bl rfd 0 (by omega) (by decide)) vw_X5_56 hw [0, 1] rfl 0 0 rfl rfl rfl rfl rfl rfl rfl rfl rfl hl.1 rfl rfl (Nat.le_of_ble_eq_true rfl) ⟨Nat.le_of_ble_eq_true rfl, Nat.le_of_ble_eq_true rfl⟩ (Nat.zero_le _) (Nat.zero_le _) dX5_weeks_23 rfl rfl (fun H locs hw => ?_)
      exact x_iret E hA rt hw dX5_weeks_26 (rfl) rfl
set_option maxHeartbeats 1000000 in
set_option maxRecDepth 100000 in
theorem c_X5_weeks_ok (l : Launch) (G : GG) (x0 : Nat) (s0 : Nat) (t0 : Nat → Nat) (p0 : Nat → Nat) (n0 : Nat → Nat) (g0 : Nat) (k0 : Nat) (xt : Nat → Nat) (tr : Nat → Nat) (sg : Nat) (rf : Nat) (x : Int32) (y : Int32) (yy : Nat) (hv_y : y = nI yy) (ab : Int64) (bl : Int64) (wo : Int32) (mi : Int32) (bi : Int32) (la : Int32) (n : Nat) (ki : Nat → Int32) (se : Nat → Int32) (wd : Nat → Int32) (hu : Nat → Int32) (bt : Nat → Int32) (wo1 : Int32) (mi1 : Int32) (bi1 : Int32) (la1 : Int32) (ch1 : Int32) (ki1 : Nat → Int32) (se1 : Nat → Int32) (wd1 : Nat → Int32) (hu1 : Nat → Int32) (bt1 : Nat → Int32) (hn : n ≤ 6) (h1 : inI x 0 999999 = true) (h2 : inI y 0 60 = true) (hyy : yy ≤ 60) : CE l G yX5_weeks cX5_weeks 8 (some .int) 6 132 [.ref x0, .int x, .int y] ([xO G x0 s0 g0 k0 xt tr sg rf ab bl, oS G s0 t0 p0 n0, tW G t0 wo mi bi la (nI n) ki se wd hu bt, tW G tr wo1 mi1 bi1 la1 ch1 ki1 se1 wd1 hu1 bt1].flatten) (some (.int ((wsC wo n ki se wd (mi, bi, la, hu, bt) x.toInt64 yy).2))) (fun uu : Int32 × Int32 × Int32 × Int32 × Int32 × (Nat → Int32) × (Nat → Int32) × (Nat → Int32) × (Nat → Int32) × (Nat → Int32) => [xO G x0 s0 g0 k0 xt tr sg rf ab bl, oS G s0 t0 p0 n0, tW G t0 wo mi bi la (nI n) ki se wd hu bt, tW G tr uu.1 uu.2.1 uu.2.2.1 uu.2.2.2.1 uu.2.2.2.2.1 uu.2.2.2.2.2.1 uu.2.2.2.2.2.2.1 uu.2.2.2.2.2.2.2.1 uu.2.2.2.2.2.2.2.2.1 uu.2.2.2.2.2.2.2.2.2].flatten) := by
  refine CE.mk (own := RX5) (la := [(0, .ref x0), (1, .int x), (2, .int y)]) (by decide) rfl (Nat.le_of_ble_eq_true rfl) rfl ?_
  intro p e s m args below meth c A Q E hA hw rt ls hl
  have hx := E.1
  have hb := E.2.1
  refine lv_iload_n hx hb dX5_weeks_0 rfl (lv_at hl 1 rfl) ?_
  refine lv_iconst (v := 0) hx hb dX5_weeks_1 rfl ?_
  refine lv_ldc hx hb E.2.2.2.1 (E.2.2.2.2.2.2.w kc_X5_205) dX5_weeks_2 ?_
  refine b_callS (is := []) (wb := []) (wb' := []) (As := [.int x, .int 0, .int 999999]) (rest := []) (st1 := [.int (bI (inI x 0 999999))]) (bs' := [xO G x0 s0 g0 k0 xt tr sg rf ab bl, oS G s0 t0 p0 n0, tW G t0 wo mi bi la (nI n) ki se wd hu bt, tW G tr wo1 mi1 bi1 la1 ch1 ki1 se1 wd1 hu1 bt1]) E (c_X5_within l G x 0 999999) sw_X5_75 hw [] rfl rfl rfl rfl rfl rfl hl.1 rfl rfl (Nat.le_of_ble_eq_true rfl) ⟨Nat.le_of_ble_eq_true rfl, Nat.le_of_ble_eq_true rfl⟩ (Nat.zero_le _) (Nat.zero_le _) dX5_weeks_4 rfl rfl (fun H locs hw => ?_)
  refine lv_if_eq (tgt := 20) hx hb dX5_weeks_7 rfl (fun cq7 => ?_) (fun cq7 => ?_)
  · skip
    have cq7 := bI_0.mp cq7
    exact absurd cq7 (by rw [h1]; decide)
  · skip
    have cq7 := bI_n0.mp cq7
    refine lv_iload_n hx hb dX5_weeks_10 rfl (lv_at hl 2 rfl) ?_
    refine lv_iconst (v := 0) hx hb dX5_weeks_11 rfl ?_
    refine lv_bipush (v := 60) hx hb dX5_weeks_12 rfl ?_
    refine b_callS (is := []) (wb := []) (wb' := []) (As := [.int y, .int 0, .int 60]) (rest := []) (st1 := [.int (bI (inI y 0 60))]) (bs' := [xO G x0 s0 g0 k0 xt tr sg rf ab bl, oS G s0 t0 p0 n0, tW G t0 wo mi bi la (nI n) ki se wd hu bt, tW G tr wo1 mi1 bi1 la1 ch1 ki1 se1 wd1 hu1 bt1]) E (c_X5_within l G y 0 60) sw_X5_75 hw [] rfl rfl rfl rfl rfl rfl hl.1 rfl rfl (Nat.le_of_ble_eq_true rfl) ⟨Nat.le_of_ble_eq_true rfl, Nat.le_of_ble_eq_true rfl⟩ (Nat.zero_le _) (Nat.zero_le _) dX5_weeks_14 rfl rfl (fun H locs hw => ?_)
    refine lv_if_ne (tgt := 27) hx hb dX5_weeks_17 rfl (fun cq17 => ?_) (fun cq17 => ?_)
    · skip
      have cq17 := bI_n0.mp cq17
      refine lv_iload_n hx hb dX5_weeks_27 rfl (lv_at hl 1 rfl) ?_
      refine lv_i2l (v := x.toInt64) hx hb dX5_weeks_28 rfl ?_
      refine lv_lstore_n (lv' := [(3, .long x.toInt64), (0, .ref x0), (1, .int x), (2, .int y)]) hx hb dX5_weeks_29 rfl hl (by decide) rfl (fun ls hl => ?_)
      refine lv_iconst (v := 0) hx hb dX5_weeks_30 rfl ?_
      refine lv_istore (lv' := [(5, .int 0), (3, .long x.toInt64), (0, .ref x0), (1, .int x), (2, .int y)]) hx hb dX5_weeks_31 hl (by decide) rfl (fun ls hl => ?_)
      refine lv_iconst (v := 0) hx hb dX5_weeks_33 rfl ?_
      refine lv_istore (lv' := [(6, .int 0), (5, .int 0), (3, .long x.toInt64), (0, .ref x0), (1, .int x), (2, .int y)]) hx hb dX5_weeks_34 hl (by decide) rfl (fun ls hl => ?_)
      have lp36 : ∀ (fuel : Nat), ∀ (q : Nat) (xs : Int64) (acc : Int32) (wov : Int32) (miv : Int32) (biv : Int32) (lav : Int32) (chv : Int32) (kiv : Nat → Int32) (sev : Nat → Int32) (wdv : Nat → Int32) (huv : Nat → Int32) (btv : Nat → Int32) (hq : q ≤ yy) (hiv : (xs, acc) = wsC wo n ki se wd (mi, bi, la, hu, bt) x.toInt64 q), (yy - q) < fuel → ∀ (H : Heap) (locs : List Loc) (ls : Array Slot), Bd G A s H locs ([xO G x0 s0 g0 k0 xt tr sg rf ab bl, oS G s0 t0 p0 n0, tW G t0 wo mi bi la (nI n) ki se wd hu bt, tW G tr wov miv biv lav chv kiv sev wdv huv btv]) → lv_has ls 8 [(0, .ref x0), (1, .int x), (2, .int y), (3, .long xs), (5, .int acc), (6, .int (nI q))] → W p l e (rmx 6 132) s m args below meth c H locs 0 0 Q (F0 m 36 ls []) := by
        intro fuel
        induction fuel with
        | zero => intro q xs acc wov miv biv lav chv kiv sev wdv huv btv hq hiv hfu; exact absurd hfu (Nat.not_lt_zero _)
        | succ fuel ih36 =>
          intro q xs acc wov miv biv lav chv kiv sev wdv huv btv hq hiv hfu H locs ls hw hl
          refine lv_iload hx hb dX5_weeks_36 (lv_at hl 5 rfl) ?_
          refine lv_iload_n hx hb dX5_weeks_38 rfl (lv_at hl 2 rfl) ?_
          refine lv_icmp_ge (tgt := 130) hx hb dX5_weeks_39 rfl (fun cq39 => ?_) (fun cq39 => ?_)
          · skip
            have cq39 : yy ≤ q := (cv_le (a := yy) (b := q) hv_y rfl (by omega) (by omega)).mp cq39
            refine lv_iload hx hb dX5_weeks_130 (lv_at hl 4 rfl) ?_
            exact x_iretE (wov, miv, biv, lav, chv, kiv, sev, wdv, huv, btv) E hA rt hw dX5_weeks_132 (by have e9 : q = yy := (by omega); rw [e9] at hiv; rw [← hiv]) rfl
          · skip
            have cq39 : ¬ yy ≤ q := fun h => cq39 ((cv_le (a := yy) (b := q) hv_y rfl (by omega) (by omega)).mpr h)
            refine lv_aload_n hx hb dX5_weeks_42 rfl (lv_at hl 0 rfl) ?_
            refine b_get E hw fw_X5_34 0 0 rfl rfl rfl dX5_weeks_43 ?_
            refine lv_aload_n hx hb dX5_weeks_46 rfl (lv_at hl 0 rfl) ?_
            refine b_get E hw fw_X5_10 0 0 rfl rfl rfl dX5_weeks_47 ?_
            refine b_get E hw fw_X5_60 1 0 rfl rfl rfl dX5_weeks_50 ?_
            refine b_callV (is := [3, 2]) (wb := [tW G tr wov miv biv lav chv kiv sev wdv huv btv, tW G t0 wo mi bi la (nI n) ki se wd hu bt]) (wb' := [tW G tr wo mi bi la (nI n) ki se wd hu bt, tW G t0 wo mi bi la (nI n) ki se wd hu bt]) (As := [.ref (t0 0)]) (rest := []) (st1 := []) (bs' := [xO G x0 s0 g0 k0 xt tr sg rf ab bl, oS G s0 t0 p0 n0, tW G t0 wo mi bi la (nI n) ki se wd hu bt, tW G tr wo mi bi la (nI n) ki se wd hu bt]) E (c_X3_copyFrom l G tr t0 wov miv biv lav chv kiv sev wdv huv btv wo mi bi la (nI n) ki se wd hu bt) vw_X5_154 hw [3, 2] rfl 3 0 rfl rfl rfl rfl rfl rfl (flat2 _ _) (flat2 _ _) rfl hl.1 rfl rfl (Nat.le_of_ble_eq_true rfl) ⟨Nat.le_of_ble_eq_true rfl, Nat.le_of_ble_eq_true rfl⟩ (Nat.zero_le _) (Nat.zero_le _) dX5_weeks_53 rfl rfl (fun H locs hw => ?_)
            refine lv_iconst (v := 0) hx hb dX5_weeks_56 rfl ?_
            refine lv_istore (lv' := [(7, .int 0), (0, .ref x0), (1, .int x), (2, .int y), (3, .long xs), (5, .int acc), (6, .int (nI q))]) hx hb dX5_weeks_57 hl (by decide) rfl (fun ls hl => ?_)
            have lp59 : ∀ (fuel : Nat), ∀ (i : Nat) (xi : Int64) (hv : Nat → Int32) (hi : i ≤ n) (hxi : xi = wkX xs i) (hhv : hv = hwC hu xs i), (n - i) < fuel → ∀ (H : Heap) (locs : List Loc) (ls : Array Slot), Bd G A s H locs ([xO G x0 s0 g0 k0 xt tr sg rf ab bl, oS G s0 t0 p0 n0, tW G t0 wo mi bi la (nI n) ki se wd hu bt, tW G tr wo mi bi la (nI n) ki se wd hv bt]) → lv_has ls 8 [(0, .ref x0), (1, .int x), (2, .int y), (3, .long xi), (5, .int acc), (6, .int (nI q)), (7, .int (nI i))] → W p l e (rmx 6 132) s m args below meth c H locs 0 0 Q (F0 m 59 ls []) := by
              intro fuel
              induction fuel with
              | zero => intro i xi hv hi hxi hhv hfu; exact absurd hfu (Nat.not_lt_zero _)
              | succ fuel ih59 =>
                intro i xi hv hi hxi hhv hfu H locs ls hw hl
                refine lv_iload hx hb dX5_weeks_59 (lv_at hl 6 rfl) ?_
                refine lv_aload_n hx hb dX5_weeks_61 rfl (lv_at hl 0 rfl) ?_
                refine b_get E hw fw_X5_34 0 0 rfl rfl rfl dX5_weeks_62 ?_
                refine b_get E hw fw_X5_63 3 0 rfl rfl rfl dX5_weeks_65 ?_
                refine lv_icmp_ge (tgt := 111) hx hb dX5_weeks_68 rfl (fun cq68 => ?_) (fun cq68 => ?_)
                · skip
                  have cq68 : n ≤ i := (cv_le (a := n) (b := i) rfl rfl (by omega) (by omega)).mp cq68
                  obtain ⟨D1, hD1⟩ : ∃ D, pmN wo n ki se wd 3 (mi, bi, la, hwC hu xs n, bt) = D := ⟨_, rfl⟩
                  have hD3 : pmN wo n ki se wd 3 (mi, bi, la, hv, bt) = D1 := by rw [hhv, show i = n by omega]; exact hD1
                  refine lv_iload hx hb dX5_weeks_111 (lv_at hl 4 rfl) ?_
                  refine lv_aload_n hx hb dX5_weeks_113 rfl (lv_at hl 0 rfl) ?_
                  refine b_get E hw fw_X5_34 0 0 rfl rfl rfl dX5_weeks_114 ?_
                  refine lv_iconst (v := 3) hx hb dX5_weeks_117 rfl ?_
                  refine b_callV (is := [3]) (wb := [tW G tr wo mi bi la (nI n) ki se wd hv bt]) (wb' := [tW G tr wo D1.1 D1.2.1 D1.2.2.1 (nI n) ki se wd D1.2.2.2.1 D1.2.2.2.2]) (As := [.int 3]) (rest := [.int acc]) (st1 := [.int (D1.2.1 - bi), .int acc]) (bs' := [xO G x0 s0 g0 k0 xt tr sg rf ab bl, oS G s0 t0 p0 n0, tW G t0 wo mi bi la (nI n) ki se wd hu bt, tW G tr wo D1.1 D1.2.1 D1.2.2.1 (nI n) ki se wd D1.2.2.2.1 D1.2.2.2.2]) E (c_X3_passM l G tr 3 3 (rfl) wo mi bi la n ki se wd hv bt D1 (by omega) (by omega) (hD3)) vw_X5_117 hw [3] rfl 3 0 rfl rfl rfl rfl rfl rfl (flat1 _) (flat1 _) rfl hl.1 rfl rfl (Nat.le_of_ble_eq_true rfl) ⟨Nat.le_of_ble_eq_true rfl, Nat.le_of_ble_eq_true rfl⟩ (Nat.zero_le _) (Nat.zero_le _) dX5_weeks_118 rfl rfl (fun H locs hw => ?_)
                  refine lv_iadd hx hb dX5_weeks_121 ?_
                  refine lv_istore (lv' := [(5, .int (acc + (D1.2.1 - bi))), (0, .ref x0), (1, .int x), (2, .int y), (3, .long xi), (6, .int (nI q)), (7, .int (nI i))]) hx hb dX5_weeks_122 hl (by decide) rfl (fun ls hl => ?_)
                  refine lv_iinc (v := nI (q + 1)) (lv' := [(6, .int (nI (q + 1))), (5, .int (acc + (D1.2.1 - bi))), (0, .ref x0), (1, .int x), (2, .int y), (3, .long xi), (7, .int (nI i))]) hx hb dX5_weeks_124 hl (k := 5) rfl (nI_add _ 1) (by decide) rfl (fun ls hl => ?_)
                  refine lv_goto (tgt := 36) hx hb dX5_weeks_127 rfl ?_
                  exact ih36 (q + 1) xi (acc + (D1.2.1 - bi)) wo D1.1 D1.2.1 D1.2.2.1 (nI n) ki se wd D1.2.2.2.1 D1.2.2.2.2 (by omega) (by rw [wsC, ← hiv, hD1, hxi, show i = n by omega]) (by omega) _ _ _ hw (lv_sub hl [2, 3, 4, 5, 1, 0] rfl)
                · skip
                  have cq68 : ¬ n ≤ i := fun h => cq68 ((cv_le (a := n) (b := i) rfl rfl (by omega) (by omega)).mpr h)
                  refine lv_lload_n hx hb dX5_weeks_71 rfl (lv_at hl 3 rfl) ?_
                  refine lv_ldc2 hx hb E.2.2.2.1 (E.2.2.2.2.2.2.w kc_X5_206) dX5_weeks_72 ?_
                  refine lv_lmul hx hb dX5_weeks_75 ?_
                  refine lv_ldc2 hx hb E.2.2.2.1 (E.2.2.2.2.2.2.w kc_X5_208) dX5_weeks_76 ?_
                  refine lv_ladd hx hb dX5_weeks_79 ?_
                  refine lv_ldc2 hx hb E.2.2.2.1 (E.2.2.2.2.2.2.w kc_X5_210) dX5_weeks_80 ?_
                  refine lv_lrem hx hb dX5_weeks_83 (by decide) ?_
                  refine x_topl (y := lcg xi) (rfl) ?_
                  refine lv_lstore_n (lv' := [(3, .long (lcg xi)), (0, .ref x0), (1, .int x), (2, .int y), (5, .int acc), (6, .int (nI q)), (7, .int (nI i))]) hx hb dX5_weeks_84 rfl hl (by decide) rfl (fun ls hl => ?_)
                  refine lv_aload_n hx hb dX5_weeks_85 rfl (lv_at hl 1 rfl) ?_
                  refine b_get E hw fw_X5_34 0 0 rfl rfl rfl dX5_weeks_86 ?_
                  refine b_get E hw fw_X5_190 3 0 rfl rfl rfl dX5_weeks_89 ?_
                  refine lv_iload hx hb dX5_weeks_92 (lv_at hl 6 rfl) ?_
                  refine lv_lload_n hx hb dX5_weeks_94 rfl (lv_at hl 0 rfl) ?_
                  refine lv_ldc2 hx hb E.2.2.2.1 (E.2.2.2.2.2.2.w kc_X5_212) dX5_weeks_95 ?_
                  refine lv_ldiv hx hb dX5_weeks_98 (by decide) ?_
                  refine lv_ldc2 hx hb E.2.2.2.1 (E.2.2.2.2.2.2.w kc_X5_214) dX5_weeks_99 ?_
                  refine lv_lrem hx hb dX5_weeks_102 (by decide) ?_
                  refine lv_l2i (v := (((lcg xi) / 65536) - ((lcg xi) / 65536) / 31 * 31).toInt32) hx hb dX5_weeks_103 rfl ?_
                  refine x_topi (y := hgO (lcg xi)) (rfl) ?_
                  refine b_iast (bs' := [xO G x0 s0 g0 k0 xt tr sg rf ab bl, oS G s0 t0 p0 n0, tW G t0 wo mi bi la (nI n) ki se wd hu bt, tW G tr wo mi bi la (nI n) ki se wd (upd hv i (hgO (lcg xi))) bt]) E hw 3 4 rfl rfl i (rfl) (by omega) (by omega) dX5_weeks_104 rfl (fun H locs hw => ?_)
                  refine lv_iinc (v := nI (i + 1)) (lv' := [(7, .int (nI (i + 1))), (3, .long (lcg xi)), (0, .ref x0), (1, .int x), (2, .int y), (5, .int acc), (6, .int (nI q))]) hx hb dX5_weeks_105 hl (k := 6) rfl (nI_add _ 1) (by decide) rfl (fun ls hl => ?_)
                  refine lv_goto (tgt := 59) hx hb dX5_weeks_108 rfl ?_
                  exact ih59 (i + 1) (lcg xi) (upd hv i (hgO (lcg xi))) (by omega) (by rw [hxi]; rfl) (by rw [hwC, ← hhv, wkX, ← hxi]) (by omega) _ _ _ hw (lv_sub hl [2, 3, 4, 1, 5, 6, 0] rfl)
            exact lp59 (n - 0 + 1) 0 xs hu (by omega) (rfl) (rfl) (by omega) _ _ _ hw (lv_sub hl [1, 2, 3, 4, 5, 6, 0] rfl)
      exact lp36 (yy - 0 + 1) 0 x.toInt64 0 wo1 mi1 bi1 la1 ch1 ki1 se1 wd1 hu1 bt1 (by omega) (rfl) (by omega) _ _ _ hw (lv_sub hl [3, 4, 5, 2, 1, 0] rfl)
    · skip
      have cq17 := bI_0.mp cq17
      exact absurd cq17 (by rw [h2]; decide)
set_option maxHeartbeats 1000000 in
set_option maxRecDepth 100000 in
theorem c_X5_digest (l : Launch) (G : GG) (x0 : Nat) (s0 : Nat) (t0 : Nat → Nat) (p0 : Nat → Nat) (n0 : Nat → Nat) (g0 : Nat) (k0 : Nat) (xt : Nat → Nat) (tr : Nat → Nat) (sg : Nat) (rf : Nat) (ab : Int64) (bl : Int64) (wo : Int32) (mi : Int32) (bi : Int32) (la : Int32) (n : Nat) (ki : Nat → Int32) (se : Nat → Int32) (wd : Nat → Int32) (hu : Nat → Int32) (bt : Nat → Int32) (o : Nat) (u : Nat) (T : Nat → Tb) (np : Nat → Int32) (zn : Nat) (f : Nat → Int32) (z : Nat) (pl : Int32) (sa : Int32) (tk : Int32) (vl : Int32) (hn : n ≤ 6) (hzn : zn ≤ 6) : CT l G yX5_digest cX5_digest 5 (some .long) 1 22 [.ref x0] ([xO G x0 s0 g0 k0 xt tr sg rf ab bl, oS G s0 t0 p0 n0, tW G t0 wo mi bi la (nI n) ki se wd hu bt, pW G p0 (nI o) (nI u) T, nW G n0 np (nI zn), xT G xt f (nI z) pl sa tk vl].flatten) (some (.long (31 * (31 * dgC np (dgB ki se wd hu bt (dgA wo mi bi la n zn u z 8) n) (zn * 7) + ab) + bl))) ([xO G x0 s0 g0 k0 xt tr sg rf ab bl, oS G s0 t0 p0 n0, tW G t0 wo mi bi la (nI n) ki se wd hu bt, pW G p0 (nI o) (nI u) T, nW G n0 np (nI zn), xT G xt f (nI z) pl sa tk vl].flatten) := by
  refine CT.mk (own := RX5) (la := [(0, .ref x0)]) (by decide) rfl (Nat.le_of_ble_eq_true rfl) rfl ?_
  intro p e s m args below meth c A Q E hA hw rt ls hl
  have hx := E.1
  have hb := E.2.1
  refine lv_ldc2 hx hb E.2.2.2.1 (E.2.2.2.2.2.2.w kc_X5_222) dX5_digest_0 ?_
  refine lv_lstore_n (lv' := [(1, .long 1429), (0, .ref x0)]) hx hb dX5_digest_3 rfl hl (by decide) rfl (fun ls hl => ?_)
  refine lv_iconst (v := 0) hx hb dX5_digest_4 rfl ?_
  refine lv_istore_n (lv' := [(3, .int 0), (1, .long 1429), (0, .ref x0)]) hx hb dX5_digest_5 rfl hl (by decide) rfl (fun ls hl => ?_)
  have lp6 : ∀ (fuel : Nat), ∀ (q : Nat) (hv : Int64) (hq : q ≤ 8) (hiv : hv = dgA wo mi bi la n zn u z q), (8 - q) < fuel → ∀ (H : Heap) (locs : List Loc) (ls : Array Slot), Bd G A s H locs ([xO G x0 s0 g0 k0 xt tr sg rf ab bl, oS G s0 t0 p0 n0, tW G t0 wo mi bi la (nI n) ki se wd hu bt, pW G p0 (nI o) (nI u) T, nW G n0 np (nI zn), xT G xt f (nI z) pl sa tk vl]) → lv_has ls 5 [(0, .ref x0), (1, .long hv), (3, .int (nI q))] → W p l e (rmx 1 22) s m args below meth c H locs 0 0 Q (F0 m 6 ls []) := by
    intro fuel
    induction fuel with
    | zero => intro q hv hq hiv hfu; exact absurd hfu (Nat.not_lt_zero _)
    | succ fuel ih6 =>
      intro q hv hq hiv hfu H locs ls hw hl
      refine lv_iload_n hx hb dX5_digest_6 rfl (lv_at hl 2 rfl) ?_
      refine lv_bipush (v := 7) hx hb dX5_digest_7 rfl ?_
      refine lv_icmp_gt (tgt := 31) hx hb dX5_digest_9 rfl (fun cq9 => ?_) (fun cq9 => ?_)
      · skip
        have cq9 : 7 < q := (cv_lt (a := 7) (b := q) rfl rfl (by omega) (by omega)).mp cq9
        refine lv_iconst (v := 0) hx hb dX5_digest_31 rfl ?_
        refine lv_istore_n (lv' := [(3, .int 0), (0, .ref x0), (1, .long hv)]) hx hb dX5_digest_32 rfl hl (by decide) rfl (fun ls hl => ?_)
        have lp33 : ∀ (fuel : Nat), ∀ (i : Nat) (h2 : Int64) (hi : i ≤ n) (hi2 : h2 = dgB ki se wd hu bt hv i), (n - i) < fuel → ∀ (H : Heap) (locs : List Loc) (ls : Array Slot), Bd G A s H locs ([xO G x0 s0 g0 k0 xt tr sg rf ab bl, oS G s0 t0 p0 n0, tW G t0 wo mi bi la (nI n) ki se wd hu bt, pW G p0 (nI o) (nI u) T, nW G n0 np (nI zn), xT G xt f (nI z) pl sa tk vl]) → lv_has ls 5 [(0, .ref x0), (1, .long h2), (3, .int (nI i))] → W p l e (rmx 1 22) s m args below meth c H locs 0 0 Q (F0 m 33 ls []) := by
          intro fuel
          induction fuel with
          | zero => intro i h2 hi hi2 hfu; exact absurd hfu (Nat.not_lt_zero _)
          | succ fuel ih33 =>
            intro i h2 hi hi2 hfu H locs ls hw hl
            refine lv_iload_n hx hb dX5_digest_33 rfl (lv_at hl 2 rfl) ?_
            refine lv_aload_n hx hb dX5_digest_34 rfl (lv_at hl 0 rfl) ?_
            refine b_get E hw fw_X5_10 0 0 rfl rfl rfl dX5_digest_35 ?_
            refine b_get E hw fw_X5_60 1 0 rfl rfl rfl dX5_digest_38 ?_
            refine b_get E hw fw_X5_63 2 0 rfl rfl rfl dX5_digest_41 ?_
            refine lv_icmp_ge (tgt := 89) hx hb dX5_digest_44 rfl (fun cq44 => ?_) (fun cq44 => ?_)
            · skip
              have cq44 : n ≤ i := (cv_le (a := n) (b := i) rfl rfl (by omega) (by omega)).mp cq44
              refine lv_iconst (v := 0) hx hb dX5_digest_89 rfl ?_
              refine lv_istore_n (lv' := [(3, .int 0), (0, .ref x0), (1, .long h2)]) hx hb dX5_digest_90 rfl hl (by decide) rfl (fun ls hl => ?_)
              have lp91 : ∀ (fuel : Nat), ∀ (t : Nat) (h4 : Int64) (ht : t ≤ zn * 7) (hi4 : h4 = dgC np h2 t), (zn * 7 - t) < fuel → ∀ (H : Heap) (locs : List Loc) (ls : Array Slot), Bd G A s H locs ([xO G x0 s0 g0 k0 xt tr sg rf ab bl, oS G s0 t0 p0 n0, tW G t0 wo mi bi la (nI n) ki se wd hu bt, pW G p0 (nI o) (nI u) T, nW G n0 np (nI zn), xT G xt f (nI z) pl sa tk vl]) → lv_has ls 5 [(0, .ref x0), (1, .long h4), (3, .int (nI t))] → W p l e (rmx 1 22) s m args below meth c H locs 0 0 Q (F0 m 91 ls []) := by
                intro fuel
                induction fuel with
                | zero => intro t h4 ht hi4 hfu; exact absurd hfu (Nat.not_lt_zero _)
                | succ fuel ih91 =>
                  intro t h4 ht hi4 hfu H locs ls hw hl
                  refine lv_iload_n hx hb dX5_digest_91 rfl (lv_at hl 2 rfl) ?_
                  refine lv_aload_n hx hb dX5_digest_92 rfl (lv_at hl 0 rfl) ?_
                  refine b_get E hw fw_X5_10 0 0 rfl rfl rfl dX5_digest_93 ?_
                  refine b_get E hw fw_X5_176 1 0 rfl rfl rfl dX5_digest_96 ?_
                  refine b_get E hw fw_X5_180 4 0 rfl rfl rfl dX5_digest_99 ?_
                  refine lv_bipush (v := 7) hx hb dX5_digest_102 rfl ?_
                  refine lv_imul hx hb dX5_digest_104 ?_
                  refine lv_icmp_ge (tgt := 134) hx hb dX5_digest_105 rfl (fun cq105 => ?_) (fun cq105 => ?_)
                  · skip
                    have cq105 : zn * 7 ≤ t := (cv_le (a := zn * 7) (b := t) (ix_mul (a := zn) (b := 7) rfl rfl) rfl (by omega) (by omega)).mp cq105
                    refine lv_ldc2 hx hb E.2.2.2.1 (E.2.2.2.2.2.2.w kc_X5_214) dX5_digest_134 ?_
                    refine lv_lload_n hx hb dX5_digest_137 rfl (lv_at hl 1 rfl) ?_
                    refine lv_lmul hx hb dX5_digest_138 ?_
                    refine lv_aload_n hx hb dX5_digest_139 rfl (lv_at hl 0 rfl) ?_
                    refine b_get E hw fw_X5_45 0 0 rfl rfl rfl dX5_digest_140 ?_
                    refine lv_ladd hx hb dX5_digest_143 ?_
                    refine lv_lstore_n (lv' := [(1, .long ((31 * h4) + ab)), (0, .ref x0), (3, .int (nI t))]) hx hb dX5_digest_144 rfl hl (by decide) rfl (fun ls hl => ?_)
                    refine lv_ldc2 hx hb E.2.2.2.1 (E.2.2.2.2.2.2.w kc_X5_214) dX5_digest_145 ?_
                    refine lv_lload_n hx hb dX5_digest_148 rfl (lv_at hl 0 rfl) ?_
                    refine lv_lmul hx hb dX5_digest_149 ?_
                    refine lv_aload_n hx hb dX5_digest_150 rfl (lv_at hl 1 rfl) ?_
                    refine b_get E hw fw_X5_49 0 0 rfl rfl rfl dX5_digest_151 ?_
                    refine lv_ladd hx hb dX5_digest_154 ?_
                    exact x_lret E hA rt hw dX5_digest_155 (by rw [hi4, show t = zn * 7 by omega, hi2, show i = n by omega, hiv, show q = 8 by omega]) rfl
                  · skip
                    have cq105 : ¬ zn * 7 ≤ t := fun h => cq105 ((cv_le (a := zn * 7) (b := t) (ix_mul (a := zn) (b := 7) rfl rfl) rfl (by omega) (by omega)).mpr h)
                    refine lv_ldc2 hx hb E.2.2.2.1 (E.2.2.2.2.2.2.w kc_X5_214) dX5_digest_108 ?_
                    refine lv_lload_n hx hb dX5_digest_111 rfl (lv_at hl 1 rfl) ?_
                    refine lv_lmul hx hb dX5_digest_112 ?_
                    refine lv_aload_n hx hb dX5_digest_113 rfl (lv_at hl 0 rfl) ?_
                    refine b_get E hw fw_X5_10 0 0 rfl rfl rfl dX5_digest_114 ?_
                    refine b_get E hw fw_X5_176 1 0 rfl rfl rfl dX5_digest_117 ?_
                    refine b_get E hw fw_X5_224 4 0 rfl rfl rfl dX5_digest_120 ?_
                    refine lv_iload_n hx hb dX5_digest_123 rfl (lv_at hl 2 rfl) ?_
                    refine b_iald E hw 4 1 rfl rfl t (rfl) (by omega) (by omega) dX5_digest_124 ?_
                    refine lv_i2l (v := (np t).toInt64) hx hb dX5_digest_125 rfl ?_
                    refine lv_ladd hx hb dX5_digest_126 ?_
                    refine lv_lstore_n (lv' := [(1, .long ((31 * h4) + ((np t).toInt64))), (0, .ref x0), (3, .int (nI t))]) hx hb dX5_digest_127 rfl hl (by decide) rfl (fun ls hl => ?_)
                    refine lv_iinc (v := nI (t + 1)) (lv' := [(3, .int (nI (t + 1))), (1, .long ((31 * h4) + ((np t).toInt64))), (0, .ref x0)]) hx hb dX5_digest_128 hl (k := 2) rfl (nI_add _ 1) (by decide) rfl (fun ls hl => ?_)
                    refine lv_goto (tgt := 91) hx hb dX5_digest_131 rfl ?_
                    exact ih91 (t + 1) ((31 * h4) + ((np t).toInt64)) (by omega) (by rw [hi4]; rfl) (by omega) _ _ _ hw (lv_sub hl [2, 1, 0] rfl)
              exact lp91 (zn * 7 - 0 + 1) 0 h2 (by omega) (rfl) (by omega) _ _ _ hw (lv_sub hl [1, 2, 0] rfl)
            · skip
              have cq44 : ¬ n ≤ i := fun h => cq44 ((cv_le (a := n) (b := i) rfl rfl (by omega) (by omega)).mpr h)
              refine lv_iconst (v := 0) hx hb dX5_digest_47 rfl ?_
              refine lv_istore (lv' := [(4, .int 0), (0, .ref x0), (1, .long h2), (3, .int (nI i))]) hx hb dX5_digest_48 hl (by decide) rfl (fun ls hl => ?_)
              have lp50 : ∀ (fuel : Nat), ∀ (j : Nat) (h3 : Int64) (hj : j ≤ 5) (hi3 : h3 = dgI ki se wd hu bt i j h2), (5 - j) < fuel → ∀ (H : Heap) (locs : List Loc) (ls : Array Slot), Bd G A s H locs ([xO G x0 s0 g0 k0 xt tr sg rf ab bl, oS G s0 t0 p0 n0, tW G t0 wo mi bi la (nI n) ki se wd hu bt, pW G p0 (nI o) (nI u) T, nW G n0 np (nI zn), xT G xt f (nI z) pl sa tk vl]) → lv_has ls 5 [(0, .ref x0), (1, .long h3), (3, .int (nI i)), (4, .int (nI j))] → W p l e (rmx 1 22) s m args below meth c H locs 0 0 Q (F0 m 50 ls []) := by
                intro fuel
                induction fuel with
                | zero => intro j h3 hj hi3 hfu; exact absurd hfu (Nat.not_lt_zero _)
                | succ fuel ih50 =>
                  intro j h3 hj hi3 hfu H locs ls hw hl
                  refine lv_iload hx hb dX5_digest_50 (lv_at hl 3 rfl) ?_
                  refine lv_iconst (v := 4) hx hb dX5_digest_52 rfl ?_
                  refine lv_icmp_gt (tgt := 83) hx hb dX5_digest_53 rfl (fun cq53 => ?_) (fun cq53 => ?_)
                  · skip
                    have cq53 : 4 < j := (cv_lt (a := 4) (b := j) rfl rfl (by omega) (by omega)).mp cq53
                    refine lv_iinc (v := nI (i + 1)) (lv' := [(3, .int (nI (i + 1))), (0, .ref x0), (1, .long h3), (4, .int (nI j))]) hx hb dX5_digest_83 hl (k := 2) rfl (nI_add _ 1) (by decide) rfl (fun ls hl => ?_)
                    refine lv_goto (tgt := 33) hx hb dX5_digest_86 rfl ?_
                    exact ih33 (i + 1) h3 (by omega) (by rw [dgB, ← hi2, hi3, show j = 5 by omega]) (by omega) _ _ _ hw (lv_sub hl [1, 2, 0] rfl)
                  · skip
                    have cq53 : ¬ 4 < j := fun h => cq53 ((cv_lt (a := 4) (b := j) rfl rfl (by omega) (by omega)).mpr h)
                    refine lv_ldc2 hx hb E.2.2.2.1 (E.2.2.2.2.2.2.w kc_X5_214) dX5_digest_56 ?_
                    refine lv_lload_n hx hb dX5_digest_59 rfl (lv_at hl 1 rfl) ?_
                    refine lv_lmul hx hb dX5_digest_60 ?_
                    refine lv_aload_n hx hb dX5_digest_61 rfl (lv_at hl 0 rfl) ?_
                    refine b_get E hw fw_X5_10 0 0 rfl rfl rfl dX5_digest_62 ?_
                    refine b_get E hw fw_X5_60 1 0 rfl rfl rfl dX5_digest_65 ?_
                    refine lv_iload_n hx hb dX5_digest_68 rfl (lv_at hl 2 rfl) ?_
                    refine lv_iload hx hb dX5_digest_69 (lv_at hl 3 rfl) ?_
                    refine b_callV (is := [2]) (wb := [tW G t0 wo mi bi la (nI n) ki se wd hu bt]) (wb' := [tW G t0 wo mi bi la (nI n) ki se wd hu bt]) (As := [.int (nI i), .int (nI j)]) (rest := [.long (31 * h3)]) (st1 := [.int (if (nI j) = 0 then ki i else if (nI j) = 1 then se i else if (nI j) = 2 then wd i else if (nI j) = 3 then hu i else bt i), .long (31 * h3)]) (bs' := [xO G x0 s0 g0 k0 xt tr sg rf ab bl, oS G s0 t0 p0 n0, tW G t0 wo mi bi la (nI n) ki se wd hu bt, pW G p0 (nI o) (nI u) T, nW G n0 np (nI zn), xT G xt f (nI z) pl sa tk vl]) E (c_X3_partOf l G t0 (nI i) i (rfl) (nI j) wo mi bi la n ki se wd hu bt (by omega)) vw_X5_141 hw [2] rfl 2 0 rfl rfl rfl rfl rfl rfl (flat1 _) (flat1 _) rfl hl.1 rfl rfl (Nat.le_of_ble_eq_true rfl) ⟨Nat.le_of_ble_eq_true rfl, Nat.le_of_ble_eq_true rfl⟩ (Nat.zero_le _) (Nat.zero_le _) dX5_digest_71 rfl rfl (fun H locs hw => ?_)
                    refine x_topi (y := poC ki se wd hu bt i (nI j)) (rfl) ?_
                    refine lv_i2l (v := (poC ki se wd hu bt i (nI j)).toInt64) hx hb dX5_digest_74 rfl ?_
                    refine lv_ladd hx hb dX5_digest_75 ?_
                    refine lv_lstore_n (lv' := [(1, .long ((31 * h3) + ((poC ki se wd hu bt i (nI j)).toInt64))), (0, .ref x0), (3, .int (nI i)), (4, .int (nI j))]) hx hb dX5_digest_76 rfl hl (by decide) rfl (fun ls hl => ?_)
                    refine lv_iinc (v := nI (j + 1)) (lv' := [(4, .int (nI (j + 1))), (1, .long ((31 * h3) + ((poC ki se wd hu bt i (nI j)).toInt64))), (0, .ref x0), (3, .int (nI i))]) hx hb dX5_digest_77 hl (k := 3) rfl (nI_add _ 1) (by decide) rfl (fun ls hl => ?_)
                    refine lv_goto (tgt := 50) hx hb dX5_digest_80 rfl ?_
                    exact ih50 (j + 1) ((31 * h3) + ((poC ki se wd hu bt i (nI j)).toInt64)) (by omega) (by rw [hi3]; rfl) (by omega) _ _ _ hw (lv_sub hl [2, 1, 3, 0] rfl)
              exact lp50 (5 - 0 + 1) 0 h2 (by omega) (rfl) (by omega) _ _ _ hw (lv_sub hl [1, 2, 3, 0] rfl)
        exact lp33 (n - 0 + 1) 0 hv (by omega) (rfl) (by omega) _ _ _ hw (lv_sub hl [1, 2, 0] rfl)
      · skip
        have cq9 : ¬ 7 < q := fun h => cq9 ((cv_lt (a := 7) (b := q) rfl rfl (by omega) (by omega)).mpr h)
        refine lv_ldc2 hx hb E.2.2.2.1 (E.2.2.2.2.2.2.w kc_X5_214) dX5_digest_12 ?_
        refine lv_lload_n hx hb dX5_digest_15 rfl (lv_at hl 1 rfl) ?_
        refine lv_lmul hx hb dX5_digest_16 ?_
        refine lv_aload_n hx hb dX5_digest_17 rfl (lv_at hl 0 rfl) ?_
        refine lv_iload_n hx hb dX5_digest_18 rfl (lv_at hl 2 rfl) ?_
        refine b_callV (is := [0, 1, 2, 3, 4, 5]) (wb := [xO G x0 s0 g0 k0 xt tr sg rf ab bl, oS G s0 t0 p0 n0, tW G t0 wo mi bi la (nI n) ki se wd hu bt, pW G p0 (nI o) (nI u) T, nW G n0 np (nI zn), xT G xt f (nI z) pl sa tk vl]) (wb' := [xO G x0 s0 g0 k0 xt tr sg rf ab bl, oS G s0 t0 p0 n0, tW G t0 wo mi bi la (nI n) ki se wd hu bt, pW G p0 (nI o) (nI u) T, nW G n0 np (nI zn), xT G xt f (nI z) pl sa tk vl]) (As := [.int (nI q)]) (rest := [.long (31 * hv)]) (st1 := [.int (if (nI q) = 0 then nI n else if (nI q) = 1 then mi else if (nI q) = 2 then bi else if (nI q) = 3 then la else if (nI q) = 4 then wo else if (nI q) = 5 then nI zn else if (nI q) = 6 then nI u else nI z), .long (31 * hv)]) (bs' := [xO G x0 s0 g0 k0 xt tr sg rf ab bl, oS G s0 t0 p0 n0, tW G t0 wo mi bi la (nI n) ki se wd hu bt, pW G p0 (nI o) (nI u) T, nW G n0 np (nI zn), xT G xt f (nI z) pl sa tk vl]) E (c_X5_howMany l G x0 s0 t0 p0 n0 g0 k0 xt tr sg rf (nI q) ab bl wo mi bi la n ki se wd hu bt o u T np zn f z pl sa tk vl) vw_X5_219 hw [0, 1, 2, 3, 4, 5] rfl 0 0 rfl rfl rfl rfl rfl rfl rfl rfl rfl hl.1 rfl rfl (Nat.le_of_ble_eq_true rfl) ⟨Nat.le_of_ble_eq_true rfl, Nat.le_of_ble_eq_true rfl⟩ (Nat.zero_le _) (Nat.zero_le _) dX5_digest_19 rfl rfl (fun H locs hw => ?_)
        refine x_topi (y := hmC wo mi bi la n zn u z (nI q)) (rfl) ?_
        refine lv_i2l (v := (hmC wo mi bi la n zn u z (nI q)).toInt64) hx hb dX5_digest_22 rfl ?_
        refine lv_ladd hx hb dX5_digest_23 ?_
        refine lv_lstore_n (lv' := [(1, .long ((31 * hv) + ((hmC wo mi bi la n zn u z (nI q)).toInt64))), (0, .ref x0), (3, .int (nI q))]) hx hb dX5_digest_24 rfl hl (by decide) rfl (fun ls hl => ?_)
        refine lv_iinc (v := nI (q + 1)) (lv' := [(3, .int (nI (q + 1))), (1, .long ((31 * hv) + ((hmC wo mi bi la n zn u z (nI q)).toInt64))), (0, .ref x0)]) hx hb dX5_digest_25 hl (k := 2) rfl (nI_add _ 1) (by decide) rfl (fun ls hl => ?_)
        refine lv_goto (tgt := 6) hx hb dX5_digest_28 rfl ?_
        exact ih6 (q + 1) ((31 * hv) + ((hmC wo mi bi la n zn u z (nI q)).toInt64)) (by omega) (by rw [hiv]; rfl) (by omega) _ _ _ hw (lv_sub hl [2, 1, 0] rfl)
  exact lp6 (8 - 0 + 1) 0 1429 (by omega) (rfl) (by omega) _ _ _ hw (lv_sub hl [2, 1, 0] rfl)
set_option maxHeartbeats 1000000 in
set_option maxRecDepth 100000 in
theorem c_X5_read_no (K : KA) (l : Launch) (G : GG) (x0 : Nat) (s0 : Nat) (g0 : Nat) (k0 : Nat) (xt : Nat → Nat) (tr : Nat → Nat) (sg : Nat) (rf : Nat) (ab : Int64) (bl : Int64) (f : Nat → Int32) (z : Nat) (pl : Nat) (sa : Nat) (tk : Int32) (vl : Int32) (wo1 : Int32) (mi1 : Int32) (bi1 : Int32) (la1 : Int32) (ch1 : Int32) (ki1 : Nat → Int32) (se1 : Nat → Int32) (wd1 : Nat → Int32) (hu1 : Nat → Int32) (bt1 : Nat → Int32) (Z : (Int32 × Cs × Tq) × Int32) (hz : z ≤ 150) (hZ : rdC f z (0, sa, tk, vl) (0, ki1, se1, wd1, hu1, bt1) = Z) (h1 : Z.1.1 ≤ 0) : CK K l G yX5_read cX5_read 2 (some .int) 10 215 [.ref x0] ([xO G x0 s0 g0 k0 xt tr sg rf ab bl, xT G xt f (nI z) (nI pl) (nI sa) tk vl, tW G tr wo1 mi1 bi1 la1 ch1 ki1 se1 wd1 hu1 bt1].flatten) (some (.int Z.1.1)) ([xO G x0 s0 g0 k0 xt tr sg rf ab bl, xT G xt f (nI z) (nI Z.1.2.1.1) (nI Z.1.2.1.2.1) Z.1.2.1.2.2.1 Z.1.2.1.2.2.2, tW G tr Z.2 0 0 0 (nI Z.1.2.2.1) Z.1.2.2.2.1 Z.1.2.2.2.2.1 Z.1.2.2.2.2.2.1 Z.1.2.2.2.2.2.2.1 Z.1.2.2.2.2.2.2.2].flatten) := by
  refine CK.mk (own := RX5) (la := [(0, .ref x0)]) (by decide) rfl (Nat.le_of_ble_eq_true rfl) rfl ?_
  intro p e s m args below meth c A Q E hA hw rt ls hl hS
  have hx := E.1
  have hb := E.2.1
  refine lv_aload_n hx hb dX5_read_0 rfl (lv_at hl 0 rfl) ?_
  refine b_get E hw fw_X5_27 0 0 rfl rfl rfl dX5_read_1 ?_
  refine lv_aload_n hx hb dX5_read_4 rfl (lv_at hl 0 rfl) ?_
  refine b_get E hw fw_X5_34 0 0 rfl rfl rfl dX5_read_5 ?_
  refine bk_callV (is := [1, 2]) (wb := [xT G xt f (nI z) (nI pl) (nI sa) tk vl, tW G tr wo1 mi1 bi1 la1 ch1 ki1 se1 wd1 hu1 bt1]) (wb' := [xT G xt f (nI z) (nI Z.1.2.1.1) (nI Z.1.2.1.2.1) Z.1.2.1.2.2.1 Z.1.2.1.2.2.2, tW G tr Z.2 0 0 0 (nI Z.1.2.2.1) Z.1.2.2.2.1 Z.1.2.2.2.2.1 Z.1.2.2.2.2.2.1 Z.1.2.2.2.2.2.2.1 Z.1.2.2.2.2.2.2.2]) (As := [.ref (tr 0)]) (rest := []) (st1 := [.int Z.1.1]) (bs' := [xO G x0 s0 g0 k0 xt tr sg rf ab bl, xT G xt f (nI z) (nI Z.1.2.1.1) (nI Z.1.2.1.2.1) Z.1.2.1.2.2.1 Z.1.2.1.2.2.2, tW G tr Z.2 0 0 0 (nI Z.1.2.2.1) Z.1.2.2.2.1 Z.1.2.2.2.2.1 Z.1.2.2.2.2.2.1 Z.1.2.2.2.2.2.2.1 Z.1.2.2.2.2.2.2.2]) E hS (c_X4_readInto K l G xt tr f z (pl, sa, tk, vl) wo1 mi1 bi1 la1 ch1 ki1 se1 wd1 hu1 bt1 Z (hz) (hZ)) vw_X5_101 hw [1, 2] rfl 1 0 rfl rfl rfl rfl rfl rfl (flat2 _ _) (flat2 _ _) rfl hl.1 rfl rfl (Nat.le_of_ble_eq_true rfl) ⟨Nat.le_of_ble_eq_true rfl, Nat.le_of_ble_eq_true rfl⟩ (Nat.zero_le _) (Nat.zero_le _) dX5_read_8 rfl rfl (fun H locs hw => ?_)
  refine lv_istore_n (lv' := [(1, .int Z.1.1), (0, .ref x0)]) hx hb dX5_read_11 rfl hl (by decide) rfl (fun ls hl => ?_)
  refine lv_iload_n hx hb dX5_read_12 rfl (lv_at hl 0 rfl) ?_
  refine lv_if_le (tgt := 27) hx hb dX5_read_13 rfl (fun cq13 => ?_) (fun cq13 => ?_)
  · skip
    refine lv_iload_n hx hb dX5_read_27 rfl (lv_at hl 0 rfl) ?_
    exact x_iret E hA rt hw dX5_read_28 (rfl) rfl
  · skip
    exact (cq13 h1).elim
set_option maxHeartbeats 1000000 in
set_option maxRecDepth 100000 in
theorem c_X5_read_ok (K : KA) (l : Launch) (G : GG) (x0 : Nat) (s0 : Nat) (t0 : Nat → Nat) (p0 : Nat → Nat) (n0 : Nat → Nat) (g0 : Nat) (k0 : Nat) (xt : Nat → Nat) (tr : Nat → Nat) (sg : Nat) (rf : Nat) (ab : Int64) (bl : Int64) (wo : Int32) (mi : Int32) (bi : Int32) (la : Int32) (n : Nat) (ki : Nat → Int32) (se : Nat → Int32) (wd : Nat → Int32) (hu : Nat → Int32) (bt : Nat → Int32) (o : Nat) (u : Nat) (T : Nat → Tb) (np : Nat → Int32) (zn : Nat) (f : Nat → Int32) (z : Nat) (pl : Nat) (sa : Nat) (tk : Int32) (vl : Int32) (wo1 : Int32) (mi1 : Int32) (bi1 : Int32) (la1 : Int32) (ch1 : Int32) (ki1 : Nat → Int32) (se1 : Nat → Int32) (wd1 : Nat → Int32) (hu1 : Nat → Int32) (bt1 : Nat → Int32) (Z : (Int32 × Cs × Tq) × Int32) (hz : z ≤ 150) (hZ : rdC f z (0, sa, tk, vl) (0, ki1, se1, wd1, hu1, bt1) = Z) (h1 : ¬ Z.1.1 ≤ 0) : CK K l G yX5_read cX5_read 2 (some .int) 10 215 [.ref x0] ([xO G x0 s0 g0 k0 xt tr sg rf ab bl, oS G s0 t0 p0 n0, tW G t0 wo mi bi la (nI n) ki se wd hu bt, pW G p0 (nI o) (nI u) T, nW G n0 np (nI zn), xT G xt f (nI z) (nI pl) (nI sa) tk vl, tW G tr wo1 mi1 bi1 la1 ch1 ki1 se1 wd1 hu1 bt1].flatten) (some (.int Z.1.1)) ([xO G x0 s0 g0 k0 xt tr sg rf ab bl, oS G s0 t0 p0 n0, tW G t0 Z.2 0 0 0 (nI Z.1.2.2.1) Z.1.2.2.2.1 Z.1.2.2.2.2.1 Z.1.2.2.2.2.2.1 Z.1.2.2.2.2.2.2.1 Z.1.2.2.2.2.2.2.2, pW G p0 0 0 T, nW G n0 np 0, xT G xt f (nI z) (nI Z.1.2.1.1) (nI Z.1.2.1.2.1) Z.1.2.1.2.2.1 Z.1.2.1.2.2.2, tW G tr Z.2 0 0 0 (nI Z.1.2.2.1) Z.1.2.2.2.1 Z.1.2.2.2.2.1 Z.1.2.2.2.2.2.1 Z.1.2.2.2.2.2.2.1 Z.1.2.2.2.2.2.2.2].flatten) := by
  refine CK.mk (own := RX5) (la := [(0, .ref x0)]) (by decide) rfl (Nat.le_of_ble_eq_true rfl) rfl ?_
  intro p e s m args below meth c A Q E hA hw rt ls hl hS
  have hx := E.1
  have hb := E.2.1
  refine lv_aload_n hx hb dX5_read_0 rfl (lv_at hl 0 rfl) ?_
  refine b_get E hw fw_X5_27 0 0 rfl rfl rfl dX5_read_1 ?_
  refine lv_aload_n hx hb dX5_read_4 rfl (lv_at hl 0 rfl) ?_
  refine b_get E hw fw_X5_34 0 0 rfl rfl rfl dX5_read_5 ?_
  refine bk_callV (is := [5, 6]) (wb := [xT G xt f (nI z) (nI pl) (nI sa) tk vl, tW G tr wo1 mi1 bi1 la1 ch1 ki1 se1 wd1 hu1 bt1]) (wb' := [xT G xt f (nI z) (nI Z.1.2.1.1) (nI Z.1.2.1.2.1) Z.1.2.1.2.2.1 Z.1.2.1.2.2.2, tW G tr Z.2 0 0 0 (nI Z.1.2.2.1) Z.1.2.2.2.1 Z.1.2.2.2.2.1 Z.1.2.2.2.2.2.1 Z.1.2.2.2.2.2.2.1 Z.1.2.2.2.2.2.2.2]) (As := [.ref (tr 0)]) (rest := []) (st1 := [.int Z.1.1]) (bs' := [xO G x0 s0 g0 k0 xt tr sg rf ab bl, oS G s0 t0 p0 n0, tW G t0 wo mi bi la (nI n) ki se wd hu bt, pW G p0 (nI o) (nI u) T, nW G n0 np (nI zn), xT G xt f (nI z) (nI Z.1.2.1.1) (nI Z.1.2.1.2.1) Z.1.2.1.2.2.1 Z.1.2.1.2.2.2, tW G tr Z.2 0 0 0 (nI Z.1.2.2.1) Z.1.2.2.2.1 Z.1.2.2.2.2.1 Z.1.2.2.2.2.2.1 Z.1.2.2.2.2.2.2.1 Z.1.2.2.2.2.2.2.2]) E hS (c_X4_readInto K l G xt tr f z (pl, sa, tk, vl) wo1 mi1 bi1 la1 ch1 ki1 se1 wd1 hu1 bt1 Z (hz) (hZ)) vw_X5_101 hw [5, 6] rfl 5 0 rfl rfl rfl rfl rfl rfl (flat2 _ _) (flat2 _ _) rfl hl.1 rfl rfl (Nat.le_of_ble_eq_true rfl) ⟨Nat.le_of_ble_eq_true rfl, Nat.le_of_ble_eq_true rfl⟩ (Nat.zero_le _) (Nat.zero_le _) dX5_read_8 rfl rfl (fun H locs hw => ?_)
  refine lv_istore_n (lv' := [(1, .int Z.1.1), (0, .ref x0)]) hx hb dX5_read_11 rfl hl (by decide) rfl (fun ls hl => ?_)
  refine lv_iload_n hx hb dX5_read_12 rfl (lv_at hl 0 rfl) ?_
  refine lv_if_le (tgt := 27) hx hb dX5_read_13 rfl (fun cq13 => ?_) (fun cq13 => ?_)
  · skip
    exact (h1 cq13).elim
  · skip
    refine lv_aload_n hx hb dX5_read_16 rfl (lv_at hl 1 rfl) ?_
    refine b_get E hw fw_X5_10 0 0 rfl rfl rfl dX5_read_17 ?_
    refine lv_aload_n hx hb dX5_read_20 rfl (lv_at hl 1 rfl) ?_
    refine b_get E hw fw_X5_34 0 0 rfl rfl rfl dX5_read_21 ?_
    refine b_callV (is := [1, 2, 3, 4, 6]) (wb := [oS G s0 t0 p0 n0, tW G t0 wo mi bi la (nI n) ki se wd hu bt, pW G p0 (nI o) (nI u) T, nW G n0 np (nI zn), tW G tr Z.2 0 0 0 (nI Z.1.2.2.1) Z.1.2.2.2.1 Z.1.2.2.2.2.1 Z.1.2.2.2.2.2.1 Z.1.2.2.2.2.2.2.1 Z.1.2.2.2.2.2.2.2]) (wb' := [oS G s0 t0 p0 n0, tW G t0 Z.2 0 0 0 (nI Z.1.2.2.1) Z.1.2.2.2.1 Z.1.2.2.2.2.1 Z.1.2.2.2.2.2.1 Z.1.2.2.2.2.2.2.1 Z.1.2.2.2.2.2.2.2, pW G p0 0 0 T, nW G n0 np 0, tW G tr Z.2 0 0 0 (nI Z.1.2.2.1) Z.1.2.2.2.1 Z.1.2.2.2.2.1 Z.1.2.2.2.2.2.1 Z.1.2.2.2.2.2.2.1 Z.1.2.2.2.2.2.2.2]) (As := [.ref (tr 0)]) (rest := []) (st1 := []) (bs' := [xO G x0 s0 g0 k0 xt tr sg rf ab bl, oS G s0 t0 p0 n0, tW G t0 Z.2 0 0 0 (nI Z.1.2.2.1) Z.1.2.2.2.1 Z.1.2.2.2.2.1 Z.1.2.2.2.2.2.1 Z.1.2.2.2.2.2.2.1 Z.1.2.2.2.2.2.2.2, pW G p0 0 0 T, nW G n0 np 0, xT G xt f (nI z) (nI Z.1.2.1.1) (nI Z.1.2.1.2.1) Z.1.2.1.2.2.1 Z.1.2.1.2.2.2, tW G tr Z.2 0 0 0 (nI Z.1.2.2.1) Z.1.2.2.2.1 Z.1.2.2.2.2.1 Z.1.2.2.2.2.2.1 Z.1.2.2.2.2.2.2.1 Z.1.2.2.2.2.2.2.2]) E (c_X2_beginWith l G s0 t0 p0 n0 tr wo mi bi la (nI n) ki se wd hu bt (nI o) (nI u) T np (nI zn) Z.2 0 0 0 (nI Z.1.2.2.1) Z.1.2.2.2.1 Z.1.2.2.2.2.1 Z.1.2.2.2.2.2.1 Z.1.2.2.2.2.2.2.1 Z.1.2.2.2.2.2.2.2) vw_X5_71 hw [1, 2, 3, 4, 6] rfl 1 0 rfl rfl rfl rfl rfl rfl rfl rfl rfl hl.1 rfl rfl (Nat.le_of_ble_eq_true rfl) ⟨Nat.le_of_ble_eq_true rfl, Nat.le_of_ble_eq_true rfl⟩ (Nat.zero_le _) (Nat.zero_le _) dX5_read_24 rfl rfl (fun H locs hw => ?_)
    refine lv_iload_n hx hb dX5_read_27 rfl (lv_at hl 0 rfl) ?_
    exact x_iret E hA rt hw dX5_read_28 (rfl) rfl

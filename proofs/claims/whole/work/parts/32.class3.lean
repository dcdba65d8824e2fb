set_option maxHeartbeats 1000000 in
set_option maxRecDepth 100000 in
theorem c_X5_minute_bad (l : Launch) (G : GG) (x0 : Nat) (s0 : Nat) (g0 : Nat) (k0 : Nat) (xt : Nat → Nat) (tr : Nat → Nat) (sg : Nat) (rf : Nat) (x : Int32) (ab : Int64) (bl : Int64) (rfd : Nat → Int32) (h1 : inI x 1 60 = false) : CT l G yX5_minute cX5_minute 2 (some .int) 2 44 [.ref x0, .int x] ([xO G x0 s0 g0 k0 xt tr sg rf ab bl, aW G rf 3 rfd].flatten) (some (.int (-2))) ([xO G x0 s0 g0 k0 xt tr sg rf ab bl, aW G rf 3 (upd rfd 0 (rfd 0 + 1))].flatten) := by
  refine CT.mk (own := RX5) (la := [(0, .ref x0), (1, .int x)]) (by decide) rfl (Nat.le_of_ble_eq_true rfl) rfl ?_
  intro p e s m args below meth c A Q E hA hw rt ls hl
  have hx := E.1
  have hb := E.2.1
  refine lv_iload_n hx hb dX5_minute_0 rfl (lv_at hl 1 rfl) ?_
  refine lv_iconst (v := 1) hx hb dX5_minute_1 rfl ?_
  refine lv_bipush (v := 60) hx hb dX5_minute_2 rfl ?_
  refine b_callS (is := []) (wb := []) (wb' := []) (As := [.int x, .int 1, .int 60]) (rest := []) (st1 := [.int (bI (inI x 1 60))]) (bs' := [xO G x0 s0 g0 k0 xt tr sg rf ab bl, aW G rf 3 rfd]) E (c_X5_within l G x 1 60) sw_X5_75 hw [] rfl rfl rfl rfl rfl rfl hl.1 rfl rfl (Nat.le_of_ble_eq_true rfl) ⟨Nat.le_of_ble_eq_true rfl, Nat.le_of_ble_eq_true rfl⟩ (Nat.zero_le _) (Nat.zero_le _) dX5_minute_4 rfl rfl (fun H locs hw => ?_)
  refine lv_if_ne (tgt := 17) hx hb dX5_minute_7 rfl (fun cq7 => ?_) (fun cq7 => ?_)
  · skip
    have cq7 := bI_n0.mp cq7
    exact absurd cq7 (by rw [h1]; decide)
  · skip
    have cq7 := bI_0.mp cq7
    refine lv_aload_n hx hb dX5_minute_10 rfl (lv_at hl 0 rfl) ?_
    refine lv_bipush (v := -2) hx hb dX5_minute_11 rfl ?_
    refine b_callV (is := [0, 1]) (wb := [xO G x0 s0 g0 k0 xt tr sg rf ab bl, aW G rf 3 rfd]) (wb' := [xO G x0 s0 g0 k0 xt tr sg rf ab bl, aW G rf 3 (upd rfd 0 (rfd 0 + 1))]) (As := [.int (-2)]) (rest := []) (st1 := [.int (-2)]) (bs' := [xO G x0 s0 g0 k0 xt tr sg rf ab bl, aW G rf 3 (upd rfd 0 (rfd 0 + 1))]) E (c_X5_refuse l G x0 s0 g0 k0 xt tr sg rf (-2) ab bl rfd 0 (by omega) (by decide)) vw_X5_56 hw [0, 1] rfl 0 0 rfl rfl rfl rfl rfl rfl rfl rfl rfl hl.1 rfl rfl (Nat.le_of_ble_eq_true rfl) ⟨Nat.le_of_ble_eq_true rfl, Nat.le_of_ble_eq_true rfl⟩ (Nat.zero_le _) (Nat.zero_le _) dX5_minute_13 rfl rfl (fun H locs hw => ?_)
    exact x_iret E hA rt hw dX5_minute_16 (rfl) rfl
set_option maxHeartbeats 1000000 in
set_option maxRecDepth 100000 in
theorem c_X5_minute_ok (l : Launch) (G : GG) (x0 : Nat) (s0 : Nat) (t0 : Nat → Nat) (p0 : Nat → Nat) (n0 : Nat → Nat) (g0 : Nat) (k0 : Nat) (xt : Nat → Nat) (tr : Nat → Nat) (sg : Nat) (rf : Nat) (x : Int32) (xx : Nat) (hv_x : x = nI xx) (ab : Int64) (bl : Int64) (wo : Int32) (mn : Nat) (bi : Int32) (la : Int32) (n : Nat) (ki : Nat → Int32) (se : Nat → Int32) (wd : Nat → Int32) (hu : Nat → Int32) (bt : Nat → Int32) (o : Nat) (u : Nat) (T : Nat → Tb) (D : Dy) (hn : n ≤ 6) (ho : o < 8) (hu8 : u ≤ 8) (h1 : inI x 1 60 = true) (hmn : mn ≤ 999) (hxx : xx ≤ 60) (hD : pmN wo n ki se wd (min xx (999 - mn)) (nI mn, bi, la, hu, bt) = D) : CT l G yX5_minute cX5_minute 2 (some .int) 6 132 [.ref x0, .int x] ([xO G x0 s0 g0 k0 xt tr sg rf ab bl, oS G s0 t0 p0 n0, tW G t0 wo (nI mn) bi la (nI n) ki se wd hu bt, pW G p0 (nI o) (nI u) T].flatten) (some (.int (D.2.1 - bi))) ([xO G x0 s0 g0 k0 xt tr sg rf ab bl, oS G s0 t0 p0 n0, tW G t0 wo D.1 D.2.1 D.2.2.1 (nI n) ki se wd D.2.2.2.1 D.2.2.2.2, pW G p0 (nI (kpO o u)) (nI (kpZ u)) (updT T ((kpO o u + kpZ u - 1) % 8) (wo, nI mn, bi, la, nI n, ki, se, wd, hu, bt))].flatten) := by
  refine CT.mk (own := RX5) (la := [(0, .ref x0), (1, .int x)]) (by decide) rfl (Nat.le_of_ble_eq_true rfl) rfl ?_
  intro p e s m args below meth c A Q E hA hw rt ls hl
  have hx := E.1
  have hb := E.2.1
  refine lv_iload_n hx hb dX5_minute_0 rfl (lv_at hl 1 rfl) ?_
  refine lv_iconst (v := 1) hx hb dX5_minute_1 rfl ?_
  refine lv_bipush (v := 60) hx hb dX5_minute_2 rfl ?_
  refine b_callS (is := []) (wb := []) (wb' := []) (As := [.int x, .int 1, .int 60]) (rest := []) (st1 := [.int (bI (inI x 1 60))]) (bs' := [xO G x0 s0 g0 k0 xt tr sg rf ab bl, oS G s0 t0 p0 n0, tW G t0 wo (nI mn) bi la (nI n) ki se wd hu bt, pW G p0 (nI o) (nI u) T]) E (c_X5_within l G x 1 60) sw_X5_75 hw [] rfl rfl rfl rfl rfl rfl hl.1 rfl rfl (Nat.le_of_ble_eq_true rfl) ⟨Nat.le_of_ble_eq_true rfl, Nat.le_of_ble_eq_true rfl⟩ (Nat.zero_le _) (Nat.zero_le _) dX5_minute_4 rfl rfl (fun H locs hw => ?_)
  refine lv_if_ne (tgt := 17) hx hb dX5_minute_7 rfl (fun cq7 => ?_) (fun cq7 => ?_)
  · skip
    have cq7 := bI_n0.mp cq7
    refine lv_aload_n hx hb dX5_minute_17 rfl (lv_at hl 0 rfl) ?_
    refine b_get E hw fw_X5_10 0 0 rfl rfl rfl dX5_minute_18 ?_
    refine b_get E hw fw_X5_82 1 0 rfl rfl rfl dX5_minute_21 ?_
    refine lv_aload_n hx hb dX5_minute_24 rfl (lv_at hl 0 rfl) ?_
    refine b_get E hw fw_X5_10 0 0 rfl rfl rfl dX5_minute_25 ?_
    refine b_get E hw fw_X5_60 1 0 rfl rfl rfl dX5_minute_28 ?_
    refine b_callV (is := [3, 2]) (wb := [pW G p0 (nI o) (nI u) T, tW G t0 wo (nI mn) bi la (nI n) ki se wd hu bt]) (wb' := [pW G p0 (nI (kpO o u)) (nI (kpZ u)) (updT T ((kpO o u + kpZ u - 1) % 8) (wo, (nI mn), bi, la, (nI n), ki, se, wd, hu, bt)), tW G t0 wo (nI mn) bi la (nI n) ki se wd hu bt]) (As := [.ref (t0 0)]) (rest := []) (st1 := []) (bs' := [xO G x0 s0 g0 k0 xt tr sg rf ab bl, oS G s0 t0 p0 n0, tW G t0 wo (nI mn) bi la (nI n) ki se wd hu bt, pW G p0 (nI (kpO o u)) (nI (kpZ u)) (updT T ((kpO o u + kpZ u - 1) % 8) (wo, (nI mn), bi, la, (nI n), ki, se, wd, hu, bt))]) E (c_X1_keep l G p0 t0 o u T wo (nI mn) bi la (nI n) ki se wd hu bt (by omega) (by omega)) vw_X5_105 hw [3, 2] rfl 3 0 rfl rfl rfl rfl rfl rfl rfl rfl rfl hl.1 rfl rfl (Nat.le_of_ble_eq_true rfl) ⟨Nat.le_of_ble_eq_true rfl, Nat.le_of_ble_eq_true rfl⟩ (Nat.zero_le _) (Nat.zero_le _) dX5_minute_31 rfl rfl (fun H locs hw => ?_)
    refine lv_aload_n hx hb dX5_minute_34 rfl (lv_at hl 0 rfl) ?_
    refine b_get E hw fw_X5_10 0 0 rfl rfl rfl dX5_minute_35 ?_
    refine b_get E hw fw_X5_60 1 0 rfl rfl rfl dX5_minute_38 ?_
    refine lv_iload_n hx hb dX5_minute_41 rfl (lv_at hl 1 rfl) ?_
    refine lv_sipush (v := 999) hx hb dX5_minute_42 rfl ?_
    refine lv_aload_n hx hb dX5_minute_45 rfl (lv_at hl 0 rfl) ?_
    refine b_get E hw fw_X5_10 0 0 rfl rfl rfl dX5_minute_46 ?_
    refine b_get E hw fw_X5_60 1 0 rfl rfl rfl dX5_minute_49 ?_
    refine b_get E hw fw_X5_108 2 0 rfl rfl rfl dX5_minute_52 ?_
    refine lv_isub hx hb dX5_minute_55 ?_
    refine x_mmin (v := (if (999 - (nI mn)) < x then (999 - (nI mn)) else x)) E lw_X5_111 kw_math_min hl.1 (Nat.le_of_ble_eq_true rfl) (Nat.le_of_ble_eq_true rfl) (Nat.zero_le _) (Nat.zero_le _) dX5_minute_56 rfl ?_
    refine x_topi (y := nI (min xx (999 - mn))) (minI hv_x hmn hxx) ?_
    refine b_callV (is := [2]) (wb := [tW G t0 wo (nI mn) bi la (nI n) ki se wd hu bt]) (wb' := [tW G t0 wo D.1 D.2.1 D.2.2.1 (nI n) ki se wd D.2.2.2.1 D.2.2.2.2]) (As := [.int (nI (min xx (999 - mn)))]) (rest := []) (st1 := [.int (D.2.1 - bi)]) (bs' := [xO G x0 s0 g0 k0 xt tr sg rf ab bl, oS G s0 t0 p0 n0, tW G t0 wo D.1 D.2.1 D.2.2.1 (nI n) ki se wd D.2.2.2.1 D.2.2.2.2, pW G p0 (nI (kpO o u)) (nI (kpZ u)) (updT T ((kpO o u + kpZ u - 1) % 8) (wo, (nI mn), bi, la, (nI n), ki, se, wd, hu, bt))]) E (c_X3_passM l G t0 (nI (min xx (999 - mn))) (min xx (999 - mn)) (rfl) wo (nI mn) bi la n ki se wd hu bt D (by omega) (by omega) (hD)) vw_X5_117 hw [2] rfl 2 0 rfl rfl rfl rfl rfl rfl (flat1 _) (flat1 _) rfl hl.1 rfl rfl (Nat.le_of_ble_eq_true rfl) ⟨Nat.le_of_ble_eq_true rfl, Nat.le_of_ble_eq_true rfl⟩ (Nat.zero_le _) (Nat.zero_le _) dX5_minute_59 rfl rfl (fun H locs hw => ?_)
    exact x_iret E hA rt hw dX5_minute_62 (rfl) rfl
  · skip
    have cq7 := bI_0.mp cq7
    exact absurd cq7 (by rw [h1]; decide)
set_option maxHeartbeats 1000000 in
set_option maxRecDepth 100000 in
theorem c_X5_carrot_bad (l : Launch) (G : GG) (x0 : Nat) (s0 : Nat) (t0 : Nat → Nat) (p0 : Nat → Nat) (n0 : Nat → Nat) (g0 : Nat) (k0 : Nat) (xt : Nat → Nat) (tr : Nat → Nat) (sg : Nat) (rf : Nat) (x : Int32) (ab : Int64) (bl : Int64) (wo : Int32) (mi : Int32) (bi : Int32) (la : Int32) (n : Nat) (ki : Nat → Int32) (se : Nat → Int32) (wd : Nat → Int32) (hu : Nat → Int32) (bt : Nat → Int32) (rfd : Nat → Int32) (h1 : inI x 0 (nI n - 1) = false) : CT l G yX5_carrot cX5_carrot 2 (some .int) 2 44 [.ref x0, .int x] ([xO G x0 s0 g0 k0 xt tr sg rf ab bl, oS G s0 t0 p0 n0, tW G t0 wo mi bi la (nI n) ki se wd hu bt, aW G rf 3 rfd].flatten) (some (.int (-2))) ([xO G x0 s0 g0 k0 xt tr sg rf ab bl, oS G s0 t0 p0 n0, tW G t0 wo mi bi la (nI n) ki se wd hu bt, aW G rf 3 (upd rfd 0 (rfd 0 + 1))].flatten) := by
  refine CT.mk (own := RX5) (la := [(0, .ref x0), (1, .int x)]) (by decide) rfl (Nat.le_of_ble_eq_true rfl) rfl ?_
  intro p e s m args below meth c A Q E hA hw rt ls hl
  have hx := E.1
  have hb := E.2.1
  refine lv_aload_n hx hb dX5_carrot_0 rfl (lv_at hl 0 rfl) ?_
  refine lv_iload_n hx hb dX5_carrot_1 rfl (lv_at hl 1 rfl) ?_
  refine b_callV (is := [0, 1, 2]) (wb := [xO G x0 s0 g0 k0 xt tr sg rf ab bl, oS G s0 t0 p0 n0, tW G t0 wo mi bi la (nI n) ki se wd hu bt]) (wb' := [xO G x0 s0 g0 k0 xt tr sg rf ab bl, oS G s0 t0 p0 n0, tW G t0 wo mi bi la (nI n) ki se wd hu bt]) (As := [.int x]) (rest := []) (st1 := [.int (bI (inI x 0 (nI n - 1)))]) (bs' := [xO G x0 s0 g0 k0 xt tr sg rf ab bl, oS G s0 t0 p0 n0, tW G t0 wo mi bi la (nI n) ki se wd hu bt, aW G rf 3 rfd]) E (c_X5_isChild l G x0 s0 t0 p0 n0 g0 k0 xt tr sg rf x ab bl wo mi bi la n ki se wd hu bt) vw_X5_120 hw [0, 1, 2] rfl 0 0 rfl rfl rfl rfl rfl rfl rfl rfl rfl hl.1 rfl rfl (Nat.le_of_ble_eq_true rfl) ⟨Nat.le_of_ble_eq_true rfl, Nat.le_of_ble_eq_true rfl⟩ (Nat.zero_le _) (Nat.zero_le _) dX5_carrot_2 rfl rfl (fun H locs hw => ?_)
  refine lv_if_ne (tgt := 15) hx hb dX5_carrot_5 rfl (fun cq5 => ?_) (fun cq5 => ?_)
  · skip
    have cq5 := bI_n0.mp cq5
    exact absurd cq5 (by rw [h1]; decide)
  · skip
    have cq5 := bI_0.mp cq5
    refine lv_aload_n hx hb dX5_carrot_8 rfl (lv_at hl 0 rfl) ?_
    refine lv_bipush (v := -2) hx hb dX5_carrot_9 rfl ?_
    refine b_callV (is := [0, 3]) (wb := [xO G x0 s0 g0 k0 xt tr sg rf ab bl, aW G rf 3 rfd]) (wb' := [xO G x0 s0 g0 k0 xt tr sg rf ab bl, aW G rf 3 (upd rfd 0 (rfd 0 + 1))]) (As := [.int (-2)]) (rest := []) (st1 := [.int (-2)]) (bs' := [xO G x0 s0 g0 k0 xt tr sg rf ab bl, oS G s0 t0 p0 n0, tW G t0 wo mi bi la (nI n) ki se wd hu bt, aW G rf 3 (upd rfd 0 (rfd 0 + 1))]) E (c_X5_refuse l G x0 s0 g0 k0 xt tr sg rf (-2) ab bl rfd 0 (by omega) (by decide)) vw_X5_56 hw [0, 3] rfl 0 0 rfl rfl rfl rfl rfl rfl rfl rfl rfl hl.1 rfl rfl (Nat.le_of_ble_eq_true rfl) ⟨Nat.le_of_ble_eq_true rfl, Nat.le_of_ble_eq_true rfl⟩ (Nat.zero_le _) (Nat.zero_le _) dX5_carrot_11 rfl rfl (fun H locs hw => ?_)
    exact x_iret E hA rt hw dX5_carrot_14 (rfl) rfl
set_option maxHeartbeats 1000000 in
set_option maxRecDepth 100000 in
theorem c_X5_carrot_ok (l : Launch) (G : GG) (x0 : Nat) (s0 : Nat) (t0 : Nat → Nat) (p0 : Nat → Nat) (n0 : Nat → Nat) (g0 : Nat) (k0 : Nat) (xt : Nat → Nat) (tr : Nat → Nat) (sg : Nat) (rf : Nat) (x : Int32) (k : Nat) (hv_x : x = nI k) (ab : Int64) (bl : Int64) (wo : Int32) (mi : Int32) (bi : Int32) (la : Int32) (n : Nat) (ki : Nat → Int32) (se : Nat → Int32) (wd : Nat → Int32) (hu : Nat → Int32) (bt : Nat → Int32) (o : Nat) (u : Nat) (T : Nat → Tb) (hn : n ≤ 6) (ho : o < 8) (hu8 : u ≤ 8) (h1 : inI x 0 (nI n - 1) = true) (hk : k < n) : CT l G yX5_carrot cX5_carrot 2 (some .int) 3 60 [.ref x0, .int x] ([xO G x0 s0 g0 k0 xt tr sg rf ab bl, oS G s0 t0 p0 n0, tW G t0 wo mi bi la (nI n) ki se wd hu bt, pW G p0 (nI o) (nI u) T].flatten) (some (.int (mx0 (hu k - 10)))) ([xO G x0 s0 g0 k0 xt tr sg rf ab bl, oS G s0 t0 p0 n0, tW G t0 wo mi bi la (nI n) ki se wd (upd hu k (mx0 (hu k - 10))) bt, pW G p0 (nI (kpO o u)) (nI (kpZ u)) (updT T ((kpO o u + kpZ u - 1) % 8) (wo, mi, bi, la, nI n, ki, se, wd, hu, bt))].flatten) := by
  refine CT.mk (own := RX5) (la := [(0, .ref x0), (1, .int x)]) (by decide) rfl (Nat.le_of_ble_eq_true rfl) rfl ?_
  intro p e s m args below meth c A Q E hA hw rt ls hl
  have hx := E.1
  have hb := E.2.1
  refine lv_aload_n hx hb dX5_carrot_0 rfl (lv_at hl 0 rfl) ?_
  refine lv_iload_n hx hb dX5_carrot_1 rfl (lv_at hl 1 rfl) ?_
  refine b_callV (is := [0, 1, 2]) (wb := [xO G x0 s0 g0 k0 xt tr sg rf ab bl, oS G s0 t0 p0 n0, tW G t0 wo mi bi la (nI n) ki se wd hu bt]) (wb' := [xO G x0 s0 g0 k0 xt tr sg rf ab bl, oS G s0 t0 p0 n0, tW G t0 wo mi bi la (nI n) ki se wd hu bt]) (As := [.int x]) (rest := []) (st1 := [.int (bI (inI x 0 (nI n - 1)))]) (bs' := [xO G x0 s0 g0 k0 xt tr sg rf ab bl, oS G s0 t0 p0 n0, tW G t0 wo mi bi la (nI n) ki se wd hu bt, pW G p0 (nI o) (nI u) T]) E (c_X5_isChild l G x0 s0 t0 p0 n0 g0 k0 xt tr sg rf x ab bl wo mi bi la n ki se wd hu bt) vw_X5_120 hw [0, 1, 2] rfl 0 0 rfl rfl rfl rfl rfl rfl rfl rfl rfl hl.1 rfl rfl (Nat.le_of_ble_eq_true rfl) ⟨Nat.le_of_ble_eq_true rfl, Nat.le_of_ble_eq_true rfl⟩ (Nat.zero_le _) (Nat.zero_le _) dX5_carrot_2 rfl rfl (fun H locs hw => ?_)
  refine lv_if_ne (tgt := 15) hx hb dX5_carrot_5 rfl (fun cq5 => ?_) (fun cq5 => ?_)
  · skip
    have cq5 := bI_n0.mp cq5
    refine lv_aload_n hx hb dX5_carrot_15 rfl (lv_at hl 0 rfl) ?_
    refine b_get E hw fw_X5_10 0 0 rfl rfl rfl dX5_carrot_16 ?_
    refine b_get E hw fw_X5_82 1 0 rfl rfl rfl dX5_carrot_19 ?_
    refine lv_aload_n hx hb dX5_carrot_22 rfl (lv_at hl 0 rfl) ?_
    refine b_get E hw fw_X5_10 0 0 rfl rfl rfl dX5_carrot_23 ?_
    refine b_get E hw fw_X5_60 1 0 rfl rfl rfl dX5_carrot_26 ?_
    refine b_callV (is := [3, 2]) (wb := [pW G p0 (nI o) (nI u) T, tW G t0 wo mi bi la (nI n) ki se wd hu bt]) (wb' := [pW G p0 (nI (kpO o u)) (nI (kpZ u)) (updT T ((kpO o u + kpZ u - 1) % 8) (wo, mi, bi, la, (nI n), ki, se, wd, hu, bt)), tW G t0 wo mi bi la (nI n) ki se wd hu bt]) (As := [.ref (t0 0)]) (rest := []) (st1 := []) (bs' := [xO G x0 s0 g0 k0 xt tr sg rf ab bl, oS G s0 t0 p0 n0, tW G t0 wo mi bi la (nI n) ki se wd hu bt, pW G p0 (nI (kpO o u)) (nI (kpZ u)) (updT T ((kpO o u + kpZ u - 1) % 8) (wo, mi, bi, la, (nI n), ki, se, wd, hu, bt))]) E (c_X1_keep l G p0 t0 o u T wo mi bi la (nI n) ki se wd hu bt (by omega) (by omega)) vw_X5_105 hw [3, 2] rfl 3 0 rfl rfl rfl rfl rfl rfl rfl rfl rfl hl.1 rfl rfl (Nat.le_of_ble_eq_true rfl) ⟨Nat.le_of_ble_eq_true rfl, Nat.le_of_ble_eq_true rfl⟩ (Nat.zero_le _) (Nat.zero_le _) dX5_carrot_29 rfl rfl (fun H locs hw => ?_)
    refine lv_aload_n hx hb dX5_carrot_32 rfl (lv_at hl 0 rfl) ?_
    refine b_get E hw fw_X5_10 0 0 rfl rfl rfl dX5_carrot_33 ?_
    refine b_get E hw fw_X5_60 1 0 rfl rfl rfl dX5_carrot_36 ?_
    refine lv_iload_n hx hb dX5_carrot_39 rfl (lv_at hl 1 rfl) ?_
    refine b_callV (is := [2]) (wb := [tW G t0 wo mi bi la (nI n) ki se wd hu bt]) (wb' := [tW G t0 wo mi bi la (nI n) ki se wd (upd hu k (mx0 (hu k - 10))) bt]) (As := [.int x]) (rest := []) (st1 := [.int (mx0 (hu k - 10))]) (bs' := [xO G x0 s0 g0 k0 xt tr sg rf ab bl, oS G s0 t0 p0 n0, tW G t0 wo mi bi la (nI n) ki se wd (upd hu k (mx0 (hu k - 10))) bt, pW G p0 (nI (kpO o u)) (nI (kpZ u)) (updT T ((kpO o u + kpZ u - 1) % 8) (wo, mi, bi, la, (nI n), ki, se, wd, hu, bt))]) E (c_X3_giveCarrot l G t0 x k (hv_x) wo mi bi la n ki se wd hu bt (by omega)) vw_X5_123 hw [2] rfl 2 0 rfl rfl rfl rfl rfl rfl (flat1 _) (flat1 _) rfl hl.1 rfl rfl (Nat.le_of_ble_eq_true rfl) ⟨Nat.le_of_ble_eq_true rfl, Nat.le_of_ble_eq_true rfl⟩ (Nat.zero_le _) (Nat.zero_le _) dX5_carrot_40 rfl rfl (fun H locs hw => ?_)
    exact x_iret E hA rt hw dX5_carrot_43 (rfl) rfl
  · skip
    have cq5 := bI_0.mp cq5
    exact absurd cq5 (by rw [h1]; decide)
set_option maxHeartbeats 1000000 in
set_option maxRecDepth 100000 in
theorem c_X5_moves_bad (l : Launch) (G : GG) (x0 : Nat) (s0 : Nat) (t0 : Nat → Nat) (p0 : Nat → Nat) (n0 : Nat → Nat) (g0 : Nat) (k0 : Nat) (xt : Nat → Nat) (tr : Nat → Nat) (sg : Nat) (rf : Nat) (x : Int32) (y : Int32) (ab : Int64) (bl : Int64) (wo : Int32) (mi : Int32) (bi : Int32) (la : Int32) (n : Nat) (ki : Nat → Int32) (se : Nat → Int32) (wd : Nat → Int32) (hu : Nat → Int32) (bt : Nat → Int32) (rfd : Nat → Int32) (h0 : (inI x 0 (nI n - 1) && inI y 0 7) = false) : CT l G yX5_moves cX5_moves 5 (some .int) 2 44 [.ref x0, .int x, .int y] ([xO G x0 s0 g0 k0 xt tr sg rf ab bl, oS G s0 t0 p0 n0, tW G t0 wo mi bi la (nI n) ki se wd hu bt, aW G rf 3 rfd].flatten) (some (.int (-2))) ([xO G x0 s0 g0 k0 xt tr sg rf ab bl, oS G s0 t0 p0 n0, tW G t0 wo mi bi la (nI n) ki se wd hu bt, aW G rf 3 (upd rfd 0 (rfd 0 + 1))].flatten) := by
  refine CT.mk (own := RX5) (la := [(0, .ref x0), (1, .int x), (2, .int y)]) (by decide) rfl (Nat.le_of_ble_eq_true rfl) rfl ?_
  intro p e s m args below meth c A Q E hA hw rt ls hl
  have hx := E.1
  have hb := E.2.1
  refine lv_aload_n hx hb dX5_moves_0 rfl (lv_at hl 0 rfl) ?_
  refine lv_iload_n hx hb dX5_moves_1 rfl (lv_at hl 1 rfl) ?_
  refine b_callV (is := [0, 1, 2]) (wb := [xO G x0 s0 g0 k0 xt tr sg rf ab bl, oS G s0 t0 p0 n0, tW G t0 wo mi bi la (nI n) ki se wd hu bt]) (wb' := [xO G x0 s0 g0 k0 xt tr sg rf ab bl, oS G s0 t0 p0 n0, tW G t0 wo mi bi la (nI n) ki se wd hu bt]) (As := [.int x]) (rest := []) (st1 := [.int (bI (inI x 0 (nI n - 1)))]) (bs' := [xO G x0 s0 g0 k0 xt tr sg rf ab bl, oS G s0 t0 p0 n0, tW G t0 wo mi bi la (nI n) ki se wd hu bt, aW G rf 3 rfd]) E (c_X5_isChild l G x0 s0 t0 p0 n0 g0 k0 xt tr sg rf x ab bl wo mi bi la n ki se wd hu bt) vw_X5_120 hw [0, 1, 2] rfl 0 0 rfl rfl rfl rfl rfl rfl rfl rfl rfl hl.1 rfl rfl (Nat.le_of_ble_eq_true rfl) ⟨Nat.le_of_ble_eq_true rfl, Nat.le_of_ble_eq_true rfl⟩ (Nat.zero_le _) (Nat.zero_le _) dX5_moves_2 rfl rfl (fun H locs hw => ?_)
  refine lv_if_eq (tgt := 15) hx hb dX5_moves_5 rfl (fun cq5 => ?_) (fun cq5 => ?_)
  · skip
    have cq5 := bI_0.mp cq5
    refine lv_aload_n hx hb dX5_moves_15 rfl (lv_at hl 0 rfl) ?_
    refine lv_bipush (v := -2) hx hb dX5_moves_16 rfl ?_
    refine b_callV (is := [0, 3]) (wb := [xO G x0 s0 g0 k0 xt tr sg rf ab bl, aW G rf 3 rfd]) (wb' := [xO G x0 s0 g0 k0 xt tr sg rf ab bl, aW G rf 3 (upd rfd 0 (rfd 0 + 1))]) (As := [.int (-2)]) (rest := []) (st1 := [.int (-2)]) (bs' := [xO G x0 s0 g0 k0 xt tr sg rf ab bl, oS G s0 t0 p0 n0, tW G t0 wo mi bi la (nI n) ki se wd hu bt, aW G rf 3 (upd rfd 0 (rfd 0 + 1))]) E (c_X5_refuse l G x0 s0 g0 k0 xt tr sg rf (-2) ab bl rfd 0 (by omega) (by decide)) vw_X5_56 hw [0, 3] rfl 0 0 rfl rfl rfl rfl rfl rfl rfl rfl rfl hl.1 rfl rfl (Nat.le_of_ble_eq_true rfl) ⟨Nat.le_of_ble_eq_true rfl, Nat.le_of_ble_eq_true rfl⟩ (Nat.zero_le _) (Nat.zero_le _) dX5_moves_18 rfl rfl (fun H locs hw => ?_)
    exact x_iret E hA rt hw dX5_moves_21 (rfl) rfl
  · skip
    have cq5 := bI_n0.mp cq5
    refine lv_iload_n hx hb dX5_moves_8 rfl (lv_at hl 2 rfl) ?_
    refine b_callS (is := []) (wb := []) (wb' := []) (As := [.int y]) (rest := []) (st1 := [.int (bI (inI y 0 7))]) (bs' := [xO G x0 s0 g0 k0 xt tr sg rf ab bl, oS G s0 t0 p0 n0, tW G t0 wo mi bi la (nI n) ki se wd hu bt, aW G rf 3 rfd]) E (c_X5_isSeat l G y) sw_X5_52 hw [] rfl rfl rfl rfl rfl rfl hl.1 rfl rfl (Nat.le_of_ble_eq_true rfl) ⟨Nat.le_of_ble_eq_true rfl, Nat.le_of_ble_eq_true rfl⟩ (Nat.zero_le _) (Nat.zero_le _) dX5_moves_9 rfl rfl (fun H locs hw => ?_)
    refine lv_if_ne (tgt := 22) hx hb dX5_moves_12 rfl (fun cq12 => ?_) (fun cq12 => ?_)
    · skip
      have cq12 := bI_n0.mp cq12
      rw [cq5, cq12] at h0; exact absurd h0 (by decide)
    · skip
      have cq12 := bI_0.mp cq12
      refine lv_aload_n hx hb dX5_moves_15 rfl (lv_at hl 0 rfl) ?_
      refine lv_bipush (v := -2) hx hb dX5_moves_16 rfl ?_
      refine b_callV (is := [0, 3]) (wb := [xO G x0 s0 g0 k0 xt tr sg rf ab bl, aW G rf 3 rfd]) (wb' := [xO G x0 s0 g0 k0 xt tr sg rf ab bl, aW G rf 3 (upd rfd 0 (rfd 0 + 1))]) (As := [.int (-2)]) (rest := []) (st1 := [.int (-2)]) (bs' := [xO G x0 s0 g0 k0 xt tr sg rf ab bl, oS G s0 t0 p0 n0, tW G t0 wo mi bi la (nI n) ki se wd hu bt, aW G rf 3 (upd rfd 0 (rfd 0 + 1))]) E (c_X5_refuse l G x0 s0 g0 k0 xt tr sg rf (-2) ab bl rfd 0 (by omega) (by decide)) vw_X5_56 hw [0, 3] rfl 0 0 rfl rfl rfl rfl rfl rfl rfl rfl rfl hl.1 rfl rfl (Nat.le_of_ble_eq_true rfl) ⟨Nat.le_of_ble_eq_true rfl, Nat.le_of_ble_eq_true rfl⟩ (Nat.zero_le _) (Nat.zero_le _) dX5_moves_18 rfl rfl (fun H locs hw => ?_)
      exact x_iret E hA rt hw dX5_moves_21 (rfl) rfl
set_option maxHeartbeats 1000000 in
set_option maxRecDepth 100000 in
theorem c_X5_moves_no (l : Launch) (G : GG) (x0 : Nat) (s0 : Nat) (t0 : Nat → Nat) (p0 : Nat → Nat) (n0 : Nat → Nat) (g0 : Nat) (k0 : Nat) (xt : Nat → Nat) (tr : Nat → Nat) (sg : Nat) (rf : Nat) (x : Int32) (k : Nat) (hv_x : x = nI k) (y : Int32) (ab : Int64) (bl : Int64) (wo : Int32) (mi : Int32) (bi : Int32) (la : Int32) (n : Nat) (ki : Nat → Int32) (se : Nat → Int32) (wd : Nat → Int32) (hu : Nat → Int32) (bt : Nat → Int32) (rfd : Nat → Int32) (hn : n ≤ 6) (h1 : inI x 0 (nI n - 1) = true) (hk : k < n) (h2 : inI y 0 7 = true) (h3 : ¬ fi se y n 0 = -1) (h4 : ¬ fi se y n 0 = x) : CT l G yX5_moves cX5_moves 5 (some .int) 2 44 [.ref x0, .int x, .int y] ([xO G x0 s0 g0 k0 xt tr sg rf ab bl, oS G s0 t0 p0 n0, tW G t0 wo mi bi la (nI n) ki se wd hu bt, aW G rf 3 rfd].flatten) (some (.int (-3))) ([xO G x0 s0 g0 k0 xt tr sg rf ab bl, oS G s0 t0 p0 n0, tW G t0 wo mi bi la (nI n) ki se wd hu bt, aW G rf 3 (upd rfd 1 (rfd 1 + 1))].flatten) := by
  refine CT.mk (own := RX5) (la := [(0, .ref x0), (1, .int x), (2, .int y)]) (by decide) rfl (Nat.le_of_ble_eq_true rfl) rfl ?_
  intro p e s m args below meth c A Q E hA hw rt ls hl
  have hx := E.1
  have hb := E.2.1
  refine lv_aload_n hx hb dX5_moves_0 rfl (lv_at hl 0 rfl) ?_
  refine lv_iload_n hx hb dX5_moves_1 rfl (lv_at hl 1 rfl) ?_
  refine b_callV (is := [0, 1, 2]) (wb := [xO G x0 s0 g0 k0 xt tr sg rf ab bl, oS G s0 t0 p0 n0, tW G t0 wo mi bi la (nI n) ki se wd hu bt]) (wb' := [xO G x0 s0 g0 k0 xt tr sg rf ab bl, oS G s0 t0 p0 n0, tW G t0 wo mi bi la (nI n) ki se wd hu bt]) (As := [.int x]) (rest := []) (st1 := [.int (bI (inI x 0 (nI n - 1)))]) (bs' := [xO G x0 s0 g0 k0 xt tr sg rf ab bl, oS G s0 t0 p0 n0, tW G t0 wo mi bi la (nI n) ki se wd hu bt, aW G rf 3 rfd]) E (c_X5_isChild l G x0 s0 t0 p0 n0 g0 k0 xt tr sg rf x ab bl wo mi bi la n ki se wd hu bt) vw_X5_120 hw [0, 1, 2] rfl 0 0 rfl rfl rfl rfl rfl rfl rfl rfl rfl hl.1 rfl rfl (Nat.le_of_ble_eq_true rfl) ⟨Nat.le_of_ble_eq_true rfl, Nat.le_of_ble_eq_true rfl⟩ (Nat.zero_le _) (Nat.zero_le _) dX5_moves_2 rfl rfl (fun H locs hw => ?_)
  refine lv_if_eq (tgt := 15) hx hb dX5_moves_5 rfl (fun cq5 => ?_) (fun cq5 => ?_)
  · skip
    have cq5 := bI_0.mp cq5
    exact absurd cq5 (by rw [h1]; decide)
  · skip
    have cq5 := bI_n0.mp cq5
    refine lv_iload_n hx hb dX5_moves_8 rfl (lv_at hl 2 rfl) ?_
    refine b_callS (is := []) (wb := []) (wb' := []) (As := [.int y]) (rest := []) (st1 := [.int (bI (inI y 0 7))]) (bs' := [xO G x0 s0 g0 k0 xt tr sg rf ab bl, oS G s0 t0 p0 n0, tW G t0 wo mi bi la (nI n) ki se wd hu bt, aW G rf 3 rfd]) E (c_X5_isSeat l G y) sw_X5_52 hw [] rfl rfl rfl rfl rfl rfl hl.1 rfl rfl (Nat.le_of_ble_eq_true rfl) ⟨Nat.le_of_ble_eq_true rfl, Nat.le_of_ble_eq_true rfl⟩ (Nat.zero_le _) (Nat.zero_le _) dX5_moves_9 rfl rfl (fun H locs hw => ?_)
    refine lv_if_ne (tgt := 22) hx hb dX5_moves_12 rfl (fun cq12 => ?_) (fun cq12 => ?_)
    · skip
      have cq12 := bI_n0.mp cq12
      refine lv_aload_n hx hb dX5_moves_22 rfl (lv_at hl 0 rfl) ?_
      refine b_get E hw fw_X5_10 0 0 rfl rfl rfl dX5_moves_23 ?_
      refine b_get E hw fw_X5_60 1 0 rfl rfl rfl dX5_moves_26 ?_
      refine lv_iload_n hx hb dX5_moves_29 rfl (lv_at hl 2 rfl) ?_
      refine b_callV (is := [2]) (wb := [tW G t0 wo mi bi la (nI n) ki se wd hu bt]) (wb' := [tW G t0 wo mi bi la (nI n) ki se wd hu bt]) (As := [.int y]) (rest := []) (st1 := [.int (fi se y n 0)]) (bs' := [xO G x0 s0 g0 k0 xt tr sg rf ab bl, oS G s0 t0 p0 n0, tW G t0 wo mi bi la (nI n) ki se wd hu bt, aW G rf 3 rfd]) E (c_X3_childAt l G t0 y wo mi bi la n ki se wd hu bt (by omega)) vw_X5_79 hw [2] rfl 2 0 rfl rfl rfl rfl rfl rfl (flat1 _) (flat1 _) rfl hl.1 rfl rfl (Nat.le_of_ble_eq_true rfl) ⟨Nat.le_of_ble_eq_true rfl, Nat.le_of_ble_eq_true rfl⟩ (Nat.zero_le _) (Nat.zero_le _) dX5_moves_30 rfl rfl (fun H locs hw => ?_)
      refine lv_istore_n (lv' := [(3, .int (fi se y n 0)), (0, .ref x0), (1, .int x), (2, .int y)]) hx hb dX5_moves_33 rfl hl (by decide) rfl (fun ls hl => ?_)
      refine lv_iload_n hx hb dX5_moves_34 rfl (lv_at hl 0 rfl) ?_
      refine lv_iconst (v := -1) hx hb dX5_moves_35 rfl ?_
      refine lv_icmp_eq (tgt := 51) hx hb dX5_moves_36 rfl (fun cq36 => ?_) (fun cq36 => ?_)
      · skip
        exact (h3 cq36).elim
      · skip
        refine lv_iload_n hx hb dX5_moves_39 rfl (lv_at hl 0 rfl) ?_
        refine lv_iload_n hx hb dX5_moves_40 rfl (lv_at hl 2 rfl) ?_
        refine lv_icmp_eq (tgt := 51) hx hb dX5_moves_41 rfl (fun cq41 => ?_) (fun cq41 => ?_)
        · skip
          exact (h4 cq41).elim
        · skip
          refine lv_aload_n hx hb dX5_moves_44 rfl (lv_at hl 1 rfl) ?_
          refine lv_bipush (v := -3) hx hb dX5_moves_45 rfl ?_
          refine b_callV (is := [0, 3]) (wb := [xO G x0 s0 g0 k0 xt tr sg rf ab bl, aW G rf 3 rfd]) (wb' := [xO G x0 s0 g0 k0 xt tr sg rf ab bl, aW G rf 3 (upd rfd 1 (rfd 1 + 1))]) (As := [.int (-3)]) (rest := []) (st1 := [.int (-3)]) (bs' := [xO G x0 s0 g0 k0 xt tr sg rf ab bl, oS G s0 t0 p0 n0, tW G t0 wo mi bi la (nI n) ki se wd hu bt, aW G rf 3 (upd rfd 1 (rfd 1 + 1))]) E (c_X5_refuse l G x0 s0 g0 k0 xt tr sg rf (-3) ab bl rfd 1 (by omega) (by decide)) vw_X5_56 hw [0, 3] rfl 0 0 rfl rfl rfl rfl rfl rfl rfl rfl rfl hl.1 rfl rfl (Nat.le_of_ble_eq_true rfl) ⟨Nat.le_of_ble_eq_true rfl, Nat.le_of_ble_eq_true rfl⟩ (Nat.zero_le _) (Nat.zero_le _) dX5_moves_47 rfl rfl (fun H locs hw => ?_)
          exact x_iret E hA rt hw dX5_moves_50 (rfl) rfl
    · skip
      have cq12 := bI_0.mp cq12
      exact absurd cq12 (by rw [h2]; decide)
set_option maxHeartbeats 1000000 in
set_option maxRecDepth 100000 in
theorem c_X5_moves_ok (l : Launch) (G : GG) (x0 : Nat) (s0 : Nat) (t0 : Nat → Nat) (p0 : Nat → Nat) (n0 : Nat → Nat) (g0 : Nat) (k0 : Nat) (xt : Nat → Nat) (tr : Nat → Nat) (sg : Nat) (rf : Nat) (x : Int32) (k : Nat) (hv_x : x = nI k) (y : Int32) (ab : Int64) (bl : Int64) (wo : Int32) (mi : Int32) (bi : Int32) (la : Int32) (n : Nat) (ki : Nat → Int32) (se : Nat → Int32) (wd : Nat → Int32) (hu : Nat → Int32) (bt : Nat → Int32) (o : Nat) (u : Nat) (T : Nat → Tb) (hn : n ≤ 6) (ho : o < 8) (hu8 : u ≤ 8) (h1 : inI x 0 (nI n - 1) = true) (hk : k < n) (h2 : inI y 0 7 = true) (h3 : fi se y n 0 = -1 ∨ fi se y n 0 = x) : CT l G yX5_moves cX5_moves 5 (some .int) 3 60 [.ref x0, .int x, .int y] ([xO G x0 s0 g0 k0 xt tr sg rf ab bl, oS G s0 t0 p0 n0, tW G t0 wo mi bi la (nI n) ki se wd hu bt, pW G p0 (nI o) (nI u) T].flatten) (some (.int (se k))) ([xO G x0 s0 g0 k0 xt tr sg rf ab bl, oS G s0 t0 p0 n0, tW G t0 wo mi bi la (nI n) ki (upd se k y) wd hu bt, pW G p0 (nI (kpO o u)) (nI (kpZ u)) (updT T ((kpO o u + kpZ u - 1) % 8) (wo, mi, bi, la, nI n, ki, se, wd, hu, bt))].flatten) := by
  refine CT.mk (own := RX5) (la := [(0, .ref x0), (1, .int x), (2, .int y)]) (by decide) rfl (Nat.le_of_ble_eq_true rfl) rfl ?_
  intro p e s m args below meth c A Q E hA hw rt ls hl
  have hx := E.1
  have hb := E.2.1
  refine lv_aload_n hx hb dX5_moves_0 rfl (lv_at hl 0 rfl) ?_
  refine lv_iload_n hx hb dX5_moves_1 rfl (lv_at hl 1 rfl) ?_
  refine b_callV (is := [0, 1, 2]) (wb := [xO G x0 s0 g0 k0 xt tr sg rf ab bl, oS G s0 t0 p0 n0, tW G t0 wo mi bi la (nI n) ki se wd hu bt]) (wb' := [xO G x0 s0 g0 k0 xt tr sg rf ab bl, oS G s0 t0 p0 n0, tW G t0 wo mi bi la (nI n) ki se wd hu bt]) (As := [.int x]) (rest := []) (st1 := [.int (bI (inI x 0 (nI n - 1)))]) (bs' := [xO G x0 s0 g0 k0 xt tr sg rf ab bl, oS G s0 t0 p0 n0, tW G t0 wo mi bi la (nI n) ki se wd hu bt, pW G p0 (nI o) (nI u) T]) E (c_X5_isChild l G x0 s0 t0 p0 n0 g0 k0 xt tr sg rf x ab bl wo mi bi la n ki se wd hu bt) vw_X5_120 hw [0, 1, 2] rfl 0 0 rfl rfl rfl rfl rfl rfl rfl rfl rfl hl.1 rfl rfl (Nat.le_of_ble_eq_true rfl) ⟨Nat.le_of_ble_eq_true rfl, Nat.le_of_ble_eq_true rfl⟩ (Nat.zero_le _) (Nat.zero_le _) dX5_moves_2 rfl rfl (fun H locs hw => ?_)
  refine lv_if_eq (tgt := 15) hx hb dX5_moves_5 rfl (fun cq5 => ?_) (fun cq5 => ?_)
  · skip
    have cq5 := bI_0.mp cq5
    exact absurd cq5 (by rw [h1]; decide)
  · skip
    have cq5 := bI_n0.mp cq5
    refine lv_iload_n hx hb dX5_moves_8 rfl (lv_at hl 2 rfl) ?_
    refine b_callS (is := []) (wb := []) (wb' := []) (As := [.int y]) (rest := []) (st1 := [.int (bI (inI y 0 7))]) (bs' := [xO G x0 s0 g0 k0 xt tr sg rf ab bl, oS G s0 t0 p0 n0, tW G t0 wo mi bi la (nI n) ki se wd hu bt, pW G p0 (nI o) (nI u) T]) E (c_X5_isSeat l G y) sw_X5_52 hw [] rfl rfl rfl rfl rfl rfl hl.1 rfl rfl (Nat.le_of_ble_eq_true rfl) ⟨Nat.le_of_ble_eq_true rfl, Nat.le_of_ble_eq_true rfl⟩ (Nat.zero_le _) (Nat.zero_le _) dX5_moves_9 rfl rfl (fun H locs hw => ?_)
    refine lv_if_ne (tgt := 22) hx hb dX5_moves_12 rfl (fun cq12 => ?_) (fun cq12 => ?_)
    · skip
      have cq12 := bI_n0.mp cq12
      refine lv_aload_n hx hb dX5_moves_22 rfl (lv_at hl 0 rfl) ?_
      refine b_get E hw fw_X5_10 0 0 rfl rfl rfl dX5_moves_23 ?_
      refine b_get E hw fw_X5_60 1 0 rfl rfl rfl dX5_moves_26 ?_
      refine lv_iload_n hx hb dX5_moves_29 rfl (lv_at hl 2 rfl) ?_
      refine b_callV (is := [2]) (wb := [tW G t0 wo mi bi la (nI n) ki se wd hu bt]) (wb' := [tW G t0 wo mi bi la (nI n) ki se wd hu bt]) (As := [.int y]) (rest := []) (st1 := [.int (fi se y n 0)]) (bs' := [xO G x0 s0 g0 k0 xt tr sg rf ab bl, oS G s0 t0 p0 n0, tW G t0 wo mi bi la (nI n) ki se wd hu bt, pW G p0 (nI o) (nI u) T]) E (c_X3_childAt l G t0 y wo mi bi la n ki se wd hu bt (by omega)) vw_X5_79 hw [2] rfl 2 0 rfl rfl rfl rfl rfl rfl (flat1 _) (flat1 _) rfl hl.1 rfl rfl (Nat.le_of_ble_eq_true rfl) ⟨Nat.le_of_ble_eq_true rfl, Nat.le_of_ble_eq_true rfl⟩ (Nat.zero_le _) (Nat.zero_le _) dX5_moves_30 rfl rfl (fun H locs hw => ?_)
      refine lv_istore_n (lv' := [(3, .int (fi se y n 0)), (0, .ref x0), (1, .int x), (2, .int y)]) hx hb dX5_moves_33 rfl hl (by decide) rfl (fun ls hl => ?_)
      refine lv_iload_n hx hb dX5_moves_34 rfl (lv_at hl 0 rfl) ?_
      refine lv_iconst (v := -1) hx hb dX5_moves_35 rfl ?_
      refine lv_icmp_eq (tgt := 51) hx hb dX5_moves_36 rfl (fun cq36 => ?_) (fun cq36 => ?_)
      · skip
        refine lv_aload_n hx hb dX5_moves_51 rfl (lv_at hl 1 rfl) ?_
        refine b_get E hw fw_X5_10 0 0 rfl rfl rfl dX5_moves_52 ?_
        refine b_get E hw fw_X5_82 1 0 rfl rfl rfl dX5_moves_55 ?_
        refine lv_aload_n hx hb dX5_moves_58 rfl (lv_at hl 1 rfl) ?_
        refine b_get E hw fw_X5_10 0 0 rfl rfl rfl dX5_moves_59 ?_
        refine b_get E hw fw_X5_60 1 0 rfl rfl rfl dX5_moves_62 ?_
        refine b_callV (is := [3, 2]) (wb := [pW G p0 (nI o) (nI u) T, tW G t0 wo mi bi la (nI n) ki se wd hu bt]) (wb' := [pW G p0 (nI (kpO o u)) (nI (kpZ u)) (updT T ((kpO o u + kpZ u - 1) % 8) (wo, mi, bi, la, (nI n), ki, se, wd, hu, bt)), tW G t0 wo mi bi la (nI n) ki se wd hu bt]) (As := [.ref (t0 0)]) (rest := []) (st1 := []) (bs' := [xO G x0 s0 g0 k0 xt tr sg rf ab bl, oS G s0 t0 p0 n0, tW G t0 wo mi bi la (nI n) ki se wd hu bt, pW G p0 (nI (kpO o u)) (nI (kpZ u)) (updT T ((kpO o u + kpZ u - 1) % 8) (wo, mi, bi, la, (nI n), ki, se, wd, hu, bt))]) E (c_X1_keep l G p0 t0 o u T wo mi bi la (nI n) ki se wd hu bt (by omega) (by omega)) vw_X5_105 hw [3, 2] rfl 3 0 rfl rfl rfl rfl rfl rfl rfl rfl rfl hl.1 rfl rfl (Nat.le_of_ble_eq_true rfl) ⟨Nat.le_of_ble_eq_true rfl, Nat.le_of_ble_eq_true rfl⟩ (Nat.zero_le _) (Nat.zero_le _) dX5_moves_65 rfl rfl (fun H locs hw => ?_)
        refine lv_aload_n hx hb dX5_moves_68 rfl (lv_at hl 1 rfl) ?_
        refine b_get E hw fw_X5_10 0 0 rfl rfl rfl dX5_moves_69 ?_
        refine b_get E hw fw_X5_60 1 0 rfl rfl rfl dX5_moves_72 ?_
        refine b_get E hw fw_X5_126 2 0 rfl rfl rfl dX5_moves_75 ?_
        refine lv_iload_n hx hb dX5_moves_78 rfl (lv_at hl 2 rfl) ?_
        refine b_iald E hw 2 2 rfl rfl k (hv_x) (by omega) (by omega) dX5_moves_79 ?_
        refine lv_istore (lv' := [(4, .int (se k)), (3, .int (fi se y n 0)), (0, .ref x0), (1, .int x), (2, .int y)]) hx hb dX5_moves_80 hl (by decide) rfl (fun ls hl => ?_)
        refine lv_aload_n hx hb dX5_moves_82 rfl (lv_at hl 2 rfl) ?_
        refine b_get E hw fw_X5_10 0 0 rfl rfl rfl dX5_moves_83 ?_
        refine b_get E hw fw_X5_60 1 0 rfl rfl rfl dX5_moves_86 ?_
        refine b_get E hw fw_X5_126 2 0 rfl rfl rfl dX5_moves_89 ?_
        refine lv_iload_n hx hb dX5_moves_92 rfl (lv_at hl 3 rfl) ?_
        refine lv_iload_n hx hb dX5_moves_93 rfl (lv_at hl 4 rfl) ?_
        refine b_iast (bs' := [xO G x0 s0 g0 k0 xt tr sg rf ab bl, oS G s0 t0 p0 n0, tW G t0 wo mi bi la (nI n) ki (upd se k y) wd hu bt, pW G p0 (nI (kpO o u)) (nI (kpZ u)) (updT T ((kpO o u + kpZ u - 1) % 8) (wo, mi, bi, la, (nI n), ki, se, wd, hu, bt))]) E hw 2 2 rfl rfl k (hv_x) (by omega) (by omega) dX5_moves_94 rfl (fun H locs hw => ?_)
        refine lv_iload hx hb dX5_moves_95 (lv_at hl 0 rfl) ?_
        exact x_iret E hA rt hw dX5_moves_97 (rfl) rfl
      · skip
        refine lv_iload_n hx hb dX5_moves_39 rfl (lv_at hl 0 rfl) ?_
        refine lv_iload_n hx hb dX5_moves_40 rfl (lv_at hl 2 rfl) ?_
        refine lv_icmp_eq (tgt := 51) hx hb dX5_moves_41 rfl (fun cq41 => ?_) (fun cq41 => ?_)
        · skip
          refine lv_aload_n hx hb dX5_moves_51 rfl (lv_at hl 1 rfl) ?_
          refine b_get E hw fw_X5_10 0 0 rfl rfl rfl dX5_moves_52 ?_
          refine b_get E hw fw_X5_82 1 0 rfl rfl rfl dX5_moves_55 ?_
          refine lv_aload_n hx hb dX5_moves_58 rfl (lv_at hl 1 rfl) ?_
          refine b_get E hw fw_X5_10 0 0 rfl rfl rfl dX5_moves_59 ?_
          refine b_get E hw fw_X5_60 1 0 rfl rfl rfl dX5_moves_62 ?_
          refine b_callV (is := [3, 2]) (wb := [pW G p0 (nI o) (nI u) T, tW G t0 wo mi bi la (nI n) ki se wd hu bt]) (wb' := [pW G p0 (nI (kpO o u)) (nI (kpZ u)) (updT T ((kpO o u + kpZ u - 1) % 8) (wo, mi, bi, la, (nI n), ki, se, wd, hu, bt)), tW G t0 wo mi bi la (nI n) ki se wd hu bt]) (As := [.ref (t0 0)]) (rest := []) (st1 := []) (bs' := [xO G x0 s0 g0 k0 xt tr sg rf ab bl, oS G s0 t0 p0 n0, tW G t0 wo mi bi la (nI n) ki se wd hu bt, pW G p0 (nI (kpO o u)) (nI (kpZ u)) (updT T ((kpO o u + kpZ u - 1) % 8) (wo, mi, bi, la, (nI n), ki, se, wd, hu, bt))]) E (c_X1_keep l G p0 t0 o u T wo mi bi la (nI n) ki se wd hu bt (by omega) (by omega)) vw_X5_105 hw [3, 2] rfl 3 0 rfl rfl rfl rfl rfl rfl rfl rfl rfl hl.1 rfl rfl (Nat.le_of_ble_eq_true rfl) ⟨Nat.le_of_ble_eq_true rfl, Nat.le_of_ble_eq_true rfl⟩ (Nat.zero_le _) (Nat.zero_le _) dX5_moves_65 rfl rfl (fun H locs hw => ?_)
          refine lv_aload_n hx hb dX5_moves_68 rfl (lv_at hl 1 rfl) ?_
          refine b_get E hw fw_X5_10 0 0 rfl rfl rfl dX5_moves_69 ?_
          refine b_get E hw fw_X5_60 1 0 rfl rfl rfl dX5_moves_72 ?_
          refine b_get E hw fw_X5_126 2 0 rfl rfl rfl dX5_moves_75 ?_
          refine lv_iload_n hx hb dX5_moves_78 rfl (lv_at hl 2 rfl) ?_
          refine b_iald E hw 2 2 rfl rfl k (hv_x) (by omega) (by omega) dX5_moves_79 ?_
          refine lv_istore (lv' := [(4, .int (se k)), (3, .int (fi se y n 0)), (0, .ref x0), (1, .int x), (2, .int y)]) hx hb dX5_moves_80 hl (by decide) rfl (fun ls hl => ?_)
          refine lv_aload_n hx hb dX5_moves_82 rfl (lv_at hl 2 rfl) ?_
          refine b_get E hw fw_X5_10 0 0 rfl rfl rfl dX5_moves_83 ?_
          refine b_get E hw fw_X5_60 1 0 rfl rfl rfl dX5_moves_86 ?_
          refine b_get E hw fw_X5_126 2 0 rfl rfl rfl dX5_moves_89 ?_
          refine lv_iload_n hx hb dX5_moves_92 rfl (lv_at hl 3 rfl) ?_
          refine lv_iload_n hx hb dX5_moves_93 rfl (lv_at hl 4 rfl) ?_
          refine b_iast (bs' := [xO G x0 s0 g0 k0 xt tr sg rf ab bl, oS G s0 t0 p0 n0, tW G t0 wo mi bi la (nI n) ki (upd se k y) wd hu bt, pW G p0 (nI (kpO o u)) (nI (kpZ u)) (updT T ((kpO o u + kpZ u - 1) % 8) (wo, mi, bi, la, (nI n), ki, se, wd, hu, bt))]) E hw 2 2 rfl rfl k (hv_x) (by omega) (by omega) dX5_moves_94 rfl (fun H locs hw => ?_)
          refine lv_iload hx hb dX5_moves_95 (lv_at hl 0 rfl) ?_
          exact x_iret E hA rt hw dX5_moves_97 (rfl) rfl
        · skip
          exact (h3.elim cq36 cq41).elim
    · skip
      have cq12 := bI_0.mp cq12
      exact absurd cq12 (by rw [h2]; decide)
set_option maxHeartbeats 1000000 in
set_option maxRecDepth 100000 in
theorem c_X5_woman_bad (l : Launch) (G : GG) (x0 : Nat) (s0 : Nat) (g0 : Nat) (k0 : Nat) (xt : Nat → Nat) (tr : Nat → Nat) (sg : Nat) (rf : Nat) (x : Int32) (ab : Int64) (bl : Int64) (rfd : Nat → Int32) (h1 : inI x 0 7 = false) : CT l G yX5_woman cX5_woman 3 (some .int) 2 44 [.ref x0, .int x] ([xO G x0 s0 g0 k0 xt tr sg rf ab bl, aW G rf 3 rfd].flatten) (some (.int (-2))) ([xO G x0 s0 g0 k0 xt tr sg rf ab bl, aW G rf 3 (upd rfd 0 (rfd 0 + 1))].flatten) := by
  refine CT.mk (own := RX5) (la := [(0, .ref x0), (1, .int x)]) (by decide) rfl (Nat.le_of_ble_eq_true rfl) rfl ?_
  intro p e s m args below meth c A Q E hA hw rt ls hl
  have hx := E.1
  have hb := E.2.1
  refine lv_iload_n hx hb dX5_woman_0 rfl (lv_at hl 1 rfl) ?_
  refine b_callS (is := []) (wb := []) (wb' := []) (As := [.int x]) (rest := []) (st1 := [.int (bI (inI x 0 7))]) (bs' := [xO G x0 s0 g0 k0 xt tr sg rf ab bl, aW G rf 3 rfd]) E (c_X5_isSeat l G x) sw_X5_52 hw [] rfl rfl rfl rfl rfl rfl hl.1 rfl rfl (Nat.le_of_ble_eq_true rfl) ⟨Nat.le_of_ble_eq_true rfl, Nat.le_of_ble_eq_true rfl⟩ (Nat.zero_le _) (Nat.zero_le _) dX5_woman_1 rfl rfl (fun H locs hw => ?_)
  refine lv_if_ne (tgt := 14) hx hb dX5_woman_4 rfl (fun cq4 => ?_) (fun cq4 => ?_)
  · skip
    have cq4 := bI_n0.mp cq4
    exact absurd cq4 (by rw [h1]; decide)
  · skip
    have cq4 := bI_0.mp cq4
    refine lv_aload_n hx hb dX5_woman_7 rfl (lv_at hl 0 rfl) ?_
    refine lv_bipush (v := -2) hx hb dX5_woman_8 rfl ?_
    refine b_callV (is := [0, 1]) (wb := [xO G x0 s0 g0 k0 xt tr sg rf ab bl, aW G rf 3 rfd]) (wb' := [xO G x0 s0 g0 k0 xt tr sg rf ab bl, aW G rf 3 (upd rfd 0 (rfd 0 + 1))]) (As := [.int (-2)]) (rest := []) (st1 := [.int (-2)]) (bs' := [xO G x0 s0 g0 k0 xt tr sg rf ab bl, aW G rf 3 (upd rfd 0 (rfd 0 + 1))]) E (c_X5_refuse l G x0 s0 g0 k0 xt tr sg rf (-2) ab bl rfd 0 (by omega) (by decide)) vw_X5_56 hw [0, 1] rfl 0 0 rfl rfl rfl rfl rfl rfl rfl rfl rfl hl.1 rfl rfl (Nat.le_of_ble_eq_true rfl) ⟨Nat.le_of_ble_eq_true rfl, Nat.le_of_ble_eq_true rfl⟩ (Nat.zero_le _) (Nat.zero_le _) dX5_woman_10 rfl rfl (fun H locs hw => ?_)
    exact x_iret E hA rt hw dX5_woman_13 (rfl) rfl
set_option maxHeartbeats 1000000 in
set_option maxRecDepth 100000 in
theorem c_X5_woman_ok (l : Launch) (G : GG) (x0 : Nat) (s0 : Nat) (t0 : Nat → Nat) (p0 : Nat → Nat) (n0 : Nat → Nat) (g0 : Nat) (k0 : Nat) (xt : Nat → Nat) (tr : Nat → Nat) (sg : Nat) (rf : Nat) (x : Int32) (ab : Int64) (bl : Int64) (wo : Int32) (mi : Int32) (bi : Int32) (la : Int32) (n : Nat) (ki : Nat → Int32) (se : Nat → Int32) (wd : Nat → Int32) (hu : Nat → Int32) (bt : Nat → Int32) (o : Nat) (u : Nat) (T : Nat → Tb) (hn : n ≤ 6) (ho : o < 8) (hu8 : u ≤ 8) (h1 : inI x 0 7 = true) : CT l G yX5_woman cX5_woman 3 (some .int) 3 60 [.ref x0, .int x] ([xO G x0 s0 g0 k0 xt tr sg rf ab bl, oS G s0 t0 p0 n0, tW G t0 wo mi bi la (nI n) ki se wd hu bt, pW G p0 (nI o) (nI u) T].flatten) (some (.int wo)) ([xO G x0 s0 g0 k0 xt tr sg rf ab bl, oS G s0 t0 p0 n0, tW G t0 x mi bi la (nI n) ki se wd hu bt, pW G p0 (nI (kpO o u)) (nI (kpZ u)) (updT T ((kpO o u + kpZ u - 1) % 8) (wo, mi, bi, la, nI n, ki, se, wd, hu, bt))].flatten) := by
  refine CT.mk (own := RX5) (la := [(0, .ref x0), (1, .int x)]) (by decide) rfl (Nat.le_of_ble_eq_true rfl) rfl ?_
  intro p e s m args below meth c A Q E hA hw rt ls hl
  have hx := E.1
  have hb := E.2.1
  refine lv_iload_n hx hb dX5_woman_0 rfl (lv_at hl 1 rfl) ?_
  refine b_callS (is := []) (wb := []) (wb' := []) (As := [.int x]) (rest := []) (st1 := [.int (bI (inI x 0 7))]) (bs' := [xO G x0 s0 g0 k0 xt tr sg rf ab bl, oS G s0 t0 p0 n0, tW G t0 wo mi bi la (nI n) ki se wd hu bt, pW G p0 (nI o) (nI u) T]) E (c_X5_isSeat l G x) sw_X5_52 hw [] rfl rfl rfl rfl rfl rfl hl.1 rfl rfl (Nat.le_of_ble_eq_true rfl) ⟨Nat.le_of_ble_eq_true rfl, Nat.le_of_ble_eq_true rfl⟩ (Nat.zero_le _) (Nat.zero_le _) dX5_woman_1 rfl rfl (fun H locs hw => ?_)
  refine lv_if_ne (tgt := 14) hx hb dX5_woman_4 rfl (fun cq4 => ?_) (fun cq4 => ?_)
  · skip
    have cq4 := bI_n0.mp cq4
    refine lv_aload_n hx hb dX5_woman_14 rfl (lv_at hl 0 rfl) ?_
    refine b_get E hw fw_X5_10 0 0 rfl rfl rfl dX5_woman_15 ?_
    refine b_get E hw fw_X5_82 1 0 rfl rfl rfl dX5_woman_18 ?_
    refine lv_aload_n hx hb dX5_woman_21 rfl (lv_at hl 0 rfl) ?_
    refine b_get E hw fw_X5_10 0 0 rfl rfl rfl dX5_woman_22 ?_
    refine b_get E hw fw_X5_60 1 0 rfl rfl rfl dX5_woman_25 ?_
    refine b_callV (is := [3, 2]) (wb := [pW G p0 (nI o) (nI u) T, tW G t0 wo mi bi la (nI n) ki se wd hu bt]) (wb' := [pW G p0 (nI (kpO o u)) (nI (kpZ u)) (updT T ((kpO o u + kpZ u - 1) % 8) (wo, mi, bi, la, (nI n), ki, se, wd, hu, bt)), tW G t0 wo mi bi la (nI n) ki se wd hu bt]) (As := [.ref (t0 0)]) (rest := []) (st1 := []) (bs' := [xO G x0 s0 g0 k0 xt tr sg rf ab bl, oS G s0 t0 p0 n0, tW G t0 wo mi bi la (nI n) ki se wd hu bt, pW G p0 (nI (kpO o u)) (nI (kpZ u)) (updT T ((kpO o u + kpZ u - 1) % 8) (wo, mi, bi, la, (nI n), ki, se, wd, hu, bt))]) E (c_X1_keep l G p0 t0 o u T wo mi bi la (nI n) ki se wd hu bt (by omega) (by omega)) vw_X5_105 hw [3, 2] rfl 3 0 rfl rfl rfl rfl rfl rfl rfl rfl rfl hl.1 rfl rfl (Nat.le_of_ble_eq_true rfl) ⟨Nat.le_of_ble_eq_true rfl, Nat.le_of_ble_eq_true rfl⟩ (Nat.zero_le _) (Nat.zero_le _) dX5_woman_28 rfl rfl (fun H locs hw => ?_)
    refine lv_aload_n hx hb dX5_woman_31 rfl (lv_at hl 0 rfl) ?_
    refine b_get E hw fw_X5_10 0 0 rfl rfl rfl dX5_woman_32 ?_
    refine b_get E hw fw_X5_60 1 0 rfl rfl rfl dX5_woman_35 ?_
    refine b_get E hw fw_X5_129 2 0 rfl rfl rfl dX5_woman_38 ?_
    refine lv_istore_n (lv' := [(2, .int wo), (0, .ref x0), (1, .int x)]) hx hb dX5_woman_41 rfl hl (by decide) rfl (fun ls hl => ?_)
    refine lv_aload_n hx hb dX5_woman_42 rfl (lv_at hl 1 rfl) ?_
    refine b_get E hw fw_X5_10 0 0 rfl rfl rfl dX5_woman_43 ?_
    refine b_get E hw fw_X5_60 1 0 rfl rfl rfl dX5_woman_46 ?_
    refine lv_iload_n hx hb dX5_woman_49 rfl (lv_at hl 2 rfl) ?_
    refine b_put (bs' := [xO G x0 s0 g0 k0 xt tr sg rf ab bl, oS G s0 t0 p0 n0, tW G t0 x mi bi la (nI n) ki se wd hu bt, pW G p0 (nI (kpO o u)) (nI (kpZ u)) (updT T ((kpO o u + kpZ u - 1) % 8) (wo, mi, bi, la, (nI n), ki, se, wd, hu, bt))]) (ty := .int) E hw fw_X5_129 2 0 rfl rfl rfl rfl (by decide +kernel) rfl rfl (Nat.le_of_ble_eq_true rfl) dX5_woman_50 rfl (fun H locs hw => ?_)
    refine lv_iload_n hx hb dX5_woman_53 rfl (lv_at hl 0 rfl) ?_
    exact x_iret E hA rt hw dX5_woman_54 (rfl) rfl
  · skip
    have cq4 := bI_0.mp cq4
    exact absurd cq4 (by rw [h1]; decide)
set_option maxHeartbeats 1000000 in
set_option maxRecDepth 100000 in
theorem c_X5_undo_no (l : Launch) (G : GG) (x0 : Nat) (s0 : Nat) (t0 : Nat → Nat) (p0 : Nat → Nat) (n0 : Nat → Nat) (g0 : Nat) (k0 : Nat) (xt : Nat → Nat) (tr : Nat → Nat) (sg : Nat) (rf : Nat) (ab : Int64) (bl : Int64) (o : Nat) (u : Nat) (T : Nat → Tb) (rfd : Nat → Int32) (h1 : u = 0) : CT l G yX5_undo cX5_undo 1 (some .int) 2 44 [.ref x0] ([xO G x0 s0 g0 k0 xt tr sg rf ab bl, oS G s0 t0 p0 n0, pW G p0 (nI o) (nI u) T, aW G rf 3 rfd].flatten) (some (.int (-3))) ([xO G x0 s0 g0 k0 xt tr sg rf ab bl, oS G s0 t0 p0 n0, pW G p0 (nI o) (nI u) T, aW G rf 3 (upd rfd 1 (rfd 1 + 1))].flatten) := by
  refine CT.mk (own := RX5) (la := [(0, .ref x0)]) (by decide) rfl (Nat.le_of_ble_eq_true rfl) rfl ?_
  intro p e s m args below meth c A Q E hA hw rt ls hl
  have hx := E.1
  have hb := E.2.1
  refine lv_aload_n hx hb dX5_undo_0 rfl (lv_at hl 0 rfl) ?_
  refine b_get E hw fw_X5_10 0 0 rfl rfl rfl dX5_undo_1 ?_
  refine b_get E hw fw_X5_82 1 0 rfl rfl rfl dX5_undo_4 ?_
  refine b_get E hw fw_X5_132 2 0 rfl rfl rfl dX5_undo_7 ?_
  refine lv_if_ne (tgt := 20) hx hb dX5_undo_10 rfl (fun cq10 => ?_) (fun cq10 => ?_)
  · skip
    have cq10 : ¬ u = 0 := fun h => cq10 ((cv_eq (a := u) (b := 0) rfl rfl (by omega) (by omega)).mpr h)
    exact (cq10 h1).elim
  · skip
    have cq10 : u = 0 := (cv_eq (a := u) (b := 0) rfl rfl (by omega) (by omega)).mp cq10
    refine lv_aload_n hx hb dX5_undo_13 rfl (lv_at hl 0 rfl) ?_
    refine lv_bipush (v := -3) hx hb dX5_undo_14 rfl ?_
    refine b_callV (is := [0, 3]) (wb := [xO G x0 s0 g0 k0 xt tr sg rf ab bl, aW G rf 3 rfd]) (wb' := [xO G x0 s0 g0 k0 xt tr sg rf ab bl, aW G rf 3 (upd rfd 1 (rfd 1 + 1))]) (As := [.int (-3)]) (rest := []) (st1 := [.int (-3)]) (bs' := [xO G x0 s0 g0 k0 xt tr sg rf ab bl, oS G s0 t0 p0 n0, pW G p0 (nI o) (nI u) T, aW G rf 3 (upd rfd 1 (rfd 1 + 1))]) E (c_X5_refuse l G x0 s0 g0 k0 xt tr sg rf (-3) ab bl rfd 1 (by omega) (by decide)) vw_X5_56 hw [0, 3] rfl 0 0 rfl rfl rfl rfl rfl rfl rfl rfl rfl hl.1 rfl rfl (Nat.le_of_ble_eq_true rfl) ⟨Nat.le_of_ble_eq_true rfl, Nat.le_of_ble_eq_true rfl⟩ (Nat.zero_le _) (Nat.zero_le _) dX5_undo_16 rfl rfl (fun H locs hw => ?_)
    exact x_iret E hA rt hw dX5_undo_19 (rfl) rfl
set_option maxHeartbeats 1000000 in
set_option maxRecDepth 100000 in
theorem c_X5_undo_ok (l : Launch) (G : GG) (x0 : Nat) (s0 : Nat) (t0 : Nat → Nat) (p0 : Nat → Nat) (n0 : Nat → Nat) (g0 : Nat) (k0 : Nat) (xt : Nat → Nat) (tr : Nat → Nat) (sg : Nat) (rf : Nat) (ab : Int64) (bl : Int64) (wo : Int32) (mi : Int32) (bi : Int32) (la : Int32) (n : Nat) (ki : Nat → Int32) (se : Nat → Int32) (wd : Nat → Int32) (hu : Nat → Int32) (bt : Nat → Int32) (o : Nat) (u : Nat) (T : Nat → Tb) (ho : o < 8) (hu8 : u ≤ 8) (h1 : 1 ≤ u) : CT l G yX5_undo cX5_undo 1 (some .int) 3 60 [.ref x0] ([xO G x0 s0 g0 k0 xt tr sg rf ab bl, oS G s0 t0 p0 n0, tW G t0 wo mi bi la (nI n) ki se wd hu bt, pW G p0 (nI o) (nI u) T].flatten) (some (.int ((T ((o + (u - 1)) % 8)).2.1))) ([xO G x0 s0 g0 k0 xt tr sg rf ab bl, oS G s0 t0 p0 n0, tW G t0 ((T ((o + (u - 1)) % 8)).1) ((T ((o + (u - 1)) % 8)).2.1) ((T ((o + (u - 1)) % 8)).2.2.1) ((T ((o + (u - 1)) % 8)).2.2.2.1) ((T ((o + (u - 1)) % 8)).2.2.2.2.1) ((T ((o + (u - 1)) % 8)).2.2.2.2.2.1) ((T ((o + (u - 1)) % 8)).2.2.2.2.2.2.1) ((T ((o + (u - 1)) % 8)).2.2.2.2.2.2.2.1) ((T ((o + (u - 1)) % 8)).2.2.2.2.2.2.2.2.1) ((T ((o + (u - 1)) % 8)).2.2.2.2.2.2.2.2.2), pW G p0 (nI o) (nI (u - 1)) T].flatten) := by
  refine CT.mk (own := RX5) (la := [(0, .ref x0)]) (by decide) rfl (Nat.le_of_ble_eq_true rfl) rfl ?_
  intro p e s m args below meth c A Q E hA hw rt ls hl
  have hx := E.1
  have hb := E.2.1
  refine lv_aload_n hx hb dX5_undo_0 rfl (lv_at hl 0 rfl) ?_
  refine b_get E hw fw_X5_10 0 0 rfl rfl rfl dX5_undo_1 ?_
  refine b_get E hw fw_X5_82 1 0 rfl rfl rfl dX5_undo_4 ?_
  refine b_get E hw fw_X5_132 3 0 rfl rfl rfl dX5_undo_7 ?_
  refine lv_if_ne (tgt := 20) hx hb dX5_undo_10 rfl (fun cq10 => ?_) (fun cq10 => ?_)
  · skip
    have cq10 : ¬ u = 0 := fun h => cq10 ((cv_eq (a := u) (b := 0) rfl rfl (by omega) (by omega)).mpr h)
    refine lv_aload_n hx hb dX5_undo_20 rfl (lv_at hl 0 rfl) ?_
    refine b_get E hw fw_X5_10 0 0 rfl rfl rfl dX5_undo_21 ?_
    refine b_get E hw fw_X5_82 1 0 rfl rfl rfl dX5_undo_24 ?_
    refine lv_aload_n hx hb dX5_undo_27 rfl (lv_at hl 0 rfl) ?_
    refine b_get E hw fw_X5_10 0 0 rfl rfl rfl dX5_undo_28 ?_
    refine b_get E hw fw_X5_60 1 0 rfl rfl rfl dX5_undo_31 ?_
    refine b_callV (is := [3, 2]) (wb := [pW G p0 (nI o) (nI u) T, tW G t0 wo mi bi la (nI n) ki se wd hu bt]) (wb' := [pW G p0 (nI o) (nI (u - 1)) T, tW G t0 ((T ((o + (u - 1)) % 8)).1) ((T ((o + (u - 1)) % 8)).2.1) ((T ((o + (u - 1)) % 8)).2.2.1) ((T ((o + (u - 1)) % 8)).2.2.2.1) ((T ((o + (u - 1)) % 8)).2.2.2.2.1) ((T ((o + (u - 1)) % 8)).2.2.2.2.2.1) ((T ((o + (u - 1)) % 8)).2.2.2.2.2.2.1) ((T ((o + (u - 1)) % 8)).2.2.2.2.2.2.2.1) ((T ((o + (u - 1)) % 8)).2.2.2.2.2.2.2.2.1) ((T ((o + (u - 1)) % 8)).2.2.2.2.2.2.2.2.2)]) (As := [.ref (t0 0)]) (rest := []) (st1 := []) (bs' := [xO G x0 s0 g0 k0 xt tr sg rf ab bl, oS G s0 t0 p0 n0, tW G t0 ((T ((o + (u - 1)) % 8)).1) ((T ((o + (u - 1)) % 8)).2.1) ((T ((o + (u - 1)) % 8)).2.2.1) ((T ((o + (u - 1)) % 8)).2.2.2.1) ((T ((o + (u - 1)) % 8)).2.2.2.2.1) ((T ((o + (u - 1)) % 8)).2.2.2.2.2.1) ((T ((o + (u - 1)) % 8)).2.2.2.2.2.2.1) ((T ((o + (u - 1)) % 8)).2.2.2.2.2.2.2.1) ((T ((o + (u - 1)) % 8)).2.2.2.2.2.2.2.2.1) ((T ((o + (u - 1)) % 8)).2.2.2.2.2.2.2.2.2), pW G p0 (nI o) (nI (u - 1)) T]) E (c_X1_giveBack l G p0 t0 o u T wo mi bi la (nI n) ki se wd hu bt (by omega) (by omega) (by omega)) vw_X5_135 hw [3, 2] rfl 3 0 rfl rfl rfl rfl rfl rfl rfl rfl rfl hl.1 rfl rfl (Nat.le_of_ble_eq_true rfl) ⟨Nat.le_of_ble_eq_true rfl, Nat.le_of_ble_eq_true rfl⟩ (Nat.zero_le _) (Nat.zero_le _) dX5_undo_34 rfl rfl (fun H locs hw => ?_)
    refine lv_aload_n hx hb dX5_undo_37 rfl (lv_at hl 0 rfl) ?_
    refine b_get E hw fw_X5_10 0 0 rfl rfl rfl dX5_undo_38 ?_
    refine b_get E hw fw_X5_60 1 0 rfl rfl rfl dX5_undo_41 ?_
    refine b_get E hw fw_X5_108 2 0 rfl rfl rfl dX5_undo_44 ?_
    exact x_iret E hA rt hw dX5_undo_47 (rfl) rfl
  · skip
    have cq10 : u = 0 := (cv_eq (a := u) (b := 0) rfl rfl (by omega) (by omega)).mp cq10
    exact absurd cq10 (by omega)
set_option maxHeartbeats 1000000 in
set_option maxRecDepth 100000 in
theorem c_X5_of_bad (l : Launch) (G : GG) (x0 : Nat) (s0 : Nat) (t0 : Nat → Nat) (p0 : Nat → Nat) (n0 : Nat → Nat) (g0 : Nat) (k0 : Nat) (xt : Nat → Nat) (tr : Nat → Nat) (sg : Nat) (rf : Nat) (x : Int32) (y : Int32) (ab : Int64) (bl : Int64) (wo : Int32) (mi : Int32) (bi : Int32) (la : Int32) (n : Nat) (ki : Nat → Int32) (se : Nat → Int32) (wd : Nat → Int32) (hu : Nat → Int32) (bt : Nat → Int32) (rfd : Nat → Int32) (h0 : (inI x 0 (nI n - 1) && inI y 0 5) = false) : CT l G yX5_of cX5_of 3 (some .int) 2 44 [.ref x0, .int x, .int y] ([xO G x0 s0 g0 k0 xt tr sg rf ab bl, oS G s0 t0 p0 n0, tW G t0 wo mi bi la (nI n) ki se wd hu bt, aW G rf 3 rfd].flatten) (some (.int (-2))) ([xO G x0 s0 g0 k0 xt tr sg rf ab bl, oS G s0 t0 p0 n0, tW G t0 wo mi bi la (nI n) ki se wd hu bt, aW G rf 3 (upd rfd 0 (rfd 0 + 1))].flatten) := by
  refine CT.mk (own := RX5) (la := [(0, .ref x0), (1, .int x), (2, .int y)]) (by decide) rfl (Nat.le_of_ble_eq_true rfl) rfl ?_
  intro p e s m args below meth c A Q E hA hw rt ls hl
  have hx := E.1
  have hb := E.2.1
  refine lv_aload_n hx hb dX5_of_0 rfl (lv_at hl 0 rfl) ?_
  refine lv_iload_n hx hb dX5_of_1 rfl (lv_at hl 1 rfl) ?_
  refine b_callV (is := [0, 1, 2]) (wb := [xO G x0 s0 g0 k0 xt tr sg rf ab bl, oS G s0 t0 p0 n0, tW G t0 wo mi bi la (nI n) ki se wd hu bt]) (wb' := [xO G x0 s0 g0 k0 xt tr sg rf ab bl, oS G s0 t0 p0 n0, tW G t0 wo mi bi la (nI n) ki se wd hu bt]) (As := [.int x]) (rest := []) (st1 := [.int (bI (inI x 0 (nI n - 1)))]) (bs' := [xO G x0 s0 g0 k0 xt tr sg rf ab bl, oS G s0 t0 p0 n0, tW G t0 wo mi bi la (nI n) ki se wd hu bt, aW G rf 3 rfd]) E (c_X5_isChild l G x0 s0 t0 p0 n0 g0 k0 xt tr sg rf x ab bl wo mi bi la n ki se wd hu bt) vw_X5_120 hw [0, 1, 2] rfl 0 0 rfl rfl rfl rfl rfl rfl rfl rfl rfl hl.1 rfl rfl (Nat.le_of_ble_eq_true rfl) ⟨Nat.le_of_ble_eq_true rfl, Nat.le_of_ble_eq_true rfl⟩ (Nat.zero_le _) (Nat.zero_le _) dX5_of_2 rfl rfl (fun H locs hw => ?_)
  refine lv_if_eq (tgt := 17) hx hb dX5_of_5 rfl (fun cq5 => ?_) (fun cq5 => ?_)
  · skip
    have cq5 := bI_0.mp cq5
    refine lv_aload_n hx hb dX5_of_17 rfl (lv_at hl 0 rfl) ?_
    refine lv_bipush (v := -2) hx hb dX5_of_18 rfl ?_
    refine b_callV (is := [0, 3]) (wb := [xO G x0 s0 g0 k0 xt tr sg rf ab bl, aW G rf 3 rfd]) (wb' := [xO G x0 s0 g0 k0 xt tr sg rf ab bl, aW G rf 3 (upd rfd 0 (rfd 0 + 1))]) (As := [.int (-2)]) (rest := []) (st1 := [.int (-2)]) (bs' := [xO G x0 s0 g0 k0 xt tr sg rf ab bl, oS G s0 t0 p0 n0, tW G t0 wo mi bi la (nI n) ki se wd hu bt, aW G rf 3 (upd rfd 0 (rfd 0 + 1))]) E (c_X5_refuse l G x0 s0 g0 k0 xt tr sg rf (-2) ab bl rfd 0 (by omega) (by decide)) vw_X5_56 hw [0, 3] rfl 0 0 rfl rfl rfl rfl rfl rfl rfl rfl rfl hl.1 rfl rfl (Nat.le_of_ble_eq_true rfl) ⟨Nat.le_of_ble_eq_true rfl, Nat.le_of_ble_eq_true rfl⟩ (Nat.zero_le _) (Nat.zero_le _) dX5_of_20 rfl rfl (fun H locs hw => ?_)
    exact x_iret E hA rt hw dX5_of_23 (rfl) rfl
  · skip
    have cq5 := bI_n0.mp cq5
    refine lv_iload_n hx hb dX5_of_8 rfl (lv_at hl 2 rfl) ?_
    refine lv_iconst (v := 0) hx hb dX5_of_9 rfl ?_
    refine lv_iconst (v := 5) hx hb dX5_of_10 rfl ?_
    refine b_callS (is := []) (wb := []) (wb' := []) (As := [.int y, .int 0, .int 5]) (rest := []) (st1 := [.int (bI (inI y 0 5))]) (bs' := [xO G x0 s0 g0 k0 xt tr sg rf ab bl, oS G s0 t0 p0 n0, tW G t0 wo mi bi la (nI n) ki se wd hu bt, aW G rf 3 rfd]) E (c_X5_within l G y 0 5) sw_X5_75 hw [] rfl rfl rfl rfl rfl rfl hl.1 rfl rfl (Nat.le_of_ble_eq_true rfl) ⟨Nat.le_of_ble_eq_true rfl, Nat.le_of_ble_eq_true rfl⟩ (Nat.zero_le _) (Nat.zero_le _) dX5_of_11 rfl rfl (fun H locs hw => ?_)
    refine lv_if_ne (tgt := 24) hx hb dX5_of_14 rfl (fun cq14 => ?_) (fun cq14 => ?_)
    · skip
      have cq14 := bI_n0.mp cq14
      rw [cq5, cq14] at h0; exact absurd h0 (by decide)
    · skip
      have cq14 := bI_0.mp cq14
      refine lv_aload_n hx hb dX5_of_17 rfl (lv_at hl 0 rfl) ?_
      refine lv_bipush (v := -2) hx hb dX5_of_18 rfl ?_
      refine b_callV (is := [0, 3]) (wb := [xO G x0 s0 g0 k0 xt tr sg rf ab bl, aW G rf 3 rfd]) (wb' := [xO G x0 s0 g0 k0 xt tr sg rf ab bl, aW G rf 3 (upd rfd 0 (rfd 0 + 1))]) (As := [.int (-2)]) (rest := []) (st1 := [.int (-2)]) (bs' := [xO G x0 s0 g0 k0 xt tr sg rf ab bl, oS G s0 t0 p0 n0, tW G t0 wo mi bi la (nI n) ki se wd hu bt, aW G rf 3 (upd rfd 0 (rfd 0 + 1))]) E (c_X5_refuse l G x0 s0 g0 k0 xt tr sg rf (-2) ab bl rfd 0 (by omega) (by decide)) vw_X5_56 hw [0, 3] rfl 0 0 rfl rfl rfl rfl rfl rfl rfl rfl rfl hl.1 rfl rfl (Nat.le_of_ble_eq_true rfl) ⟨Nat.le_of_ble_eq_true rfl, Nat.le_of_ble_eq_true rfl⟩ (Nat.zero_le _) (Nat.zero_le _) dX5_of_20 rfl rfl (fun H locs hw => ?_)
      exact x_iret E hA rt hw dX5_of_23 (rfl) rfl
set_option maxHeartbeats 1000000 in
set_option maxRecDepth 100000 in
theorem c_X5_of_tight (l : Launch) (G : GG) (x0 : Nat) (s0 : Nat) (t0 : Nat → Nat) (p0 : Nat → Nat) (n0 : Nat → Nat) (g0 : Nat) (k0 : Nat) (xt : Nat → Nat) (tr : Nat → Nat) (sg : Nat) (rf : Nat) (x : Int32) (k : Nat) (hv_x : x = nI k) (y : Int32) (ab : Int64) (bl : Int64) (wo : Int32) (mi : Int32) (bi : Int32) (la : Int32) (n : Nat) (ki : Nat → Int32) (se : Nat → Int32) (wd : Nat → Int32) (hu : Nat → Int32) (bt : Nat → Int32) (hn : n ≤ 6) (h1 : inI x 0 (nI n - 1) = true) (hk : k < n) (h2 : inI y 0 5 = true) (h3 : y = 5) : CT l G yX5_of cX5_of 3 (some .int) 3 62 [.ref x0, .int x, .int y] ([xO G x0 s0 g0 k0 xt tr sg rf ab bl, oS G s0 t0 p0 n0, tW G t0 wo mi bi la (nI n) ki se wd hu bt].flatten) (some (.int (tgI (tk se n) (se k)))) ([xO G x0 s0 g0 k0 xt tr sg rf ab bl, oS G s0 t0 p0 n0, tW G t0 wo mi bi la (nI n) ki se wd hu bt].flatten) := by
  refine CT.mk (own := RX5) (la := [(0, .ref x0), (1, .int x), (2, .int y)]) (by decide) rfl (Nat.le_of_ble_eq_true rfl) rfl ?_
  intro p e s m args below meth c A Q E hA hw rt ls hl
  have hx := E.1
  have hb := E.2.1
  refine lv_aload_n hx hb dX5_of_0 rfl (lv_at hl 0 rfl) ?_
  refine lv_iload_n hx hb dX5_of_1 rfl (lv_at hl 1 rfl) ?_
  refine b_callV (is := [0, 1, 2]) (wb := [xO G x0 s0 g0 k0 xt tr sg rf ab bl, oS G s0 t0 p0 n0, tW G t0 wo mi bi la (nI n) ki se wd hu bt]) (wb' := [xO G x0 s0 g0 k0 xt tr sg rf ab bl, oS G s0 t0 p0 n0, tW G t0 wo mi bi la (nI n) ki se wd hu bt]) (As := [.int x]) (rest := []) (st1 := [.int (bI (inI x 0 (nI n - 1)))]) (bs' := [xO G x0 s0 g0 k0 xt tr sg rf ab bl, oS G s0 t0 p0 n0, tW G t0 wo mi bi la (nI n) ki se wd hu bt]) E (c_X5_isChild l G x0 s0 t0 p0 n0 g0 k0 xt tr sg rf x ab bl wo mi bi la n ki se wd hu bt) vw_X5_120 hw [0, 1, 2] rfl 0 0 rfl rfl rfl rfl rfl rfl rfl rfl rfl hl.1 rfl rfl (Nat.le_of_ble_eq_true rfl) ⟨Nat.le_of_ble_eq_true rfl, Nat.le_of_ble_eq_true rfl⟩ (Nat.zero_le _) (Nat.zero_le _) dX5_of_2 rfl rfl (fun H locs hw => ?_)
  refine lv_if_eq (tgt := 17) hx hb dX5_of_5 rfl (fun cq5 => ?_) (fun cq5 => ?_)
  · skip
    have cq5 := bI_0.mp cq5
    exact absurd cq5 (by rw [h1]; decide)
  · skip
    have cq5 := bI_n0.mp cq5
    refine lv_iload_n hx hb dX5_of_8 rfl (lv_at hl 2 rfl) ?_
    refine lv_iconst (v := 0) hx hb dX5_of_9 rfl ?_
    refine lv_iconst (v := 5) hx hb dX5_of_10 rfl ?_
    refine b_callS (is := []) (wb := []) (wb' := []) (As := [.int y, .int 0, .int 5]) (rest := []) (st1 := [.int (bI (inI y 0 5))]) (bs' := [xO G x0 s0 g0 k0 xt tr sg rf ab bl, oS G s0 t0 p0 n0, tW G t0 wo mi bi la (nI n) ki se wd hu bt]) E (c_X5_within l G y 0 5) sw_X5_75 hw [] rfl rfl rfl rfl rfl rfl hl.1 rfl rfl (Nat.le_of_ble_eq_true rfl) ⟨Nat.le_of_ble_eq_true rfl, Nat.le_of_ble_eq_true rfl⟩ (Nat.zero_le _) (Nat.zero_le _) dX5_of_11 rfl rfl (fun H locs hw => ?_)
    refine lv_if_ne (tgt := 24) hx hb dX5_of_14 rfl (fun cq14 => ?_) (fun cq14 => ?_)
    · skip
      have cq14 := bI_n0.mp cq14
      refine lv_iload_n hx hb dX5_of_24 rfl (lv_at hl 2 rfl) ?_
      refine lv_iconst (v := 5) hx hb dX5_of_25 rfl ?_
      refine lv_icmp_ne (tgt := 43) hx hb dX5_of_26 rfl (fun cq26 => ?_) (fun cq26 => ?_)
      · skip
        exact (cq26 h3).elim
      · skip
        refine lv_aload_n hx hb dX5_of_29 rfl (lv_at hl 0 rfl) ?_
        refine b_get E hw fw_X5_10 0 0 rfl rfl rfl dX5_of_30 ?_
        refine b_get E hw fw_X5_60 1 0 rfl rfl rfl dX5_of_33 ?_
        refine lv_iload_n hx hb dX5_of_36 rfl (lv_at hl 1 rfl) ?_
        refine b_callV (is := [2]) (wb := [tW G t0 wo mi bi la (nI n) ki se wd hu bt]) (wb' := [tW G t0 wo mi bi la (nI n) ki se wd hu bt]) (As := [.int x]) (rest := []) (st1 := [.int (tgI (tk se n) (se k))]) (bs' := [xO G x0 s0 g0 k0 xt tr sg rf ab bl, oS G s0 t0 p0 n0, tW G t0 wo mi bi la (nI n) ki se wd hu bt]) E (c_X3_tightOf l G t0 x k (hv_x) wo mi bi la n ki se wd hu bt (by omega) (by omega)) vw_X5_138 hw [2] rfl 2 0 rfl rfl rfl rfl rfl rfl (flat1 _) (flat1 _) rfl hl.1 rfl rfl (Nat.le_of_ble_eq_true rfl) ⟨Nat.le_of_ble_eq_true rfl, Nat.le_of_ble_eq_true rfl⟩ (Nat.zero_le _) (Nat.zero_le _) dX5_of_37 rfl rfl (fun H locs hw => ?_)
        refine lv_goto (tgt := 55) hx hb dX5_of_40 rfl ?_
        exact x_iret E hA rt hw dX5_of_55 (rfl) rfl
    · skip
      have cq14 := bI_0.mp cq14
      exact absurd cq14 (by rw [h2]; decide)
set_option maxHeartbeats 1000000 in
set_option maxRecDepth 100000 in
theorem c_X5_of_part (l : Launch) (G : GG) (x0 : Nat) (s0 : Nat) (t0 : Nat → Nat) (p0 : Nat → Nat) (n0 : Nat → Nat) (g0 : Nat) (k0 : Nat) (xt : Nat → Nat) (tr : Nat → Nat) (sg : Nat) (rf : Nat) (x : Int32) (k : Nat) (hv_x : x = nI k) (y : Int32) (ab : Int64) (bl : Int64) (wo : Int32) (mi : Int32) (bi : Int32) (la : Int32) (n : Nat) (ki : Nat → Int32) (se : Nat → Int32) (wd : Nat → Int32) (hu : Nat → Int32) (bt : Nat → Int32) (hn : n ≤ 6) (h1 : inI x 0 (nI n - 1) = true) (hk : k < n) (h2 : inI y 0 5 = true) (h3 : ¬ y = 5) : CT l G yX5_of cX5_of 3 (some .int) 2 43 [.ref x0, .int x, .int y] ([xO G x0 s0 g0 k0 xt tr sg rf ab bl, oS G s0 t0 p0 n0, tW G t0 wo mi bi la (nI n) ki se wd hu bt].flatten) (some (.int (if y = 0 then ki k else if y = 1 then se k else if y = 2 then wd k else if y = 3 then hu k else bt k))) ([xO G x0 s0 g0 k0 xt tr sg rf ab bl, oS G s0 t0 p0 n0, tW G t0 wo mi bi la (nI n) ki se wd hu bt].flatten) := by
  refine CT.mk (own := RX5) (la := [(0, .ref x0), (1, .int x), (2, .int y)]) (by decide) rfl (Nat.le_of_ble_eq_true rfl) rfl ?_
  intro p e s m args below meth c A Q E hA hw rt ls hl
  have hx := E.1
  have hb := E.2.1
  refine lv_aload_n hx hb dX5_of_0 rfl (lv_at hl 0 rfl) ?_
  refine lv_iload_n hx hb dX5_of_1 rfl (lv_at hl 1 rfl) ?_
  refine b_callV (is := [0, 1, 2]) (wb := [xO G x0 s0 g0 k0 xt tr sg rf ab bl, oS G s0 t0 p0 n0, tW G t0 wo mi bi la (nI n) ki se wd hu bt]) (wb' := [xO G x0 s0 g0 k0 xt tr sg rf ab bl, oS G s0 t0 p0 n0, tW G t0 wo mi bi la (nI n) ki se wd hu bt]) (As := [.int x]) (rest := []) (st1 := [.int (bI (inI x 0 (nI n - 1)))]) (bs' := [xO G x0 s0 g0 k0 xt tr sg rf ab bl, oS G s0 t0 p0 n0, tW G t0 wo mi bi la (nI n) ki se wd hu bt]) E (c_X5_isChild l G x0 s0 t0 p0 n0 g0 k0 xt tr sg rf x ab bl wo mi bi la n ki se wd hu bt) vw_X5_120 hw [0, 1, 2] rfl 0 0 rfl rfl rfl rfl rfl rfl rfl rfl rfl hl.1 rfl rfl (Nat.le_of_ble_eq_true rfl) ⟨Nat.le_of_ble_eq_true rfl, Nat.le_of_ble_eq_true rfl⟩ (Nat.zero_le _) (Nat.zero_le _) dX5_of_2 rfl rfl (fun H locs hw => ?_)
  refine lv_if_eq (tgt := 17) hx hb dX5_of_5 rfl (fun cq5 => ?_) (fun cq5 => ?_)
  · skip
    have cq5 := bI_0.mp cq5
    exact absurd cq5 (by rw [h1]; decide)
  · skip
    have cq5 := bI_n0.mp cq5
    refine lv_iload_n hx hb dX5_of_8 rfl (lv_at hl 2 rfl) ?_
    refine lv_iconst (v := 0) hx hb dX5_of_9 rfl ?_
    refine lv_iconst (v := 5) hx hb dX5_of_10 rfl ?_
    refine b_callS (is := []) (wb := []) (wb' := []) (As := [.int y, .int 0, .int 5]) (rest := []) (st1 := [.int (bI (inI y 0 5))]) (bs' := [xO G x0 s0 g0 k0 xt tr sg rf ab bl, oS G s0 t0 p0 n0, tW G t0 wo mi bi la (nI n) ki se wd hu bt]) E (c_X5_within l G y 0 5) sw_X5_75 hw [] rfl rfl rfl rfl rfl rfl hl.1 rfl rfl (Nat.le_of_ble_eq_true rfl) ⟨Nat.le_of_ble_eq_true rfl, Nat.le_of_ble_eq_true rfl⟩ (Nat.zero_le _) (Nat.zero_le _) dX5_of_11 rfl rfl (fun H locs hw => ?_)
    refine lv_if_ne (tgt := 24) hx hb dX5_of_14 rfl (fun cq14 => ?_) (fun cq14 => ?_)
    · skip
      have cq14 := bI_n0.mp cq14
      refine lv_iload_n hx hb dX5_of_24 rfl (lv_at hl 2 rfl) ?_
      refine lv_iconst (v := 5) hx hb dX5_of_25 rfl ?_
      refine lv_icmp_ne (tgt := 43) hx hb dX5_of_26 rfl (fun cq26 => ?_) (fun cq26 => ?_)
      · skip
        refine lv_aload_n hx hb dX5_of_43 rfl (lv_at hl 0 rfl) ?_
        refine b_get E hw fw_X5_10 0 0 rfl rfl rfl dX5_of_44 ?_
        refine b_get E hw fw_X5_60 1 0 rfl rfl rfl dX5_of_47 ?_
        refine lv_iload_n hx hb dX5_of_50 rfl (lv_at hl 1 rfl) ?_
        refine lv_iload_n hx hb dX5_of_51 rfl (lv_at hl 2 rfl) ?_
        refine b_callV (is := [2]) (wb := [tW G t0 wo mi bi la (nI n) ki se wd hu bt]) (wb' := [tW G t0 wo mi bi la (nI n) ki se wd hu bt]) (As := [.int x, .int y]) (rest := []) (st1 := [.int (if y = 0 then ki k else if y = 1 then se k else if y = 2 then wd k else if y = 3 then hu k else bt k)]) (bs' := [xO G x0 s0 g0 k0 xt tr sg rf ab bl, oS G s0 t0 p0 n0, tW G t0 wo mi bi la (nI n) ki se wd hu bt]) E (c_X3_partOf l G t0 x k (hv_x) y wo mi bi la n ki se wd hu bt (by omega)) vw_X5_141 hw [2] rfl 2 0 rfl rfl rfl rfl rfl rfl (flat1 _) (flat1 _) rfl hl.1 rfl rfl (Nat.le_of_ble_eq_true rfl) ⟨Nat.le_of_ble_eq_true rfl, Nat.le_of_ble_eq_true rfl⟩ (Nat.zero_le _) (Nat.zero_le _) dX5_of_52 rfl rfl (fun H locs hw => ?_)
        exact x_iret E hA rt hw dX5_of_55 (rfl) rfl
      · skip
        exact (h3 cq26).elim
    · skip
      have cq14 := bI_0.mp cq14
      exact absurd cq14 (by rw [h2]; decide)
set_option maxHeartbeats 1000000 in
set_option maxRecDepth 100000 in
theorem c_X5_now_bad (l : Launch) (G : GG) (x0 : Nat) (s0 : Nat) (t0 : Nat → Nat) (p0 : Nat → Nat) (n0 : Nat → Nat) (g0 : Nat) (k0 : Nat) (xt : Nat → Nat) (tr : Nat → Nat) (sg : Nat) (rf : Nat) (x : Int32) (y : Int32) (ab : Int64) (bl : Int64) (wo : Int32) (mi : Int32) (bi : Int32) (la : Int32) (n : Nat) (ki : Nat → Int32) (se : Nat → Int32) (wd : Nat → Int32) (hu : Nat → Int32) (bt : Nat → Int32) (rfd : Nat → Int32) (h0 : (inI x 0 (nI n - 1) && inI y 0 2) = false) : CT l G yX5_now cX5_now 3 (some .int) 2 44 [.ref x0, .int x, .int y] ([xO G x0 s0 g0 k0 xt tr sg rf ab bl, oS G s0 t0 p0 n0, tW G t0 wo mi bi la (nI n) ki se wd hu bt, aW G rf 3 rfd].flatten) (some (.int (-10))) ([xO G x0 s0 g0 k0 xt tr sg rf ab bl, oS G s0 t0 p0 n0, tW G t0 wo mi bi la (nI n) ki se wd hu bt, aW G rf 3 (upd rfd 0 (rfd 0 + 1))].flatten) := by
  refine CT.mk (own := RX5) (la := [(0, .ref x0), (1, .int x), (2, .int y)]) (by decide) rfl (Nat.le_of_ble_eq_true rfl) rfl ?_
  intro p e s m args below meth c A Q E hA hw rt ls hl
  have hx := E.1
  have hb := E.2.1
  refine lv_aload_n hx hb dX5_now_0 rfl (lv_at hl 0 rfl) ?_
  refine lv_iload_n hx hb dX5_now_1 rfl (lv_at hl 1 rfl) ?_
  refine b_callV (is := [0, 1, 2]) (wb := [xO G x0 s0 g0 k0 xt tr sg rf ab bl, oS G s0 t0 p0 n0, tW G t0 wo mi bi la (nI n) ki se wd hu bt]) (wb' := [xO G x0 s0 g0 k0 xt tr sg rf ab bl, oS G s0 t0 p0 n0, tW G t0 wo mi bi la (nI n) ki se wd hu bt]) (As := [.int x]) (rest := []) (st1 := [.int (bI (inI x 0 (nI n - 1)))]) (bs' := [xO G x0 s0 g0 k0 xt tr sg rf ab bl, oS G s0 t0 p0 n0, tW G t0 wo mi bi la (nI n) ki se wd hu bt, aW G rf 3 rfd]) E (c_X5_isChild l G x0 s0 t0 p0 n0 g0 k0 xt tr sg rf x ab bl wo mi bi la n ki se wd hu bt) vw_X5_120 hw [0, 1, 2] rfl 0 0 rfl rfl rfl rfl rfl rfl rfl rfl rfl hl.1 rfl rfl (Nat.le_of_ble_eq_true rfl) ⟨Nat.le_of_ble_eq_true rfl, Nat.le_of_ble_eq_true rfl⟩ (Nat.zero_le _) (Nat.zero_le _) dX5_now_2 rfl rfl (fun H locs hw => ?_)
  refine lv_if_eq (tgt := 17) hx hb dX5_now_5 rfl (fun cq5 => ?_) (fun cq5 => ?_)
  · skip
    have cq5 := bI_0.mp cq5
    refine lv_aload_n hx hb dX5_now_17 rfl (lv_at hl 0 rfl) ?_
    refine lv_bipush (v := -2) hx hb dX5_now_18 rfl ?_
    refine b_callV (is := [0, 3]) (wb := [xO G x0 s0 g0 k0 xt tr sg rf ab bl, aW G rf 3 rfd]) (wb' := [xO G x0 s0 g0 k0 xt tr sg rf ab bl, aW G rf 3 (upd rfd 0 (rfd 0 + 1))]) (As := [.int (-2)]) (rest := []) (st1 := [.int (-2)]) (bs' := [xO G x0 s0 g0 k0 xt tr sg rf ab bl, oS G s0 t0 p0 n0, tW G t0 wo mi bi la (nI n) ki se wd hu bt, aW G rf 3 (upd rfd 0 (rfd 0 + 1))]) E (c_X5_refuse l G x0 s0 g0 k0 xt tr sg rf (-2) ab bl rfd 0 (by omega) (by decide)) vw_X5_56 hw [0, 3] rfl 0 0 rfl rfl rfl rfl rfl rfl rfl rfl rfl hl.1 rfl rfl (Nat.le_of_ble_eq_true rfl) ⟨Nat.le_of_ble_eq_true rfl, Nat.le_of_ble_eq_true rfl⟩ (Nat.zero_le _) (Nat.zero_le _) dX5_now_20 rfl rfl (fun H locs hw => ?_)
    refine lv_pop hx hb dX5_now_23 rfl ?_
    refine lv_bipush (v := -10) hx hb dX5_now_24 rfl ?_
    exact x_iret E hA rt hw dX5_now_26 (rfl) rfl
  · skip
    have cq5 := bI_n0.mp cq5
    refine lv_iload_n hx hb dX5_now_8 rfl (lv_at hl 2 rfl) ?_
    refine lv_iconst (v := 0) hx hb dX5_now_9 rfl ?_
    refine lv_iconst (v := 2) hx hb dX5_now_10 rfl ?_
    refine b_callS (is := []) (wb := []) (wb' := []) (As := [.int y, .int 0, .int 2]) (rest := []) (st1 := [.int (bI (inI y 0 2))]) (bs' := [xO G x0 s0 g0 k0 xt tr sg rf ab bl, oS G s0 t0 p0 n0, tW G t0 wo mi bi la (nI n) ki se wd hu bt, aW G rf 3 rfd]) E (c_X5_within l G y 0 2) sw_X5_75 hw [] rfl rfl rfl rfl rfl rfl hl.1 rfl rfl (Nat.le_of_ble_eq_true rfl) ⟨Nat.le_of_ble_eq_true rfl, Nat.le_of_ble_eq_true rfl⟩ (Nat.zero_le _) (Nat.zero_le _) dX5_now_11 rfl rfl (fun H locs hw => ?_)
    refine lv_if_ne (tgt := 27) hx hb dX5_now_14 rfl (fun cq14 => ?_) (fun cq14 => ?_)
    · skip
      have cq14 := bI_n0.mp cq14
      rw [cq5, cq14] at h0; exact absurd h0 (by decide)
    · skip
      have cq14 := bI_0.mp cq14
      refine lv_aload_n hx hb dX5_now_17 rfl (lv_at hl 0 rfl) ?_
      refine lv_bipush (v := -2) hx hb dX5_now_18 rfl ?_
      refine b_callV (is := [0, 3]) (wb := [xO G x0 s0 g0 k0 xt tr sg rf ab bl, aW G rf 3 rfd]) (wb' := [xO G x0 s0 g0 k0 xt tr sg rf ab bl, aW G rf 3 (upd rfd 0 (rfd 0 + 1))]) (As := [.int (-2)]) (rest := []) (st1 := [.int (-2)]) (bs' := [xO G x0 s0 g0 k0 xt tr sg rf ab bl, oS G s0 t0 p0 n0, tW G t0 wo mi bi la (nI n) ki se wd hu bt, aW G rf 3 (upd rfd 0 (rfd 0 + 1))]) E (c_X5_refuse l G x0 s0 g0 k0 xt tr sg rf (-2) ab bl rfd 0 (by omega) (by decide)) vw_X5_56 hw [0, 3] rfl 0 0 rfl rfl rfl rfl rfl rfl rfl rfl rfl hl.1 rfl rfl (Nat.le_of_ble_eq_true rfl) ⟨Nat.le_of_ble_eq_true rfl, Nat.le_of_ble_eq_true rfl⟩ (Nat.zero_le _) (Nat.zero_le _) dX5_now_20 rfl rfl (fun H locs hw => ?_)
      refine lv_pop hx hb dX5_now_23 rfl ?_
      refine lv_bipush (v := -10) hx hb dX5_now_24 rfl ?_
      exact x_iret E hA rt hw dX5_now_26 (rfl) rfl
set_option maxHeartbeats 1000000 in
set_option maxRecDepth 100000 in
theorem c_X5_now_near (l : Launch) (G : GG) (x0 : Nat) (s0 : Nat) (t0 : Nat → Nat) (p0 : Nat → Nat) (n0 : Nat → Nat) (g0 : Nat) (k0 : Nat) (xt : Nat → Nat) (tr : Nat → Nat) (sg : Nat) (rf : Nat) (x : Int32) (k : Nat) (hv_x : x = nI k) (y : Int32) (ab : Int64) (bl : Int64) (wo : Int32) (mi : Int32) (bi : Int32) (la : Int32) (n : Nat) (ki : Nat → Int32) (se : Nat → Int32) (wd : Nat → Int32) (hu : Nat → Int32) (bt : Nat → Int32) (hn : n ≤ 6) (h1 : inI x 0 (nI n - 1) = true) (hk : k < n) (h2 : inI y 0 2 = true) (h3 : y = 0) : CT l G yX5_now cX5_now 3 (some .int) 4 84 [.ref x0, .int x, .int y] ([xO G x0 s0 g0 k0 xt tr sg rf ab bl, oS G s0 t0 p0 n0, tW G t0 wo mi bi la (nI n) ki se wd hu bt].flatten) (some (.int (nr (ki k) (hu k) (tgI (tk se n) (se k)) (wd k) (bt k) la))) ([xO G x0 s0 g0 k0 xt tr sg rf ab bl, oS G s0 t0 p0 n0, tW G t0 wo mi bi la (nI n) ki se wd hu bt].flatten) := by
  refine CT.mk (own := RX5) (la := [(0, .ref x0), (1, .int x), (2, .int y)]) (by decide) rfl (Nat.le_of_ble_eq_true rfl) rfl ?_
  intro p e s m args below meth c A Q E hA hw rt ls hl
  have hx := E.1
  have hb := E.2.1
  refine lv_aload_n hx hb dX5_now_0 rfl (lv_at hl 0 rfl) ?_
  refine lv_iload_n hx hb dX5_now_1 rfl (lv_at hl 1 rfl) ?_
  refine b_callV (is := [0, 1, 2]) (wb := [xO G x0 s0 g0 k0 xt tr sg rf ab bl, oS G s0 t0 p0 n0, tW G t0 wo mi bi la (nI n) ki se wd hu bt]) (wb' := [xO G x0 s0 g0 k0 xt tr sg rf ab bl, oS G s0 t0 p0 n0, tW G t0 wo mi bi la (nI n) ki se wd hu bt]) (As := [.int x]) (rest := []) (st1 := [.int (bI (inI x 0 (nI n - 1)))]) (bs' := [xO G x0 s0 g0 k0 xt tr sg rf ab bl, oS G s0 t0 p0 n0, tW G t0 wo mi bi la (nI n) ki se wd hu bt]) E (c_X5_isChild l G x0 s0 t0 p0 n0 g0 k0 xt tr sg rf x ab bl wo mi bi la n ki se wd hu bt) vw_X5_120 hw [0, 1, 2] rfl 0 0 rfl rfl rfl rfl rfl rfl rfl rfl rfl hl.1 rfl rfl (Nat.le_of_ble_eq_true rfl) ⟨Nat.le_of_ble_eq_true rfl, Nat.le_of_ble_eq_true rfl⟩ (Nat.zero_le _) (Nat.zero_le _) dX5_now_2 rfl rfl (fun H locs hw => ?_)
  refine lv_if_eq (tgt := 17) hx hb dX5_now_5 rfl (fun cq5 => ?_) (fun cq5 => ?_)
  · skip
    have cq5 := bI_0.mp cq5
    exact absurd cq5 (by rw [h1]; decide)
  · skip
    have cq5 := bI_n0.mp cq5
    refine lv_iload_n hx hb dX5_now_8 rfl (lv_at hl 2 rfl) ?_
    refine lv_iconst (v := 0) hx hb dX5_now_9 rfl ?_
    refine lv_iconst (v := 2) hx hb dX5_now_10 rfl ?_
    refine b_callS (is := []) (wb := []) (wb' := []) (As := [.int y, .int 0, .int 2]) (rest := []) (st1 := [.int (bI (inI y 0 2))]) (bs' := [xO G x0 s0 g0 k0 xt tr sg rf ab bl, oS G s0 t0 p0 n0, tW G t0 wo mi bi la (nI n) ki se wd hu bt]) E (c_X5_within l G y 0 2) sw_X5_75 hw [] rfl rfl rfl rfl rfl rfl hl.1 rfl rfl (Nat.le_of_ble_eq_true rfl) ⟨Nat.le_of_ble_eq_true rfl, Nat.le_of_ble_eq_true rfl⟩ (Nat.zero_le _) (Nat.zero_le _) dX5_now_11 rfl rfl (fun H locs hw => ?_)
    refine lv_if_ne (tgt := 27) hx hb dX5_now_14 rfl (fun cq14 => ?_) (fun cq14 => ?_)
    · skip
      have cq14 := bI_n0.mp cq14
      refine lv_iload_n hx hb dX5_now_27 rfl (lv_at hl 2 rfl) ?_
      refine lv_if_ne (tgt := 43) hx hb dX5_now_28 rfl (fun cq28 => ?_) (fun cq28 => ?_)
      · skip
        exact (cq28 h3).elim
      · skip
        refine lv_aload_n hx hb dX5_now_31 rfl (lv_at hl 0 rfl) ?_
        refine b_get E hw fw_X5_10 0 0 rfl rfl rfl dX5_now_32 ?_
        refine b_get E hw fw_X5_60 1 0 rfl rfl rfl dX5_now_35 ?_
        refine lv_iload_n hx hb dX5_now_38 rfl (lv_at hl 1 rfl) ?_
        refine b_callV (is := [2]) (wb := [tW G t0 wo mi bi la (nI n) ki se wd hu bt]) (wb' := [tW G t0 wo mi bi la (nI n) ki se wd hu bt]) (As := [.int x]) (rest := []) (st1 := [.int (nr (ki k) (hu k) (tgI (tk se n) (se k)) (wd k) (bt k) la)]) (bs' := [xO G x0 s0 g0 k0 xt tr sg rf ab bl, oS G s0 t0 p0 n0, tW G t0 wo mi bi la (nI n) ki se wd hu bt]) E (c_X3_nearOf l G t0 x k (hv_x) wo mi bi la n ki se wd hu bt (by omega) (by omega)) vw_X5_144 hw [2] rfl 2 0 rfl rfl rfl rfl rfl rfl (flat1 _) (flat1 _) rfl hl.1 rfl rfl (Nat.le_of_ble_eq_true rfl) ⟨Nat.le_of_ble_eq_true rfl, Nat.le_of_ble_eq_true rfl⟩ (Nat.zero_le _) (Nat.zero_le _) dX5_now_39 rfl rfl (fun H locs hw => ?_)
        exact x_iret E hA rt hw dX5_now_42 (rfl) rfl
    · skip
      have cq14 := bI_0.mp cq14
      exact absurd cq14 (by rw [h2]; decide)
set_option maxHeartbeats 1000000 in
set_option maxRecDepth 100000 in
theorem c_X5_now_whom (l : Launch) (G : GG) (x0 : Nat) (s0 : Nat) (t0 : Nat → Nat) (p0 : Nat → Nat) (n0 : Nat → Nat) (g0 : Nat) (k0 : Nat) (xt : Nat → Nat) (tr : Nat → Nat) (sg : Nat) (rf : Nat) (x : Int32) (k : Nat) (hv_x : x = nI k) (y : Int32) (ab : Int64) (bl : Int64) (wo : Int32) (mi : Int32) (bi : Int32) (la : Int32) (n : Nat) (ki : Nat → Int32) (se : Nat → Int32) (wd : Nat → Int32) (hu : Nat → Int32) (bt : Nat → Int32) (hn : n ≤ 6) (h1 : inI x 0 (nI n - 1) = true) (hk : k < n) (h2 : inI y 0 2 = true) (h3 : ¬ y = 0) (h4 : y = 1) : CT l G yX5_now cX5_now 3 (some .int) 2 44 [.ref x0, .int x, .int y] ([xO G x0 s0 g0 k0 xt tr sg rf ab bl, oS G s0 t0 p0 n0, tW G t0 wo mi bi la (nI n) ki se wd hu bt].flatten) (some (.int (whm se n (se k)))) ([xO G x0 s0 g0 k0 xt tr sg rf ab bl, oS G s0 t0 p0 n0, tW G t0 wo mi bi la (nI n) ki se wd hu bt].flatten) := by
  refine CT.mk (own := RX5) (la := [(0, .ref x0), (1, .int x), (2, .int y)]) (by decide) rfl (Nat.le_of_ble_eq_true rfl) rfl ?_
  intro p e s m args below meth c A Q E hA hw rt ls hl
  have hx := E.1
  have hb := E.2.1
  refine lv_aload_n hx hb dX5_now_0 rfl (lv_at hl 0 rfl) ?_
  refine lv_iload_n hx hb dX5_now_1 rfl (lv_at hl 1 rfl) ?_
  refine b_callV (is := [0, 1, 2]) (wb := [xO G x0 s0 g0 k0 xt tr sg rf ab bl, oS G s0 t0 p0 n0, tW G t0 wo mi bi la (nI n) ki se wd hu bt]) (wb' := [xO G x0 s0 g0 k0 xt tr sg rf ab bl, oS G s0 t0 p0 n0, tW G t0 wo mi bi la (nI n) ki se wd hu bt]) (As := [.int x]) (rest := []) (st1 := [.int (bI (inI x 0 (nI n - 1)))]) (bs' := [xO G x0 s0 g0 k0 xt tr sg rf ab bl, oS G s0 t0 p0 n0, tW G t0 wo mi bi la (nI n) ki se wd hu bt]) E (c_X5_isChild l G x0 s0 t0 p0 n0 g0 k0 xt tr sg rf x ab bl wo mi bi la n ki se wd hu bt) vw_X5_120 hw [0, 1, 2] rfl 0 0 rfl rfl rfl rfl rfl rfl rfl rfl rfl hl.1 rfl rfl (Nat.le_of_ble_eq_true rfl) ⟨Nat.le_of_ble_eq_true rfl, Nat.le_of_ble_eq_true rfl⟩ (Nat.zero_le _) (Nat.zero_le _) dX5_now_2 rfl rfl (fun H locs hw => ?_)
  refine lv_if_eq (tgt := 17) hx hb dX5_now_5 rfl (fun cq5 => ?_) (fun cq5 => ?_)
  · skip
    have cq5 := bI_0.mp cq5
    exact absurd cq5 (by rw [h1]; decide)
  · skip
    have cq5 := bI_n0.mp cq5
    refine lv_iload_n hx hb dX5_now_8 rfl (lv_at hl 2 rfl) ?_
    refine lv_iconst (v := 0) hx hb dX5_now_9 rfl ?_
    refine lv_iconst (v := 2) hx hb dX5_now_10 rfl ?_
    refine b_callS (is := []) (wb := []) (wb' := []) (As := [.int y, .int 0, .int 2]) (rest := []) (st1 := [.int (bI (inI y 0 2))]) (bs' := [xO G x0 s0 g0 k0 xt tr sg rf ab bl, oS G s0 t0 p0 n0, tW G t0 wo mi bi la (nI n) ki se wd hu bt]) E (c_X5_within l G y 0 2) sw_X5_75 hw [] rfl rfl rfl rfl rfl rfl hl.1 rfl rfl (Nat.le_of_ble_eq_true rfl) ⟨Nat.le_of_ble_eq_true rfl, Nat.le_of_ble_eq_true rfl⟩ (Nat.zero_le _) (Nat.zero_le _) dX5_now_11 rfl rfl (fun H locs hw => ?_)
    refine lv_if_ne (tgt := 27) hx hb dX5_now_14 rfl (fun cq14 => ?_) (fun cq14 => ?_)
    · skip
      have cq14 := bI_n0.mp cq14
      refine lv_iload_n hx hb dX5_now_27 rfl (lv_at hl 2 rfl) ?_
      refine lv_if_ne (tgt := 43) hx hb dX5_now_28 rfl (fun cq28 => ?_) (fun cq28 => ?_)
      · skip
        refine lv_iload_n hx hb dX5_now_43 rfl (lv_at hl 2 rfl) ?_
        refine lv_iconst (v := 1) hx hb dX5_now_44 rfl ?_
        refine lv_icmp_ne (tgt := 62) hx hb dX5_now_45 rfl (fun cq45 => ?_) (fun cq45 => ?_)
        · skip
          exact (cq45 h4).elim
        · skip
          refine lv_aload_n hx hb dX5_now_48 rfl (lv_at hl 0 rfl) ?_
          refine b_get E hw fw_X5_10 0 0 rfl rfl rfl dX5_now_49 ?_
          refine b_get E hw fw_X5_60 1 0 rfl rfl rfl dX5_now_52 ?_
          refine lv_iload_n hx hb dX5_now_55 rfl (lv_at hl 1 rfl) ?_
          refine b_callV (is := [2]) (wb := [tW G t0 wo mi bi la (nI n) ki se wd hu bt]) (wb' := [tW G t0 wo mi bi la (nI n) ki se wd hu bt]) (As := [.int x]) (rest := []) (st1 := [.int (whm se n (se k))]) (bs' := [xO G x0 s0 g0 k0 xt tr sg rf ab bl, oS G s0 t0 p0 n0, tW G t0 wo mi bi la (nI n) ki se wd hu bt]) E (c_X3_whomOf l G t0 x k (hv_x) wo mi bi la n ki se wd hu bt (by omega) (by omega)) vw_X5_147 hw [2] rfl 2 0 rfl rfl rfl rfl rfl rfl (flat1 _) (flat1 _) rfl hl.1 rfl rfl (Nat.le_of_ble_eq_true rfl) ⟨Nat.le_of_ble_eq_true rfl, Nat.le_of_ble_eq_true rfl⟩ (Nat.zero_le _) (Nat.zero_le _) dX5_now_56 rfl rfl (fun H locs hw => ?_)
          refine lv_goto (tgt := 76) hx hb dX5_now_59 rfl ?_
          exact x_iret E hA rt hw dX5_now_76 (rfl) rfl
      · skip
        exact (h3 cq28).elim
    · skip
      have cq14 := bI_0.mp cq14
      exact absurd cq14 (by rw [h2]; decide)
set_option maxHeartbeats 1000000 in
set_option maxRecDepth 100000 in
theorem c_X5_now_bite (l : Launch) (G : GG) (x0 : Nat) (s0 : Nat) (t0 : Nat → Nat) (p0 : Nat → Nat) (n0 : Nat → Nat) (g0 : Nat) (k0 : Nat) (xt : Nat → Nat) (tr : Nat → Nat) (sg : Nat) (rf : Nat) (x : Int32) (k : Nat) (hv_x : x = nI k) (y : Int32) (ab : Int64) (bl : Int64) (wo : Int32) (mi : Int32) (bi : Int32) (la : Int32) (n : Nat) (ki : Nat → Int32) (se : Nat → Int32) (wd : Nat → Int32) (hu : Nat → Int32) (bt : Nat → Int32) (hn : n ≤ 6) (h1 : inI x 0 (nI n - 1) = true) (hk : k < n) (h2 : inI y 0 2 = true) (h3 : ¬ y = 0) (h4 : ¬ y = 1) : CT l G yX5_now cX5_now 3 (some .int) 4 87 [.ref x0, .int x, .int y] ([xO G x0 s0 g0 k0 xt tr sg rf ab bl, oS G s0 t0 p0 n0, tW G t0 wo mi bi la (nI n) ki se wd hu bt].flatten) (some (.int ((bitr wo la n ki se wd hu bt >>> (x &&& 31)) &&& 1))) ([xO G x0 s0 g0 k0 xt tr sg rf ab bl, oS G s0 t0 p0 n0, tW G t0 wo mi bi la (nI n) ki se wd hu bt].flatten) := by
  refine CT.mk (own := RX5) (la := [(0, .ref x0), (1, .int x), (2, .int y)]) (by decide) rfl (Nat.le_of_ble_eq_true rfl) rfl ?_
  intro p e s m args below meth c A Q E hA hw rt ls hl
  have hx := E.1
  have hb := E.2.1
  refine lv_aload_n hx hb dX5_now_0 rfl (lv_at hl 0 rfl) ?_
  refine lv_iload_n hx hb dX5_now_1 rfl (lv_at hl 1 rfl) ?_
  refine b_callV (is := [0, 1, 2]) (wb := [xO G x0 s0 g0 k0 xt tr sg rf ab bl, oS G s0 t0 p0 n0, tW G t0 wo mi bi la (nI n) ki se wd hu bt]) (wb' := [xO G x0 s0 g0 k0 xt tr sg rf ab bl, oS G s0 t0 p0 n0, tW G t0 wo mi bi la (nI n) ki se wd hu bt]) (As := [.int x]) (rest := []) (st1 := [.int (bI (inI x 0 (nI n - 1)))]) (bs' := [xO G x0 s0 g0 k0 xt tr sg rf ab bl, oS G s0 t0 p0 n0, tW G t0 wo mi bi la (nI n) ki se wd hu bt]) E (c_X5_isChild l G x0 s0 t0 p0 n0 g0 k0 xt tr sg rf x ab bl wo mi bi la n ki se wd hu bt) vw_X5_120 hw [0, 1, 2] rfl 0 0 rfl rfl rfl rfl rfl rfl rfl rfl rfl hl.1 rfl rfl (Nat.le_of_ble_eq_true rfl) ⟨Nat.le_of_ble_eq_true rfl, Nat.le_of_ble_eq_true rfl⟩ (Nat.zero_le _) (Nat.zero_le _) dX5_now_2 rfl rfl (fun H locs hw => ?_)
  refine lv_if_eq (tgt := 17) hx hb dX5_now_5 rfl (fun cq5 => ?_) (fun cq5 => ?_)
  · skip
    have cq5 := bI_0.mp cq5
    exact absurd cq5 (by rw [h1]; decide)
  · skip
    have cq5 := bI_n0.mp cq5
    refine lv_iload_n hx hb dX5_now_8 rfl (lv_at hl 2 rfl) ?_
    refine lv_iconst (v := 0) hx hb dX5_now_9 rfl ?_
    refine lv_iconst (v := 2) hx hb dX5_now_10 rfl ?_
    refine b_callS (is := []) (wb := []) (wb' := []) (As := [.int y, .int 0, .int 2]) (rest := []) (st1 := [.int (bI (inI y 0 2))]) (bs' := [xO G x0 s0 g0 k0 xt tr sg rf ab bl, oS G s0 t0 p0 n0, tW G t0 wo mi bi la (nI n) ki se wd hu bt]) E (c_X5_within l G y 0 2) sw_X5_75 hw [] rfl rfl rfl rfl rfl rfl hl.1 rfl rfl (Nat.le_of_ble_eq_true rfl) ⟨Nat.le_of_ble_eq_true rfl, Nat.le_of_ble_eq_true rfl⟩ (Nat.zero_le _) (Nat.zero_le _) dX5_now_11 rfl rfl (fun H locs hw => ?_)
    refine lv_if_ne (tgt := 27) hx hb dX5_now_14 rfl (fun cq14 => ?_) (fun cq14 => ?_)
    · skip
      have cq14 := bI_n0.mp cq14
      refine lv_iload_n hx hb dX5_now_27 rfl (lv_at hl 2 rfl) ?_
      refine lv_if_ne (tgt := 43) hx hb dX5_now_28 rfl (fun cq28 => ?_) (fun cq28 => ?_)
      · skip
        refine lv_iload_n hx hb dX5_now_43 rfl (lv_at hl 2 rfl) ?_
        refine lv_iconst (v := 1) hx hb dX5_now_44 rfl ?_
        refine lv_icmp_ne (tgt := 62) hx hb dX5_now_45 rfl (fun cq45 => ?_) (fun cq45 => ?_)
        · skip
          refine lv_aload_n hx hb dX5_now_62 rfl (lv_at hl 0 rfl) ?_
          refine b_get E hw fw_X5_10 0 0 rfl rfl rfl dX5_now_63 ?_
          refine b_get E hw fw_X5_60 1 0 rfl rfl rfl dX5_now_66 ?_
          refine b_callV (is := [2]) (wb := [tW G t0 wo mi bi la (nI n) ki se wd hu bt]) (wb' := [tW G t0 wo mi bi la (nI n) ki se wd hu bt]) (As := []) (rest := []) (st1 := [.int (bitr wo la n ki se wd hu bt)]) (bs' := [xO G x0 s0 g0 k0 xt tr sg rf ab bl, oS G s0 t0 p0 n0, tW G t0 wo mi bi la (nI n) ki se wd hu bt]) E (c_X3_biters l G t0 wo mi bi la n ki se wd hu bt (by omega)) vw_X5_150 hw [2] rfl 2 0 rfl rfl rfl rfl rfl rfl (flat1 _) (flat1 _) rfl hl.1 rfl rfl (Nat.le_of_ble_eq_true rfl) ⟨Nat.le_of_ble_eq_true rfl, Nat.le_of_ble_eq_true rfl⟩ (Nat.zero_le _) (Nat.zero_le _) dX5_now_69 rfl rfl (fun H locs hw => ?_)
          refine lv_iload_n hx hb dX5_now_72 rfl (lv_at hl 1 rfl) ?_
          refine lv_ishr hx hb dX5_now_73 ?_
          refine lv_iconst (v := 1) hx hb dX5_now_74 rfl ?_
          refine lv_iand hx hb dX5_now_75 ?_
          exact x_iret E hA rt hw dX5_now_76 (rfl) rfl
        · skip
          exact (h4 cq45).elim
      · skip
        exact (h3 cq28).elim
    · skip
      have cq14 := bI_0.mp cq14
      exact absurd cq14 (by rw [h2]; decide)
set_option maxHeartbeats 1000000 in
set_option maxRecDepth 100000 in
theorem c_X5_then_bad (l : Launch) (G : GG) (x0 : Nat) (s0 : Nat) (t0 : Nat → Nat) (p0 : Nat → Nat) (n0 : Nat → Nat) (g0 : Nat) (k0 : Nat) (xt : Nat → Nat) (tr : Nat → Nat) (sg : Nat) (rf : Nat) (x : Int32) (y : Int32) (ab : Int64) (bl : Int64) (wo : Int32) (mi : Int32) (bi : Int32) (la : Int32) (n : Nat) (ki : Nat → Int32) (se : Nat → Int32) (wd : Nat → Int32) (hu : Nat → Int32) (bt : Nat → Int32) (rfd : Nat → Int32) (h0 : inI x 0 60 = false ∨ (¬ y = -1 ∧ inI y 0 (nI n - 1) = false)) : CT l G yX5_then cX5_then 3 (some .int) 2 44 [.ref x0, .int x, .int y] ([xO G x0 s0 g0 k0 xt tr sg rf ab bl, oS G s0 t0 p0 n0, tW G t0 wo mi bi la (nI n) ki se wd hu bt, aW G rf 3 rfd].flatten) (some (.int (-2))) ([xO G x0 s0 g0 k0 xt tr sg rf ab bl, oS G s0 t0 p0 n0, tW G t0 wo mi bi la (nI n) ki se wd hu bt, aW G rf 3 (upd rfd 0 (rfd 0 + 1))].flatten) := by
  refine CT.mk (own := RX5) (la := [(0, .ref x0), (1, .int x), (2, .int y)]) (by decide) rfl (Nat.le_of_ble_eq_true rfl) rfl ?_
  intro p e s m args below meth c A Q E hA hw rt ls hl
  have hx := E.1
  have hb := E.2.1
  refine lv_iload_n hx hb dX5_then_0 rfl (lv_at hl 1 rfl) ?_
  refine lv_iconst (v := 0) hx hb dX5_then_1 rfl ?_
  refine lv_bipush (v := 60) hx hb dX5_then_2 rfl ?_
  refine b_callS (is := []) (wb := []) (wb' := []) (As := [.int x, .int 0, .int 60]) (rest := []) (st1 := [.int (bI (inI x 0 60))]) (bs' := [xO G x0 s0 g0 k0 xt tr sg rf ab bl, oS G s0 t0 p0 n0, tW G t0 wo mi bi la (nI n) ki se wd hu bt, aW G rf 3 rfd]) E (c_X5_within l G x 0 60) sw_X5_75 hw [] rfl rfl rfl rfl rfl rfl hl.1 rfl rfl (Nat.le_of_ble_eq_true rfl) ⟨Nat.le_of_ble_eq_true rfl, Nat.le_of_ble_eq_true rfl⟩ (Nat.zero_le _) (Nat.zero_le _) dX5_then_4 rfl rfl (fun H locs hw => ?_)
  refine lv_if_eq (tgt := 23) hx hb dX5_then_7 rfl (fun cq7 => ?_) (fun cq7 => ?_)
  · skip
    have cq7 := bI_0.mp cq7
    refine lv_aload_n hx hb dX5_then_23 rfl (lv_at hl 0 rfl) ?_
    refine lv_bipush (v := -2) hx hb dX5_then_24 rfl ?_
    refine b_callV (is := [0, 3]) (wb := [xO G x0 s0 g0 k0 xt tr sg rf ab bl, aW G rf 3 rfd]) (wb' := [xO G x0 s0 g0 k0 xt tr sg rf ab bl, aW G rf 3 (upd rfd 0 (rfd 0 + 1))]) (As := [.int (-2)]) (rest := []) (st1 := [.int (-2)]) (bs' := [xO G x0 s0 g0 k0 xt tr sg rf ab bl, oS G s0 t0 p0 n0, tW G t0 wo mi bi la (nI n) ki se wd hu bt, aW G rf 3 (upd rfd 0 (rfd 0 + 1))]) E (c_X5_refuse l G x0 s0 g0 k0 xt tr sg rf (-2) ab bl rfd 0 (by omega) (by decide)) vw_X5_56 hw [0, 3] rfl 0 0 rfl rfl rfl rfl rfl rfl rfl rfl rfl hl.1 rfl rfl (Nat.le_of_ble_eq_true rfl) ⟨Nat.le_of_ble_eq_true rfl, Nat.le_of_ble_eq_true rfl⟩ (Nat.zero_le _) (Nat.zero_le _) dX5_then_26 rfl rfl (fun H locs hw => ?_)
    exact x_iret E hA rt hw dX5_then_29 (rfl) rfl
  · skip
    have cq7 := bI_n0.mp cq7
    refine lv_iload_n hx hb dX5_then_10 rfl (lv_at hl 2 rfl) ?_
    refine lv_iconst (v := -1) hx hb dX5_then_11 rfl ?_
    refine lv_icmp_eq (tgt := 30) hx hb dX5_then_12 rfl (fun cq12 => ?_) (fun cq12 => ?_)
    · skip
      exact h0.elim (fun h9 => absurd cq7 (by rw [h9]; decide)) (fun h9 => (h9.1 cq12).elim)
    · skip
      refine lv_aload_n hx hb dX5_then_15 rfl (lv_at hl 0 rfl) ?_
      refine lv_iload_n hx hb dX5_then_16 rfl (lv_at hl 2 rfl) ?_
      refine b_callV (is := [0, 1, 2]) (wb := [xO G x0 s0 g0 k0 xt tr sg rf ab bl, oS G s0 t0 p0 n0, tW G t0 wo mi bi la (nI n) ki se wd hu bt]) (wb' := [xO G x0 s0 g0 k0 xt tr sg rf ab bl, oS G s0 t0 p0 n0, tW G t0 wo mi bi la (nI n) ki se wd hu bt]) (As := [.int y]) (rest := []) (st1 := [.int (bI (inI y 0 (nI n - 1)))]) (bs' := [xO G x0 s0 g0 k0 xt tr sg rf ab bl, oS G s0 t0 p0 n0, tW G t0 wo mi bi la (nI n) ki se wd hu bt, aW G rf 3 rfd]) E (c_X5_isChild l G x0 s0 t0 p0 n0 g0 k0 xt tr sg rf y ab bl wo mi bi la n ki se wd hu bt) vw_X5_120 hw [0, 1, 2] rfl 0 0 rfl rfl rfl rfl rfl rfl rfl rfl rfl hl.1 rfl rfl (Nat.le_of_ble_eq_true rfl) ⟨Nat.le_of_ble_eq_true rfl, Nat.le_of_ble_eq_true rfl⟩ (Nat.zero_le _) (Nat.zero_le _) dX5_then_17 rfl rfl (fun H locs hw => ?_)
      refine lv_if_ne (tgt := 30) hx hb dX5_then_20 rfl (fun cq20 => ?_) (fun cq20 => ?_)
      · skip
        have cq20 := bI_n0.mp cq20
        exact h0.elim (fun h9 => absurd cq7 (by rw [h9]; decide)) (fun h9 => absurd cq20 (by rw [h9.2]; decide))
      · skip
        have cq20 := bI_0.mp cq20
        refine lv_aload_n hx hb dX5_then_23 rfl (lv_at hl 0 rfl) ?_
        refine lv_bipush (v := -2) hx hb dX5_then_24 rfl ?_
        refine b_callV (is := [0, 3]) (wb := [xO G x0 s0 g0 k0 xt tr sg rf ab bl, aW G rf 3 rfd]) (wb' := [xO G x0 s0 g0 k0 xt tr sg rf ab bl, aW G rf 3 (upd rfd 0 (rfd 0 + 1))]) (As := [.int (-2)]) (rest := []) (st1 := [.int (-2)]) (bs' := [xO G x0 s0 g0 k0 xt tr sg rf ab bl, oS G s0 t0 p0 n0, tW G t0 wo mi bi la (nI n) ki se wd hu bt, aW G rf 3 (upd rfd 0 (rfd 0 + 1))]) E (c_X5_refuse l G x0 s0 g0 k0 xt tr sg rf (-2) ab bl rfd 0 (by omega) (by decide)) vw_X5_56 hw [0, 3] rfl 0 0 rfl rfl rfl rfl rfl rfl rfl rfl rfl hl.1 rfl rfl (Nat.le_of_ble_eq_true rfl) ⟨Nat.le_of_ble_eq_true rfl, Nat.le_of_ble_eq_true rfl⟩ (Nat.zero_le _) (Nat.zero_le _) dX5_then_26 rfl rfl (fun H locs hw => ?_)
        exact x_iret E hA rt hw dX5_then_29 (rfl) rfl
set_option maxHeartbeats 1000000 in
set_option maxRecDepth 100000 in
theorem c_X5_then_all (l : Launch) (G : GG) (x0 : Nat) (s0 : Nat) (t0 : Nat → Nat) (p0 : Nat → Nat) (n0 : Nat → Nat) (g0 : Nat) (k0 : Nat) (xt : Nat → Nat) (tr : Nat → Nat) (sg : Nat) (rf : Nat) (x : Int32) (xx : Nat) (hv_x : x = nI xx) (y : Int32) (ab : Int64) (bl : Int64) (wo : Int32) (mi : Int32) (bi : Int32) (la : Int32) (n : Nat) (ki : Nat → Int32) (se : Nat → Int32) (wd : Nat → Int32) (hu : Nat → Int32) (bt : Nat → Int32) (wo1 : Int32) (mi1 : Int32) (bi1 : Int32) (la1 : Int32) (ch1 : Int32) (ki1 : Nat → Int32) (se1 : Nat → Int32) (wd1 : Nat → Int32) (hu1 : Nat → Int32) (bt1 : Nat → Int32) (D : Dy) (hn : n ≤ 6) (h1 : inI x 0 60 = true) (hxx : xx ≤ 60) (hD : pmN wo n ki se wd xx (mi, bi, la, hu, bt) = D) (h2 : y = -1) : CT l G yX5_then cX5_then 3 (some .int) 6 132 [.ref x0, .int x, .int y] ([xO G x0 s0 g0 k0 xt tr sg rf ab bl, oS G s0 t0 p0 n0, tW G t0 wo mi bi la (nI n) ki se wd hu bt, tW G tr wo1 mi1 bi1 la1 ch1 ki1 se1 wd1 hu1 bt1].flatten) (some (.int D.2.1)) ([xO G x0 s0 g0 k0 xt tr sg rf ab bl, oS G s0 t0 p0 n0, tW G t0 wo mi bi la (nI n) ki se wd hu bt, tW G tr wo D.1 D.2.1 D.2.2.1 (nI n) ki se wd D.2.2.2.1 D.2.2.2.2].flatten) := by
  refine CT.mk (own := RX5) (la := [(0, .ref x0), (1, .int x), (2, .int y)]) (by decide) rfl (Nat.le_of_ble_eq_true rfl) rfl ?_
  intro p e s m args below meth c A Q E hA hw rt ls hl
  have hx := E.1
  have hb := E.2.1
  refine lv_iload_n hx hb dX5_then_0 rfl (lv_at hl 1 rfl) ?_
  refine lv_iconst (v := 0) hx hb dX5_then_1 rfl ?_
  refine lv_bipush (v := 60) hx hb dX5_then_2 rfl ?_
  refine b_callS (is := []) (wb := []) (wb' := []) (As := [.int x, .int 0, .int 60]) (rest := []) (st1 := [.int (bI (inI x 0 60))]) (bs' := [xO G x0 s0 g0 k0 xt tr sg rf ab bl, oS G s0 t0 p0 n0, tW G t0 wo mi bi la (nI n) ki se wd hu bt, tW G tr wo1 mi1 bi1 la1 ch1 ki1 se1 wd1 hu1 bt1]) E (c_X5_within l G x 0 60) sw_X5_75 hw [] rfl rfl rfl rfl rfl rfl hl.1 rfl rfl (Nat.le_of_ble_eq_true rfl) ⟨Nat.le_of_ble_eq_true rfl, Nat.le_of_ble_eq_true rfl⟩ (Nat.zero_le _) (Nat.zero_le _) dX5_then_4 rfl rfl (fun H locs hw => ?_)
  refine lv_if_eq (tgt := 23) hx hb dX5_then_7 rfl (fun cq7 => ?_) (fun cq7 => ?_)
  · skip
    have cq7 := bI_0.mp cq7
    exact absurd cq7 (by rw [h1]; decide)
  · skip
    have cq7 := bI_n0.mp cq7
    refine lv_iload_n hx hb dX5_then_10 rfl (lv_at hl 2 rfl) ?_
    refine lv_iconst (v := -1) hx hb dX5_then_11 rfl ?_
    refine lv_icmp_eq (tgt := 30) hx hb dX5_then_12 rfl (fun cq12 => ?_) (fun cq12 => ?_)
    · skip
      refine lv_aload_n hx hb dX5_then_30 rfl (lv_at hl 0 rfl) ?_
      refine b_get E hw fw_X5_34 0 0 rfl rfl rfl dX5_then_31 ?_
      refine lv_aload_n hx hb dX5_then_34 rfl (lv_at hl 0 rfl) ?_
      refine b_get E hw fw_X5_10 0 0 rfl rfl rfl dX5_then_35 ?_
      refine b_get E hw fw_X5_60 1 0 rfl rfl rfl dX5_then_38 ?_
      refine b_callV (is := [3, 2]) (wb := [tW G tr wo1 mi1 bi1 la1 ch1 ki1 se1 wd1 hu1 bt1, tW G t0 wo mi bi la (nI n) ki se wd hu bt]) (wb' := [tW G tr wo mi bi la (nI n) ki se wd hu bt, tW G t0 wo mi bi la (nI n) ki se wd hu bt]) (As := [.ref (t0 0)]) (rest := []) (st1 := []) (bs' := [xO G x0 s0 g0 k0 xt tr sg rf ab bl, oS G s0 t0 p0 n0, tW G t0 wo mi bi la (nI n) ki se wd hu bt, tW G tr wo mi bi la (nI n) ki se wd hu bt]) E (c_X3_copyFrom l G tr t0 wo1 mi1 bi1 la1 ch1 ki1 se1 wd1 hu1 bt1 wo mi bi la (nI n) ki se wd hu bt) vw_X5_154 hw [3, 2] rfl 3 0 rfl rfl rfl rfl rfl rfl (flat2 _ _) (flat2 _ _) rfl hl.1 rfl rfl (Nat.le_of_ble_eq_true rfl) ⟨Nat.le_of_ble_eq_true rfl, Nat.le_of_ble_eq_true rfl⟩ (Nat.zero_le _) (Nat.zero_le _) dX5_then_41 rfl rfl (fun H locs hw => ?_)
      refine lv_aload_n hx hb dX5_then_44 rfl (lv_at hl 0 rfl) ?_
      refine b_get E hw fw_X5_34 0 0 rfl rfl rfl dX5_then_45 ?_
      refine lv_iload_n hx hb dX5_then_48 rfl (lv_at hl 1 rfl) ?_
      refine b_callV (is := [3]) (wb := [tW G tr wo mi bi la (nI n) ki se wd hu bt]) (wb' := [tW G tr wo D.1 D.2.1 D.2.2.1 (nI n) ki se wd D.2.2.2.1 D.2.2.2.2]) (As := [.int x]) (rest := []) (st1 := [.int (D.2.1 - bi)]) (bs' := [xO G x0 s0 g0 k0 xt tr sg rf ab bl, oS G s0 t0 p0 n0, tW G t0 wo mi bi la (nI n) ki se wd hu bt, tW G tr wo D.1 D.2.1 D.2.2.1 (nI n) ki se wd D.2.2.2.1 D.2.2.2.2]) E (c_X3_passM l G tr x xx (hv_x) wo mi bi la n ki se wd hu bt D (by omega) (by omega) (hD)) vw_X5_117 hw [3] rfl 3 0 rfl rfl rfl rfl rfl rfl (flat1 _) (flat1 _) rfl hl.1 rfl rfl (Nat.le_of_ble_eq_true rfl) ⟨Nat.le_of_ble_eq_true rfl, Nat.le_of_ble_eq_true rfl⟩ (Nat.zero_le _) (Nat.zero_le _) dX5_then_49 rfl rfl (fun H locs hw => ?_)
      refine lv_pop hx hb dX5_then_52 rfl ?_
      refine lv_iload_n hx hb dX5_then_53 rfl (lv_at hl 2 rfl) ?_
      refine lv_iconst (v := -1) hx hb dX5_then_54 rfl ?_
      refine lv_icmp_ne (tgt := 68) hx hb dX5_then_55 rfl (fun cq55 => ?_) (fun cq55 => ?_)
      · skip
        exact (cq55 h2).elim
      · skip
        refine lv_aload_n hx hb dX5_then_58 rfl (lv_at hl 0 rfl) ?_
        refine b_get E hw fw_X5_34 0 0 rfl rfl rfl dX5_then_59 ?_
        refine b_get E hw fw_X5_157 3 0 rfl rfl rfl dX5_then_62 ?_
        refine lv_goto (tgt := 77) hx hb dX5_then_65 rfl ?_
        exact x_iret E hA rt hw dX5_then_77 (rfl) rfl
    · skip
      exact (cq12 h2).elim
set_option maxHeartbeats 1000000 in
set_option maxRecDepth 100000 in
theorem c_X5_then_one (l : Launch) (G : GG) (x0 : Nat) (s0 : Nat) (t0 : Nat → Nat) (p0 : Nat → Nat) (n0 : Nat → Nat) (g0 : Nat) (k0 : Nat) (xt : Nat → Nat) (tr : Nat → Nat) (sg : Nat) (rf : Nat) (x : Int32) (xx : Nat) (hv_x : x = nI xx) (y : Int32) (k : Nat) (hv_y : y = nI k) (ab : Int64) (bl : Int64) (wo : Int32) (mi : Int32) (bi : Int32) (la : Int32) (n : Nat) (ki : Nat → Int32) (se : Nat → Int32) (wd : Nat → Int32) (hu : Nat → Int32) (bt : Nat → Int32) (wo1 : Int32) (mi1 : Int32) (bi1 : Int32) (la1 : Int32) (ch1 : Int32) (ki1 : Nat → Int32) (se1 : Nat → Int32) (wd1 : Nat → Int32) (hu1 : Nat → Int32) (bt1 : Nat → Int32) (D : Dy) (hn : n ≤ 6) (h1 : inI x 0 60 = true) (hxx : xx ≤ 60) (hD : pmN wo n ki se wd xx (mi, bi, la, hu, bt) = D) (h2 : ¬ y = -1) (h3 : inI y 0 (nI n - 1) = true) (hk : k < n) : CT l G yX5_then cX5_then 3 (some .int) 6 132 [.ref x0, .int x, .int y] ([xO G x0 s0 g0 k0 xt tr sg rf ab bl, oS G s0 t0 p0 n0, tW G t0 wo mi bi la (nI n) ki se wd hu bt, tW G tr wo1 mi1 bi1 la1 ch1 ki1 se1 wd1 hu1 bt1].flatten) (some (.int (D.2.2.2.2 k))) ([xO G x0 s0 g0 k0 xt tr sg rf ab bl, oS G s0 t0 p0 n0, tW G t0 wo mi bi la (nI n) ki se wd hu bt, tW G tr wo D.1 D.2.1 D.2.2.1 (nI n) ki se wd D.2.2.2.1 D.2.2.2.2].flatten) := by
  refine CT.mk (own := RX5) (la := [(0, .ref x0), (1, .int x), (2, .int y)]) (by decide) rfl (Nat.le_of_ble_eq_true rfl) rfl ?_
  intro p e s m args below meth c A Q E hA hw rt ls hl
  have hx := E.1
  have hb := E.2.1
  refine lv_iload_n hx hb dX5_then_0 rfl (lv_at hl 1 rfl) ?_
  refine lv_iconst (v := 0) hx hb dX5_then_1 rfl ?_
  refine lv_bipush (v := 60) hx hb dX5_then_2 rfl ?_
  refine b_callS (is := []) (wb := []) (wb' := []) (As := [.int x, .int 0, .int 60]) (rest := []) (st1 := [.int (bI (inI x 0 60))]) (bs' := [xO G x0 s0 g0 k0 xt tr sg rf ab bl, oS G s0 t0 p0 n0, tW G t0 wo mi bi la (nI n) ki se wd hu bt, tW G tr wo1 mi1 bi1 la1 ch1 ki1 se1 wd1 hu1 bt1]) E (c_X5_within l G x 0 60) sw_X5_75 hw [] rfl rfl rfl rfl rfl rfl hl.1 rfl rfl (Nat.le_of_ble_eq_true rfl) ⟨Nat.le_of_ble_eq_true rfl, Nat.le_of_ble_eq_true rfl⟩ (Nat.zero_le _) (Nat.zero_le _) dX5_then_4 rfl rfl (fun H locs hw => ?_)
  refine lv_if_eq (tgt := 23) hx hb dX5_then_7 rfl (fun cq7 => ?_) (fun cq7 => ?_)
  · skip
    have cq7 := bI_0.mp cq7
    exact absurd cq7 (by rw [h1]; decide)
  · skip
    have cq7 := bI_n0.mp cq7
    refine lv_iload_n hx hb dX5_then_10 rfl (lv_at hl 2 rfl) ?_
    refine lv_iconst (v := -1) hx hb dX5_then_11 rfl ?_
    refine lv_icmp_eq (tgt := 30) hx hb dX5_then_12 rfl (fun cq12 => ?_) (fun cq12 => ?_)
    · skip
      exact (h2 cq12).elim
    · skip
      refine lv_aload_n hx hb dX5_then_15 rfl (lv_at hl 0 rfl) ?_
      refine lv_iload_n hx hb dX5_then_16 rfl (lv_at hl 2 rfl) ?_
      refine b_callV (is := [0, 1, 2]) (wb := [xO G x0 s0 g0 k0 xt tr sg rf ab bl, oS G s0 t0 p0 n0, tW G t0 wo mi bi la (nI n) ki se wd hu bt]) (wb' := [xO G x0 s0 g0 k0 xt tr sg rf ab bl, oS G s0 t0 p0 n0, tW G t0 wo mi bi la (nI n) ki se wd hu bt]) (As := [.int y]) (rest := []) (st1 := [.int (bI (inI y 0 (nI n - 1)))]) (bs' := [xO G x0 s0 g0 k0 xt tr sg rf ab bl, oS G s0 t0 p0 n0, tW G t0 wo mi bi la (nI n) ki se wd hu bt, tW G tr wo1 mi1 bi1 la1 ch1 ki1 se1 wd1 hu1 bt1]) E (c_X5_isChild l G x0 s0 t0 p0 n0 g0 k0 xt tr sg rf y ab bl wo mi bi la n ki se wd hu bt) vw_X5_120 hw [0, 1, 2] rfl 0 0 rfl rfl rfl rfl rfl rfl rfl rfl rfl hl.1 rfl rfl (Nat.le_of_ble_eq_true rfl) ⟨Nat.le_of_ble_eq_true rfl, Nat.le_of_ble_eq_true rfl⟩ (Nat.zero_le _) (Nat.zero_le _) dX5_then_17 rfl rfl (fun H locs hw => ?_)
      refine lv_if_ne (tgt := 30) hx hb dX5_then_20 rfl (fun cq20 => ?_) (fun cq20 => ?_)
      · skip
        have cq20 := bI_n0.mp cq20
        refine lv_aload_n hx hb dX5_then_30 rfl (lv_at hl 0 rfl) ?_
        refine b_get E hw fw_X5_34 0 0 rfl rfl rfl dX5_then_31 ?_
        refine lv_aload_n hx hb dX5_then_34 rfl (lv_at hl 0 rfl) ?_
        refine b_get E hw fw_X5_10 0 0 rfl rfl rfl dX5_then_35 ?_
        refine b_get E hw fw_X5_60 1 0 rfl rfl rfl dX5_then_38 ?_
        refine b_callV (is := [3, 2]) (wb := [tW G tr wo1 mi1 bi1 la1 ch1 ki1 se1 wd1 hu1 bt1, tW G t0 wo mi bi la (nI n) ki se wd hu bt]) (wb' := [tW G tr wo mi bi la (nI n) ki se wd hu bt, tW G t0 wo mi bi la (nI n) ki se wd hu bt]) (As := [.ref (t0 0)]) (rest := []) (st1 := []) (bs' := [xO G x0 s0 g0 k0 xt tr sg rf ab bl, oS G s0 t0 p0 n0, tW G t0 wo mi bi la (nI n) ki se wd hu bt, tW G tr wo mi bi la (nI n) ki se wd hu bt]) E (c_X3_copyFrom l G tr t0 wo1 mi1 bi1 la1 ch1 ki1 se1 wd1 hu1 bt1 wo mi bi la (nI n) ki se wd hu bt) vw_X5_154 hw [3, 2] rfl 3 0 rfl rfl rfl rfl rfl rfl (flat2 _ _) (flat2 _ _) rfl hl.1 rfl rfl (Nat.le_of_ble_eq_true rfl) ⟨Nat.le_of_ble_eq_true rfl, Nat.le_of_ble_eq_true rfl⟩ (Nat.zero_le _) (Nat.zero_le _) dX5_then_41 rfl rfl (fun H locs hw => ?_)
        refine lv_aload_n hx hb dX5_then_44 rfl (lv_at hl 0 rfl) ?_
        refine b_get E hw fw_X5_34 0 0 rfl rfl rfl dX5_then_45 ?_
        refine lv_iload_n hx hb dX5_then_48 rfl (lv_at hl 1 rfl) ?_
        refine b_callV (is := [3]) (wb := [tW G tr wo mi bi la (nI n) ki se wd hu bt]) (wb' := [tW G tr wo D.1 D.2.1 D.2.2.1 (nI n) ki se wd D.2.2.2.1 D.2.2.2.2]) (As := [.int x]) (rest := []) (st1 := [.int (D.2.1 - bi)]) (bs' := [xO G x0 s0 g0 k0 xt tr sg rf ab bl, oS G s0 t0 p0 n0, tW G t0 wo mi bi la (nI n) ki se wd hu bt, tW G tr wo D.1 D.2.1 D.2.2.1 (nI n) ki se wd D.2.2.2.1 D.2.2.2.2]) E (c_X3_passM l G tr x xx (hv_x) wo mi bi la n ki se wd hu bt D (by omega) (by omega) (hD)) vw_X5_117 hw [3] rfl 3 0 rfl rfl rfl rfl rfl rfl (flat1 _) (flat1 _) rfl hl.1 rfl rfl (Nat.le_of_ble_eq_true rfl) ⟨Nat.le_of_ble_eq_true rfl, Nat.le_of_ble_eq_true rfl⟩ (Nat.zero_le _) (Nat.zero_le _) dX5_then_49 rfl rfl (fun H locs hw => ?_)
        refine lv_pop hx hb dX5_then_52 rfl ?_
        refine lv_iload_n hx hb dX5_then_53 rfl (lv_at hl 2 rfl) ?_
        refine lv_iconst (v := -1) hx hb dX5_then_54 rfl ?_
        refine lv_icmp_ne (tgt := 68) hx hb dX5_then_55 rfl (fun cq55 => ?_) (fun cq55 => ?_)
        · skip
          refine lv_aload_n hx hb dX5_then_68 rfl (lv_at hl 0 rfl) ?_
          refine b_get E hw fw_X5_34 0 0 rfl rfl rfl dX5_then_69 ?_
          refine b_get E hw fw_X5_160 3 0 rfl rfl rfl dX5_then_72 ?_
          refine lv_iload_n hx hb dX5_then_75 rfl (lv_at hl 2 rfl) ?_
          refine b_iald E hw 3 5 rfl rfl k (hv_y) (by omega) (by omega) dX5_then_76 ?_
          exact x_iret E hA rt hw dX5_then_77 (rfl) rfl
        · skip
          exact (h2 cq55).elim
      · skip
        have cq20 := bI_0.mp cq20
        exact absurd cq20 (by rw [h3]; decide)
set_option maxHeartbeats 1000000 in
set_option maxRecDepth 100000 in
theorem c_X5_quiet (l : Launch) (G : GG) (x0 : Nat) (s0 : Nat) (t0 : Nat → Nat) (p0 : Nat → Nat) (n0 : Nat → Nat) (g0 : Nat) (k0 : Nat) (xt : Nat → Nat) (tr : Nat → Nat) (sg : Nat) (rf : Nat) (ab : Int64) (bl : Int64) (wo : Int32) (mi : Int32) (bi : Int32) (la : Int32) (n : Nat) (ki : Nat → Int32) (se : Nat → Int32) (wd : Nat → Int32) (hu : Nat → Int32) (bt : Nat → Int32) (wo1 : Int32) (mi1 : Int32) (bi1 : Int32) (la1 : Int32) (ch1 : Int32) (ki1 : Nat → Int32) (se1 : Nat → Int32) (wd1 : Nat → Int32) (hu1 : Nat → Int32) (bt1 : Nat → Int32) (hn : n ≤ 6) : CE l G yX5_quiet cX5_quiet 2 (some .int) 5 109 [.ref x0] ([xO G x0 s0 g0 k0 xt tr sg rf ab bl, oS G s0 t0 p0 n0, tW G t0 wo mi bi la (nI n) ki se wd hu bt, tW G tr wo1 mi1 bi1 la1 ch1 ki1 se1 wd1 hu1 bt1].flatten) (some (.int (qtC wo n ki se wd 60 1 (mi, bi, la, hu, bt)))) (fun uu : Int32 × Int32 × Int32 × (Nat → Int32) × (Nat → Int32) => [xO G x0 s0 g0 k0 xt tr sg rf ab bl, oS G s0 t0 p0 n0, tW G t0 wo mi bi la (nI n) ki se wd hu bt, tW G tr wo uu.1 uu.2.1 uu.2.2.1 (nI n) ki se wd uu.2.2.2.1 uu.2.2.2.2].flatten) := by
  refine CE.mk (own := RX5) (la := [(0, .ref x0)]) (by decide) rfl (Nat.le_of_ble_eq_true rfl) rfl ?_
  intro p e s m args below meth c A Q E hA hw rt ls hl
  have hx := E.1
  have hb := E.2.1
  refine lv_aload_n hx hb dX5_quiet_0 rfl (lv_at hl 0 rfl) ?_
  refine b_get E hw fw_X5_34 0 0 rfl rfl rfl dX5_quiet_1 ?_
  refine lv_aload_n hx hb dX5_quiet_4 rfl (lv_at hl 0 rfl) ?_
  refine b_get E hw fw_X5_10 0 0 rfl rfl rfl dX5_quiet_5 ?_
  refine b_get E hw fw_X5_60 1 0 rfl rfl rfl dX5_quiet_8 ?_
  refine b_callV (is := [3, 2]) (wb := [tW G tr wo1 mi1 bi1 la1 ch1 ki1 se1 wd1 hu1 bt1, tW G t0 wo mi bi la (nI n) ki se wd hu bt]) (wb' := [tW G tr wo mi bi la (nI n) ki se wd hu bt, tW G t0 wo mi bi la (nI n) ki se wd hu bt]) (As := [.ref (t0 0)]) (rest := []) (st1 := []) (bs' := [xO G x0 s0 g0 k0 xt tr sg rf ab bl, oS G s0 t0 p0 n0, tW G t0 wo mi bi la (nI n) ki se wd hu bt, tW G tr wo mi bi la (nI n) ki se wd hu bt]) E (c_X3_copyFrom l G tr t0 wo1 mi1 bi1 la1 ch1 ki1 se1 wd1 hu1 bt1 wo mi bi la (nI n) ki se wd hu bt) vw_X5_154 hw [3, 2] rfl 3 0 rfl rfl rfl rfl rfl rfl (flat2 _ _) (flat2 _ _) rfl hl.1 rfl rfl (Nat.le_of_ble_eq_true rfl) ⟨Nat.le_of_ble_eq_true rfl, Nat.le_of_ble_eq_true rfl⟩ (Nat.zero_le _) (Nat.zero_le _) dX5_quiet_11 rfl rfl (fun H locs hw => ?_)
  refine lv_iconst (v := 1) hx hb dX5_quiet_14 rfl ?_
  refine lv_istore_n (lv' := [(1, .int 1), (0, .ref x0)]) hx hb dX5_quiet_15 rfl hl (by decide) rfl (fun ls hl => ?_)
  have lp16 : ∀ (fuel : Nat), ∀ (k : Nat) (D : Dy) (hk1 : 1 ≤ k) (hk : k ≤ 61) (hiv : qtC wo n ki se wd 60 1 (mi, bi, la, hu, bt) = qtC wo n ki se wd (61 - k) k D), (61 - k) < fuel → ∀ (H : Heap) (locs : List Loc) (ls : Array Slot), Bd G A s H locs ([xO G x0 s0 g0 k0 xt tr sg rf ab bl, oS G s0 t0 p0 n0, tW G t0 wo mi bi la (nI n) ki se wd hu bt, tW G tr wo D.1 D.2.1 D.2.2.1 (nI n) ki se wd D.2.2.2.1 D.2.2.2.2]) → lv_has ls 2 [(0, .ref x0), (1, .int (nI k))] → W p l e (rmx 5 109) s m args below meth c H locs 0 0 Q (F0 m 16 ls []) := by
    intro fuel
    induction fuel with
    | zero => intro k D hk1 hk hiv hfu; exact absurd hfu (Nat.not_lt_zero _)
    | succ fuel ih16 =>
      intro k D hk1 hk hiv hfu H locs ls hw hl
      refine lv_iload_n hx hb dX5_quiet_16 rfl (lv_at hl 1 rfl) ?_
      refine lv_bipush (v := 60) hx hb dX5_quiet_17 rfl ?_
      refine lv_icmp_gt (tgt := 40) hx hb dX5_quiet_19 rfl (fun cq19 => ?_) (fun cq19 => ?_)
      · skip
        have cq19 : 60 < k := (cv_lt (a := 60) (b := k) rfl rfl (by omega) (by omega)).mp cq19
        refine lv_iconst (v := -1) hx hb dX5_quiet_40 rfl ?_
        exact x_iretE (D.1, D.2.1, D.2.2.1, D.2.2.2.1, D.2.2.2.2) E hA rt hw dX5_quiet_41 (by rw [hiv, show k = 61 by omega]; rfl) rfl
      · skip
        have cq19 : ¬ 60 < k := fun h => cq19 ((cv_lt (a := 60) (b := k) rfl rfl (by omega) (by omega)).mpr h)
        refine lv_aload_n hx hb dX5_quiet_22 rfl (lv_at hl 0 rfl) ?_
        refine b_get E hw fw_X5_34 0 0 rfl rfl rfl dX5_quiet_23 ?_
        refine b_callV (is := [3]) (wb := [tW G tr wo D.1 D.2.1 D.2.2.1 (nI n) ki se wd D.2.2.2.1 D.2.2.2.2]) (wb' := [tW G tr wo (D.1 + 1) (D.2.1 + bcI (bitr wo D.2.2.1 n ki se wd D.2.2.2.1 D.2.2.2.2)) (bcI (bitr wo D.2.2.1 n ki se wd D.2.2.2.1 D.2.2.2.2)) (nI n) ki se wd (pre (fH (bitr wo D.2.2.1 n ki se wd D.2.2.2.1 D.2.2.2.2) D.2.2.2.1) D.2.2.2.1 n) (pre (fB se n (bitr wo D.2.2.1 n ki se wd D.2.2.2.1 D.2.2.2.2) D.2.2.2.2) D.2.2.2.2 n)]) (As := []) (rest := []) (st1 := [.int (bcI (bitr wo D.2.2.1 n ki se wd D.2.2.2.1 D.2.2.2.2))]) (bs' := [xO G x0 s0 g0 k0 xt tr sg rf ab bl, oS G s0 t0 p0 n0, tW G t0 wo mi bi la (nI n) ki se wd hu bt, tW G tr wo (D.1 + 1) (D.2.1 + bcI (bitr wo D.2.2.1 n ki se wd D.2.2.2.1 D.2.2.2.2)) (bcI (bitr wo D.2.2.1 n ki se wd D.2.2.2.1 D.2.2.2.2)) (nI n) ki se wd (pre (fH (bitr wo D.2.2.1 n ki se wd D.2.2.2.1 D.2.2.2.2) D.2.2.2.1) D.2.2.2.1 n) (pre (fB se n (bitr wo D.2.2.1 n ki se wd D.2.2.2.1 D.2.2.2.2) D.2.2.2.2) D.2.2.2.2 n)]) E (c_X3_passMinute l G tr wo D.1 D.2.1 D.2.2.1 n ki se wd D.2.2.2.1 D.2.2.2.2 (by omega)) vw_X5_163 hw [3] rfl 3 0 rfl rfl rfl rfl rfl rfl (flat1 _) (flat1 _) rfl hl.1 rfl rfl (Nat.le_of_ble_eq_true rfl) ⟨Nat.le_of_ble_eq_true rfl, Nat.le_of_ble_eq_true rfl⟩ (Nat.zero_le _) (Nat.zero_le _) dX5_quiet_26 rfl rfl (fun H locs hw => ?_)
        refine lv_if_le (tgt := 34) hx hb dX5_quiet_29 rfl (fun cq29 => ?_) (fun cq29 => ?_)
        · skip
          refine lv_iinc (v := nI (k + 1)) (lv' := [(1, .int (nI (k + 1))), (0, .ref x0)]) hx hb dX5_quiet_34 hl (k := 1) rfl (nI_add _ 1) (by decide) rfl (fun ls hl => ?_)
          refine lv_goto (tgt := 16) hx hb dX5_quiet_37 rfl ?_
          exact ih16 (k + 1) (pm1 wo n ki se wd D) (by omega) (by omega) (by rw [hiv, show 61 - k = (61 - (k + 1)) + 1 by omega, qtC, if_neg (Int32.not_lt.mpr cq29)]) (by omega) _ _ _ hw (lv_sub hl [1, 0] rfl)
        · skip
          refine lv_iload_n hx hb dX5_quiet_32 rfl (lv_at hl 1 rfl) ?_
          exact x_iretE (D.1 + 1, D.2.1 + bcI (bitr wo D.2.2.1 n ki se wd D.2.2.2.1 D.2.2.2.2), bcI (bitr wo D.2.2.1 n ki se wd D.2.2.2.1 D.2.2.2.2), pre (fH (bitr wo D.2.2.1 n ki se wd D.2.2.2.1 D.2.2.2.2) D.2.2.2.1) D.2.2.2.1 n, pre (fB se n (bitr wo D.2.2.1 n ki se wd D.2.2.2.1 D.2.2.2.2) D.2.2.2.2) D.2.2.2.2 n) E hA rt hw dX5_quiet_33 (by rw [hiv, show 61 - k = (61 - (k + 1)) + 1 by omega, qtC, if_pos (Int32.not_le.mp cq29)]) rfl
  exact lp16 (61 - 1 + 1) 1 (mi, bi, la, hu, bt) (by omega) (by omega) (rfl) (by omega) _ _ _ hw (lv_sub hl [1, 0] rfl)
set_option maxHeartbeats 1000000 in
set_option maxRecDepth 100000 in
theorem c_X5_stand_bad (l : Launch) (G : GG) (x0 : Nat) (s0 : Nat) (g0 : Nat) (k0 : Nat) (xt : Nat → Nat) (tr : Nat → Nat) (sg : Nat) (rf : Nat) (x : Int32) (y : Int32) (ab : Int64) (bl : Int64) (rfd : Nat → Int32) (h0 : (inI x 1 60 && inI y 0 1) = false) : CT l G yX5_stand cX5_stand 7 (some .int) 2 44 [.ref x0, .int x, .int y] ([xO G x0 s0 g0 k0 xt tr sg rf ab bl, aW G rf 3 rfd].flatten) (some (.int (-2))) ([xO G x0 s0 g0 k0 xt tr sg rf ab bl, aW G rf 3 (upd rfd 0 (rfd 0 + 1))].flatten) := by
  refine CT.mk (own := RX5) (la := [(0, .ref x0), (1, .int x), (2, .int y)]) (by decide) rfl (Nat.le_of_ble_eq_true rfl) rfl ?_
  intro p e s m args below meth c A Q E hA hw rt ls hl
  have hx := E.1
  have hb := E.2.1
  refine lv_iload_n hx hb dX5_stand_0 rfl (lv_at hl 1 rfl) ?_
  refine lv_iconst (v := 1) hx hb dX5_stand_1 rfl ?_
  refine lv_bipush (v := 60) hx hb dX5_stand_2 rfl ?_
  refine b_callS (is := []) (wb := []) (wb' := []) (As := [.int x, .int 1, .int 60]) (rest := []) (st1 := [.int (bI (inI x 1 60))]) (bs' := [xO G x0 s0 g0 k0 xt tr sg rf ab bl, aW G rf 3 rfd]) E (c_X5_within l G x 1 60) sw_X5_75 hw [] rfl rfl rfl rfl rfl rfl hl.1 rfl rfl (Nat.le_of_ble_eq_true rfl) ⟨Nat.le_of_ble_eq_true rfl, Nat.le_of_ble_eq_true rfl⟩ (Nat.zero_le _) (Nat.zero_le _) dX5_stand_4 rfl rfl (fun H locs hw => ?_)
  refine lv_if_eq (tgt := 19) hx hb dX5_stand_7 rfl (fun cq7 => ?_) (fun cq7 => ?_)
  · skip
    have cq7 := bI_0.mp cq7
    refine lv_aload_n hx hb dX5_stand_19 rfl (lv_at hl 0 rfl) ?_
    refine lv_bipush (v := -2) hx hb dX5_stand_20 rfl ?_
    refine b_callV (is := [0, 1]) (wb := [xO G x0 s0 g0 k0 xt tr sg rf ab bl, aW G rf 3 rfd]) (wb' := [xO G x0 s0 g0 k0 xt tr sg rf ab bl, aW G rf 3 (upd rfd 0 (rfd 0 + 1))]) (As := [.int (-2)]) (rest := []) (st1 := [.int (-2)]) (bs' := [xO G x0 s0 g0 k0 xt tr sg rf ab bl, aW G rf 3 (upd rfd 0 (rfd 0 + 1))]) E (c_X5_refuse l G x0 s0 g0 k0 xt tr sg rf (-2) ab bl rfd 0 (by omega) (by decide)) vw_X5_56 hw [0, 1] rfl 0 0 rfl rfl rfl rfl rfl rfl rfl rfl rfl hl.1 rfl rfl (Nat.le_of_ble_eq_true rfl) ⟨Nat.le_of_ble_eq_true rfl, Nat.le_of_ble_eq_true rfl⟩ (Nat.zero_le _) (Nat.zero_le _) dX5_stand_22 rfl rfl (fun H locs hw => ?_)
    exact x_iret E hA rt hw dX5_stand_25 (rfl) rfl
  · skip
    have cq7 := bI_n0.mp cq7
    refine lv_iload_n hx hb dX5_stand_10 rfl (lv_at hl 2 rfl) ?_
    refine lv_iconst (v := 0) hx hb dX5_stand_11 rfl ?_
    refine lv_iconst (v := 1) hx hb dX5_stand_12 rfl ?_
    refine b_callS (is := []) (wb := []) (wb' := []) (As := [.int y, .int 0, .int 1]) (rest := []) (st1 := [.int (bI (inI y 0 1))]) (bs' := [xO G x0 s0 g0 k0 xt tr sg rf ab bl, aW G rf 3 rfd]) E (c_X5_within l G y 0 1) sw_X5_75 hw [] rfl rfl rfl rfl rfl rfl hl.1 rfl rfl (Nat.le_of_ble_eq_true rfl) ⟨Nat.le_of_ble_eq_true rfl, Nat.le_of_ble_eq_true rfl⟩ (Nat.zero_le _) (Nat.zero_le _) dX5_stand_13 rfl rfl (fun H locs hw => ?_)
    refine lv_if_ne (tgt := 26) hx hb dX5_stand_16 rfl (fun cq16 => ?_) (fun cq16 => ?_)
    · skip
      have cq16 := bI_n0.mp cq16
      rw [cq7, cq16] at h0; exact absurd h0 (by decide)
    · skip
      have cq16 := bI_0.mp cq16
      refine lv_aload_n hx hb dX5_stand_19 rfl (lv_at hl 0 rfl) ?_
      refine lv_bipush (v := -2) hx hb dX5_stand_20 rfl ?_
      refine b_callV (is := [0, 1]) (wb := [xO G x0 s0 g0 k0 xt tr sg rf ab bl, aW G rf 3 rfd]) (wb' := [xO G x0 s0 g0 k0 xt tr sg rf ab bl, aW G rf 3 (upd rfd 0 (rfd 0 + 1))]) (As := [.int (-2)]) (rest := []) (st1 := [.int (-2)]) (bs' := [xO G x0 s0 g0 k0 xt tr sg rf ab bl, aW G rf 3 (upd rfd 0 (rfd 0 + 1))]) E (c_X5_refuse l G x0 s0 g0 k0 xt tr sg rf (-2) ab bl rfd 0 (by omega) (by decide)) vw_X5_56 hw [0, 1] rfl 0 0 rfl rfl rfl rfl rfl rfl rfl rfl rfl hl.1 rfl rfl (Nat.le_of_ble_eq_true rfl) ⟨Nat.le_of_ble_eq_true rfl, Nat.le_of_ble_eq_true rfl⟩ (Nat.zero_le _) (Nat.zero_le _) dX5_stand_22 rfl rfl (fun H locs hw => ?_)
      exact x_iret E hA rt hw dX5_stand_25 (rfl) rfl
set_option maxHeartbeats 1000000 in
set_option maxRecDepth 100000 in
theorem c_X5_stand_ok (l : Launch) (G : GG) (x0 : Nat) (s0 : Nat) (t0 : Nat → Nat) (p0 : Nat → Nat) (n0 : Nat → Nat) (g0 : Nat) (k0 : Nat) (xt : Nat → Nat) (tr : Nat → Nat) (sg : Nat) (rf : Nat) (x : Int32) (xx : Nat) (hv_x : x = nI xx) (y : Int32) (ab : Int64) (bl : Int64) (wo : Int32) (mi : Int32) (bi : Int32) (la : Int32) (n : Nat) (ki : Nat → Int32) (se : Nat → Int32) (wd : Nat → Int32) (hu : Nat → Int32) (bt : Nat → Int32) (wo1 : Int32) (mi1 : Int32) (bi1 : Int32) (la1 : Int32) (ch1 : Int32) (ki1 : Nat → Int32) (se1 : Nat → Int32) (wd1 : Nat → Int32) (hu1 : Nat → Int32) (bt1 : Nat → Int32) (hn : n ≤ 6) (h1 : inI x 1 60 = true) (h2 : inI y 0 1 = true) (hxx : xx ≤ 60) : CE l G yX5_stand cX5_stand 7 (some .int) 6 132 [.ref x0, .int x, .int y] ([xO G x0 s0 g0 k0 xt tr sg rf ab bl, oS G s0 t0 p0 n0, tW G t0 wo mi bi la (nI n) ki se wd hu bt, tW G tr wo1 mi1 bi1 la1 ch1 ki1 se1 wd1 hu1 bt1].flatten) (some (.int (if y = 0 then (stC n ki se wd xx (mi, bi, la, hu, bt) 8).2 else (stC n ki se wd xx (mi, bi, la, hu, bt) 8).1))) (fun uu : Int32 × Int32 × Int32 × Int32 × Int32 × (Nat → Int32) × (Nat → Int32) × (Nat → Int32) × (Nat → Int32) × (Nat → Int32) => [xO G x0 s0 g0 k0 xt tr sg rf ab bl, oS G s0 t0 p0 n0, tW G t0 wo mi bi la (nI n) ki se wd hu bt, tW G tr uu.1 uu.2.1 uu.2.2.1 uu.2.2.2.1 uu.2.2.2.2.1 uu.2.2.2.2.2.1 uu.2.2.2.2.2.2.1 uu.2.2.2.2.2.2.2.1 uu.2.2.2.2.2.2.2.2.1 uu.2.2.2.2.2.2.2.2.2].flatten) := by
  refine CE.mk (own := RX5) (la := [(0, .ref x0), (1, .int x), (2, .int y)]) (by decide) rfl (Nat.le_of_ble_eq_true rfl) rfl ?_
  intro p e s m args below meth c A Q E hA hw rt ls hl
  have hx := E.1
  have hb := E.2.1
  refine lv_iload_n hx hb dX5_stand_0 rfl (lv_at hl 1 rfl) ?_
  refine lv_iconst (v := 1) hx hb dX5_stand_1 rfl ?_
  refine lv_bipush (v := 60) hx hb dX5_stand_2 rfl ?_
  refine b_callS (is := []) (wb := []) (wb' := []) (As := [.int x, .int 1, .int 60]) (rest := []) (st1 := [.int (bI (inI x 1 60))]) (bs' := [xO G x0 s0 g0 k0 xt tr sg rf ab bl, oS G s0 t0 p0 n0, tW G t0 wo mi bi la (nI n) ki se wd hu bt, tW G tr wo1 mi1 bi1 la1 ch1 ki1 se1 wd1 hu1 bt1]) E (c_X5_within l G x 1 60) sw_X5_75 hw [] rfl rfl rfl rfl rfl rfl hl.1 rfl rfl (Nat.le_of_ble_eq_true rfl) ⟨Nat.le_of_ble_eq_true rfl, Nat.le_of_ble_eq_true rfl⟩ (Nat.zero_le _) (Nat.zero_le _) dX5_stand_4 rfl rfl (fun H locs hw => ?_)
  refine lv_if_eq (tgt := 19) hx hb dX5_stand_7 rfl (fun cq7 => ?_) (fun cq7 => ?_)
  · skip
    have cq7 := bI_0.mp cq7
    exact absurd cq7 (by rw [h1]; decide)
  · skip
    have cq7 := bI_n0.mp cq7
    refine lv_iload_n hx hb dX5_stand_10 rfl (lv_at hl 2 rfl) ?_
    refine lv_iconst (v := 0) hx hb dX5_stand_11 rfl ?_
    refine lv_iconst (v := 1) hx hb dX5_stand_12 rfl ?_
    refine b_callS (is := []) (wb := []) (wb' := []) (As := [.int y, .int 0, .int 1]) (rest := []) (st1 := [.int (bI (inI y 0 1))]) (bs' := [xO G x0 s0 g0 k0 xt tr sg rf ab bl, oS G s0 t0 p0 n0, tW G t0 wo mi bi la (nI n) ki se wd hu bt, tW G tr wo1 mi1 bi1 la1 ch1 ki1 se1 wd1 hu1 bt1]) E (c_X5_within l G y 0 1) sw_X5_75 hw [] rfl rfl rfl rfl rfl rfl hl.1 rfl rfl (Nat.le_of_ble_eq_true rfl) ⟨Nat.le_of_ble_eq_true rfl, Nat.le_of_ble_eq_true rfl⟩ (Nat.zero_le _) (Nat.zero_le _) dX5_stand_13 rfl rfl (fun H locs hw => ?_)
    refine lv_if_ne (tgt := 26) hx hb dX5_stand_16 rfl (fun cq16 => ?_) (fun cq16 => ?_)
    · skip
      have cq16 := bI_n0.mp cq16
      refine lv_iconst (v := -1) hx hb dX5_stand_26 rfl ?_
      refine lv_istore_n (lv' := [(3, .int (-1)), (0, .ref x0), (1, .int x), (2, .int y)]) hx hb dX5_stand_27 rfl hl (by decide) rfl (fun ls hl => ?_)
      refine lv_bipush (v := 6) hx hb dX5_stand_28 rfl ?_
      refine lv_iload_n hx hb dX5_stand_30 rfl (lv_at hl 2 rfl) ?_
      refine lv_imul hx hb dX5_stand_31 ?_
      refine lv_iconst (v := 1) hx hb dX5_stand_32 rfl ?_
      refine lv_iadd hx hb dX5_stand_33 ?_
      refine x_topi (y := 6 * nI xx + 1) (by rw [hv_x]) ?_
      refine lv_istore (lv' := [(4, .int (6 * nI xx + 1)), (3, .int (-1)), (0, .ref x0), (1, .int x), (2, .int y)]) hx hb dX5_stand_34 hl (by decide) rfl (fun ls hl => ?_)
      refine lv_iconst (v := 0) hx hb dX5_stand_36 rfl ?_
      refine lv_istore (lv' := [(5, .int 0), (4, .int (6 * nI xx + 1)), (3, .int (-1)), (0, .ref x0), (1, .int x), (2, .int y)]) hx hb dX5_stand_37 hl (by decide) rfl (fun ls hl => ?_)
      have lp39 : ∀ (fuel : Nat), ∀ (q : Nat) (best : Int32) (few : Int32) (wov : Int32) (miv : Int32) (biv : Int32) (lav : Int32) (chv : Int32) (kiv : Nat → Int32) (sev : Nat → Int32) (wdv : Nat → Int32) (huv : Nat → Int32) (btv : Nat → Int32) (hq : q ≤ 8) (hiv : (few, best) = stC n ki se wd xx (mi, bi, la, hu, bt) q), (8 - q) < fuel → ∀ (H : Heap) (locs : List Loc) (ls : Array Slot), Bd G A s H locs ([xO G x0 s0 g0 k0 xt tr sg rf ab bl, oS G s0 t0 p0 n0, tW G t0 wo mi bi la (nI n) ki se wd hu bt, tW G tr wov miv biv lav chv kiv sev wdv huv btv]) → lv_has ls 7 [(0, .ref x0), (1, .int x), (2, .int y), (3, .int best), (4, .int few), (5, .int (nI q))] → W p l e (rmx 6 132) s m args below meth c H locs 0 0 Q (F0 m 39 ls []) := by
        intro fuel
        induction fuel with
        | zero => intro q best few wov miv biv lav chv kiv sev wdv huv btv hq hiv hfu; exact absurd hfu (Nat.not_lt_zero _)
        | succ fuel ih39 =>
          intro q best few wov miv biv lav chv kiv sev wdv huv btv hq hiv hfu H locs ls hw hl
          refine lv_iload hx hb dX5_stand_39 (lv_at hl 5 rfl) ?_
          refine lv_bipush (v := 8) hx hb dX5_stand_41 rfl ?_
          refine lv_icmp_ge (tgt := 99) hx hb dX5_stand_43 rfl (fun cq43 => ?_) (fun cq43 => ?_)
          · skip
            have cq43 : 8 ≤ q := (cv_le (a := 8) (b := q) rfl rfl (by omega) (by omega)).mp cq43
            refine lv_iload_n hx hb dX5_stand_99 rfl (lv_at hl 2 rfl) ?_
            refine lv_if_ne (tgt := 107) hx hb dX5_stand_100 rfl (fun cq100 => ?_) (fun cq100 => ?_)
            · skip
              refine lv_iload hx hb dX5_stand_107 (lv_at hl 4 rfl) ?_
              exact x_iretE (wov, miv, biv, lav, chv, kiv, sev, wdv, huv, btv) E hA rt hw dX5_stand_109 (by have e9 : q = 8 := (by omega); rw [e9] at hiv; rw [← hiv, if_neg cq100]) rfl
            · skip
              refine lv_iload_n hx hb dX5_stand_103 rfl (lv_at hl 3 rfl) ?_
              refine lv_goto (tgt := 109) hx hb dX5_stand_104 rfl ?_
              exact x_iretE (wov, miv, biv, lav, chv, kiv, sev, wdv, huv, btv) E hA rt hw dX5_stand_109 (by have e9 : q = 8 := (by omega); rw [e9] at hiv; rw [← hiv, if_pos cq100]) rfl
          · skip
            have cq43 : ¬ 8 ≤ q := fun h => cq43 ((cv_le (a := 8) (b := q) rfl rfl (by omega) (by omega)).mpr h)
            refine lv_aload_n hx hb dX5_stand_46 rfl (lv_at hl 0 rfl) ?_
            refine b_get E hw fw_X5_34 0 0 rfl rfl rfl dX5_stand_47 ?_
            refine lv_aload_n hx hb dX5_stand_50 rfl (lv_at hl 0 rfl) ?_
            refine b_get E hw fw_X5_10 0 0 rfl rfl rfl dX5_stand_51 ?_
            refine b_get E hw fw_X5_60 1 0 rfl rfl rfl dX5_stand_54 ?_
            refine b_callV (is := [3, 2]) (wb := [tW G tr wov miv biv lav chv kiv sev wdv huv btv, tW G t0 wo mi bi la (nI n) ki se wd hu bt]) (wb' := [tW G tr wo mi bi la (nI n) ki se wd hu bt, tW G t0 wo mi bi la (nI n) ki se wd hu bt]) (As := [.ref (t0 0)]) (rest := []) (st1 := []) (bs' := [xO G x0 s0 g0 k0 xt tr sg rf ab bl, oS G s0 t0 p0 n0, tW G t0 wo mi bi la (nI n) ki se wd hu bt, tW G tr wo mi bi la (nI n) ki se wd hu bt]) E (c_X3_copyFrom l G tr t0 wov miv biv lav chv kiv sev wdv huv btv wo mi bi la (nI n) ki se wd hu bt) vw_X5_154 hw [3, 2] rfl 3 0 rfl rfl rfl rfl rfl rfl (flat2 _ _) (flat2 _ _) rfl hl.1 rfl rfl (Nat.le_of_ble_eq_true rfl) ⟨Nat.le_of_ble_eq_true rfl, Nat.le_of_ble_eq_true rfl⟩ (Nat.zero_le _) (Nat.zero_le _) dX5_stand_57 rfl rfl (fun H locs hw => ?_)
            refine lv_aload_n hx hb dX5_stand_60 rfl (lv_at hl 0 rfl) ?_
            refine b_get E hw fw_X5_34 0 0 rfl rfl rfl dX5_stand_61 ?_
            refine lv_iload hx hb dX5_stand_64 (lv_at hl 5 rfl) ?_
            refine b_put (bs' := [xO G x0 s0 g0 k0 xt tr sg rf ab bl, oS G s0 t0 p0 n0, tW G t0 wo mi bi la (nI n) ki se wd hu bt, tW G tr (nI q) mi bi la (nI n) ki se wd hu bt]) (ty := .int) E hw fw_X5_129 3 0 rfl rfl rfl rfl (by decide +kernel) rfl rfl (Nat.le_of_ble_eq_true rfl) dX5_stand_66 rfl (fun H locs hw => ?_)
            obtain ⟨D1, hD1⟩ : ∃ D, pmN (nI q) n ki se wd xx (mi, bi, la, hu, bt) = D := ⟨_, rfl⟩
            refine lv_aload_n hx hb dX5_stand_69 rfl (lv_at hl 0 rfl) ?_
            refine b_get E hw fw_X5_34 0 0 rfl rfl rfl dX5_stand_70 ?_
            refine lv_iload_n hx hb dX5_stand_73 rfl (lv_at hl 1 rfl) ?_
            refine b_callV (is := [3]) (wb := [tW G tr (nI q) mi bi la (nI n) ki se wd hu bt]) (wb' := [tW G tr (nI q) D1.1 D1.2.1 D1.2.2.1 (nI n) ki se wd D1.2.2.2.1 D1.2.2.2.2]) (As := [.int x]) (rest := []) (st1 := [.int (D1.2.1 - bi)]) (bs' := [xO G x0 s0 g0 k0 xt tr sg rf ab bl, oS G s0 t0 p0 n0, tW G t0 wo mi bi la (nI n) ki se wd hu bt, tW G tr (nI q) D1.1 D1.2.1 D1.2.2.1 (nI n) ki se wd D1.2.2.2.1 D1.2.2.2.2]) E (c_X3_passM l G tr x xx (hv_x) (nI q) mi bi la n ki se wd hu bt D1 (by omega) (by omega) (hD1)) vw_X5_117 hw [3] rfl 3 0 rfl rfl rfl rfl rfl rfl (flat1 _) (flat1 _) rfl hl.1 rfl rfl (Nat.le_of_ble_eq_true rfl) ⟨Nat.le_of_ble_eq_true rfl, Nat.le_of_ble_eq_true rfl⟩ (Nat.zero_le _) (Nat.zero_le _) dX5_stand_74 rfl rfl (fun H locs hw => ?_)
            refine lv_istore (lv' := [(6, .int (D1.2.1 - bi)), (0, .ref x0), (1, .int x), (2, .int y), (3, .int best), (4, .int few), (5, .int (nI q))]) hx hb dX5_stand_77 hl (by decide) rfl (fun ls hl => ?_)
            refine lv_iload hx hb dX5_stand_79 (lv_at hl 0 rfl) ?_
            refine lv_iload hx hb dX5_stand_81 (lv_at hl 5 rfl) ?_
            refine lv_icmp_ge (tgt := 93) hx hb dX5_stand_83 rfl (fun cq83 => ?_) (fun cq83 => ?_)
            · skip
              refine lv_iinc (v := nI (q + 1)) (lv' := [(5, .int (nI (q + 1))), (6, .int (D1.2.1 - bi)), (0, .ref x0), (1, .int x), (2, .int y), (3, .int best), (4, .int few)]) hx hb dX5_stand_93 hl (k := 6) rfl (nI_add _ 1) (by decide) rfl (fun ls hl => ?_)
              refine lv_goto (tgt := 39) hx hb dX5_stand_96 rfl ?_
              exact ih39 (q + 1) best few (nI q) D1.1 D1.2.1 D1.2.2.1 (nI n) ki se wd D1.2.2.2.1 D1.2.2.2.2 (by omega) (by rw [stC, ← hiv, hD1]; exact (if_neg (Int32.not_lt.mpr cq83)).symm) (by omega) _ _ _ hw (lv_sub hl [2, 3, 4, 5, 6, 0] rfl)
            · skip
              refine lv_iload hx hb dX5_stand_86 (lv_at hl 0 rfl) ?_
              refine lv_istore (lv' := [(4, .int (D1.2.1 - bi)), (6, .int (D1.2.1 - bi)), (0, .ref x0), (1, .int x), (2, .int y), (3, .int best), (5, .int (nI q))]) hx hb dX5_stand_88 hl (by decide) rfl (fun ls hl => ?_)
              refine lv_iload hx hb dX5_stand_90 (lv_at hl 6 rfl) ?_
              refine lv_istore_n (lv' := [(3, .int (nI q)), (4, .int (D1.2.1 - bi)), (6, .int (D1.2.1 - bi)), (0, .ref x0), (1, .int x), (2, .int y), (5, .int (nI q))]) hx hb dX5_stand_92 rfl hl (by decide) rfl (fun ls hl => ?_)
              refine lv_iinc (v := nI (q + 1)) (lv' := [(5, .int (nI (q + 1))), (3, .int (nI q)), (4, .int (D1.2.1 - bi)), (6, .int (D1.2.1 - bi)), (0, .ref x0), (1, .int x), (2, .int y)]) hx hb dX5_stand_93 hl (k := 6) rfl (nI_add _ 1) (by decide) rfl (fun ls hl => ?_)
              refine lv_goto (tgt := 39) hx hb dX5_stand_96 rfl ?_
              exact ih39 (q + 1) (nI q) (D1.2.1 - bi) (nI q) D1.1 D1.2.1 D1.2.2.1 (nI n) ki se wd D1.2.2.2.1 D1.2.2.2.2 (by omega) (by rw [stC, ← hiv, hD1]; exact (if_pos (Int32.not_le.mp cq83)).symm) (by omega) _ _ _ hw (lv_sub hl [4, 5, 6, 1, 2, 0] rfl)
      exact lp39 (8 - 0 + 1) 0 (-1) (6 * nI xx + 1) wo1 mi1 bi1 la1 ch1 ki1 se1 wd1 hu1 bt1 (by omega) (rfl) (by omega) _ _ _ hw (lv_sub hl [3, 4, 5, 2, 1, 0] rfl)
    · skip
      have cq16 := bI_0.mp cq16
      exact absurd cq16 (by rw [h2]; decide)

set_option maxHeartbeats 1000000 in
set_option maxRecDepth 100000 in
theorem c_X5_bitesWithCarrot (l : Launch) (G : GG) (x0 : Nat) (s0 : Nat) (t0 : Nat → Nat) (p0 : Nat → Nat) (n0 : Nat → Nat) (g0 : Nat) (k0 : Nat) (xt : Nat → Nat) (tr : Nat → Nat) (sg : Nat) (rf : Nat) (x : Int32) (k : Nat) (hv_x : x = nI k) (y : Int32) (w : Nat) (hv_y : y = nI w) (ab : Int64) (bl : Int64) (wo : Int32) (mi : Int32) (bi : Int32) (la : Int32) (n : Nat) (ki : Nat → Int32) (se : Nat → Int32) (wd : Nat → Int32) (hu : Nat → Int32) (bt : Nat → Int32) (wo1 : Int32) (mi1 : Int32) (bi1 : Int32) (la1 : Int32) (ch1 : Int32) (ki1 : Nat → Int32) (se1 : Nat → Int32) (wd1 : Nat → Int32) (hu1 : Nat → Int32) (bt1 : Nat → Int32) (hn : n ≤ 6) (hk : k < 6) (hw10 : w ≤ 10) : CE l G yX5_bitesWithCarrot cX5_bitesWithCarrot 4 (some .int) 6 132 [.ref x0, .int x, .int y] ([xO G x0 s0 g0 k0 xt tr sg rf ab bl, oS G s0 t0 p0 n0, tW G t0 wo mi bi la (nI n) ki se wd hu bt, tW G tr wo1 mi1 bi1 la1 ch1 ki1 se1 wd1 hu1 bt1].flatten) (some (.int (bwC wo n ki se wd (mi, bi, la, hu, bt) k w))) (fun uu : Int32 × Int32 × Int32 × Int32 × Int32 × (Nat → Int32) × (Nat → Int32) × (Nat → Int32) × (Nat → Int32) × (Nat → Int32) => [xO G x0 s0 g0 k0 xt tr sg rf ab bl, oS G s0 t0 p0 n0, tW G t0 wo mi bi la (nI n) ki se wd hu bt, tW G tr uu.1 uu.2.1 uu.2.2.1 uu.2.2.2.1 uu.2.2.2.2.1 uu.2.2.2.2.2.1 uu.2.2.2.2.2.2.1 uu.2.2.2.2.2.2.2.1 uu.2.2.2.2.2.2.2.2.1 uu.2.2.2.2.2.2.2.2.2].flatten) := by
  refine CE.mk (own := RX5) (la := [(0, .ref x0), (1, .int x), (2, .int y)]) (by decide) rfl (Nat.le_of_ble_eq_true rfl) rfl ?_
  intro p e s m args below meth c A Q E hA hw rt ls hl
  have hx := E.1
  have hb := E.2.1
  obtain ⟨D1, hD1⟩ : ∃ D, pmN wo n ki se wd w (mi, bi, la, hu, bt) = D := ⟨_, rfl⟩
  obtain ⟨D2, hD2⟩ : ∃ D, pmN wo n ki se wd (20 - w) (D1.1, D1.2.1, D1.2.2.1, upd D1.2.2.2.1 k (mx0 (D1.2.2.2.1 k - 10)), D1.2.2.2.2) = D := ⟨_, rfl⟩
  refine lv_aload_n hx hb dX5_bitesWithCarrot_0 rfl (lv_at hl 0 rfl) ?_
  refine b_get E hw fw_X5_34 0 0 rfl rfl rfl dX5_bitesWithCarrot_1 ?_
  refine lv_aload_n hx hb dX5_bitesWithCarrot_4 rfl (lv_at hl 0 rfl) ?_
  refine b_get E hw fw_X5_10 0 0 rfl rfl rfl dX5_bitesWithCarrot_5 ?_
  refine b_get E hw fw_X5_60 1 0 rfl rfl rfl dX5_bitesWithCarrot_8 ?_
  refine b_callV (is := [3, 2]) (wb := [tW G tr wo1 mi1 bi1 la1 ch1 ki1 se1 wd1 hu1 bt1, tW G t0 wo mi bi la (nI n) ki se wd hu bt]) (wb' := [tW G tr wo mi bi la (nI n) ki se wd hu bt, tW G t0 wo mi bi la (nI n) ki se wd hu bt]) (As := [.ref (t0 0)]) (rest := []) (st1 := []) (bs' := [xO G x0 s0 g0 k0 xt tr sg rf ab bl, oS G s0 t0 p0 n0, tW G t0 wo mi bi la (nI n) ki se wd hu bt, tW G tr wo mi bi la (nI n) ki se wd hu bt]) E (c_X3_copyFrom l G tr t0 wo1 mi1 bi1 la1 ch1 ki1 se1 wd1 hu1 bt1 wo mi bi la (nI n) ki se wd hu bt) vw_X5_154 hw [3, 2] rfl 3 0 rfl rfl rfl rfl rfl rfl (flat2 _ _) (flat2 _ _) rfl hl.1 rfl rfl (Nat.le_of_ble_eq_true rfl) ⟨Nat.le_of_ble_eq_true rfl, Nat.le_of_ble_eq_true rfl⟩ (Nat.zero_le _) (Nat.zero_le _) dX5_bitesWithCarrot_11 rfl rfl (fun H locs hw => ?_)
  refine lv_aload_n hx hb dX5_bitesWithCarrot_14 rfl (lv_at hl 0 rfl) ?_
  refine b_get E hw fw_X5_34 0 0 rfl rfl rfl dX5_bitesWithCarrot_15 ?_
  refine lv_iload_n hx hb dX5_bitesWithCarrot_18 rfl (lv_at hl 2 rfl) ?_
  refine b_callV (is := [3]) (wb := [tW G tr wo mi bi la (nI n) ki se wd hu bt]) (wb' := [tW G tr wo D1.1 D1.2.1 D1.2.2.1 (nI n) ki se wd D1.2.2.2.1 D1.2.2.2.2]) (As := [.int y]) (rest := []) (st1 := [.int (D1.2.1 - bi)]) (bs' := [xO G x0 s0 g0 k0 xt tr sg rf ab bl, oS G s0 t0 p0 n0, tW G t0 wo mi bi la (nI n) ki se wd hu bt, tW G tr wo D1.1 D1.2.1 D1.2.2.1 (nI n) ki se wd D1.2.2.2.1 D1.2.2.2.2]) E (c_X3_passM l G tr y w (hv_y) wo mi bi la n ki se wd hu bt D1 (by omega) (by omega) (hD1)) vw_X5_117 hw [3] rfl 3 0 rfl rfl rfl rfl rfl rfl (flat1 _) (flat1 _) rfl hl.1 rfl rfl (Nat.le_of_ble_eq_true rfl) ⟨Nat.le_of_ble_eq_true rfl, Nat.le_of_ble_eq_true rfl⟩ (Nat.zero_le _) (Nat.zero_le _) dX5_bitesWithCarrot_19 rfl rfl (fun H locs hw => ?_)
  refine lv_istore_n (lv' := [(3, .int (D1.2.1 - bi)), (0, .ref x0), (1, .int x), (2, .int y)]) hx hb dX5_bitesWithCarrot_22 rfl hl (by decide) rfl (fun ls hl => ?_)
  refine lv_aload_n hx hb dX5_bitesWithCarrot_23 rfl (lv_at hl 1 rfl) ?_
  refine b_get E hw fw_X5_34 0 0 rfl rfl rfl dX5_bitesWithCarrot_24 ?_
  refine lv_iload_n hx hb dX5_bitesWithCarrot_27 rfl (lv_at hl 2 rfl) ?_
  refine b_callV (is := [3]) (wb := [tW G tr wo D1.1 D1.2.1 D1.2.2.1 (nI n) ki se wd D1.2.2.2.1 D1.2.2.2.2]) (wb' := [tW G tr wo D1.1 D1.2.1 D1.2.2.1 (nI n) ki se wd (upd D1.2.2.2.1 k (mx0 (D1.2.2.2.1 k - 10))) D1.2.2.2.2]) (As := [.int x]) (rest := []) (st1 := [.int (mx0 (D1.2.2.2.1 k - 10))]) (bs' := [xO G x0 s0 g0 k0 xt tr sg rf ab bl, oS G s0 t0 p0 n0, tW G t0 wo mi bi la (nI n) ki se wd hu bt, tW G tr wo D1.1 D1.2.1 D1.2.2.1 (nI n) ki se wd (upd D1.2.2.2.1 k (mx0 (D1.2.2.2.1 k - 10))) D1.2.2.2.2]) E (c_X3_giveCarrot l G tr x k (hv_x) wo D1.1 D1.2.1 D1.2.2.1 n ki se wd D1.2.2.2.1 D1.2.2.2.2 (by omega)) vw_X5_123 hw [3] rfl 3 0 rfl rfl rfl rfl rfl rfl (flat1 _) (flat1 _) rfl hl.1 rfl rfl (Nat.le_of_ble_eq_true rfl) ⟨Nat.le_of_ble_eq_true rfl, Nat.le_of_ble_eq_true rfl⟩ (Nat.zero_le _) (Nat.zero_le _) dX5_bitesWithCarrot_28 rfl rfl (fun H locs hw => ?_)
  refine lv_pop hx hb dX5_bitesWithCarrot_31 rfl ?_
  refine lv_iload_n hx hb dX5_bitesWithCarrot_32 rfl (lv_at hl 0 rfl) ?_
  refine lv_aload_n hx hb dX5_bitesWithCarrot_33 rfl (lv_at hl 1 rfl) ?_
  refine b_get E hw fw_X5_34 0 0 rfl rfl rfl dX5_bitesWithCarrot_34 ?_
  refine lv_bipush (v := 20) hx hb dX5_bitesWithCarrot_37 rfl ?_
  refine lv_iload_n hx hb dX5_bitesWithCarrot_39 rfl (lv_at hl 3 rfl) ?_
  refine lv_isub hx hb dX5_bitesWithCarrot_40 ?_
  refine x_topi (y := nI (20 - w)) (by rw [hv_y]; exact pk_sub (a := 20) (b := w) (by omega)) ?_
  refine b_callV (is := [3]) (wb := [tW G tr wo D1.1 D1.2.1 D1.2.2.1 (nI n) ki se wd (upd D1.2.2.2.1 k (mx0 (D1.2.2.2.1 k - 10))) D1.2.2.2.2]) (wb' := [tW G tr wo D2.1 D2.2.1 D2.2.2.1 (nI n) ki se wd D2.2.2.2.1 D2.2.2.2.2]) (As := [.int (nI (20 - w))]) (rest := [.int (D1.2.1 - bi)]) (st1 := [.int (D2.2.1 - D1.2.1), .int (D1.2.1 - bi)]) (bs' := [xO G x0 s0 g0 k0 xt tr sg rf ab bl, oS G s0 t0 p0 n0, tW G t0 wo mi bi la (nI n) ki se wd hu bt, tW G tr wo D2.1 D2.2.1 D2.2.2.1 (nI n) ki se wd D2.2.2.2.1 D2.2.2.2.2]) E (c_X3_passM l G tr (nI (20 - w)) (20 - w) (rfl) wo D1.1 D1.2.1 D1.2.2.1 n ki se wd (upd D1.2.2.2.1 k (mx0 (D1.2.2.2.1 k - 10))) D1.2.2.2.2 D2 (by omega) (by omega) (hD2)) vw_X5_117 hw [3] rfl 3 0 rfl rfl rfl rfl rfl rfl (flat1 _) (flat1 _) rfl hl.1 rfl rfl (Nat.le_of_ble_eq_true rfl) ⟨Nat.le_of_ble_eq_true rfl, Nat.le_of_ble_eq_true rfl⟩ (Nat.zero_le _) (Nat.zero_le _) dX5_bitesWithCarrot_41 rfl rfl (fun H locs hw => ?_)
  refine lv_iadd hx hb dX5_bitesWithCarrot_44 ?_
  exact x_iretE (wo, D2.1, D2.2.1, D2.2.2.1, (nI n), ki, se, wd, D2.2.2.2.1, D2.2.2.2.2) E hA rt hw dX5_bitesWithCarrot_45 (by rw [bwC, hD1, hD2]) rfl
set_option maxHeartbeats 1000000 in
set_option maxRecDepth 100000 in
theorem c_X5_helps (l : Launch) (G : GG) (x0 : Nat) (s0 : Nat) (t0 : Nat → Nat) (p0 : Nat → Nat) (n0 : Nat → Nat) (g0 : Nat) (k0 : Nat) (xt : Nat → Nat) (tr : Nat → Nat) (sg : Nat) (rf : Nat) (ab : Int64) (bl : Int64) (wo : Int32) (mi : Int32) (bi : Int32) (la : Int32) (n : Nat) (ki : Nat → Int32) (se : Nat → Int32) (wd : Nat → Int32) (hu : Nat → Int32) (bt : Nat → Int32) (wo1 : Int32) (mi1 : Int32) (bi1 : Int32) (la1 : Int32) (ch1 : Int32) (ki1 : Nat → Int32) (se1 : Nat → Int32) (wd1 : Nat → Int32) (hu1 : Nat → Int32) (bt1 : Nat → Int32) (hn : n ≤ 6) : CE l G yX5_helps cX5_helps 6 (some .int) 7 155 [.ref x0] ([xO G x0 s0 g0 k0 xt tr sg rf ab bl, oS G s0 t0 p0 n0, tW G t0 wo mi bi la (nI n) ki se wd hu bt, tW G tr wo1 mi1 bi1 la1 ch1 ki1 se1 wd1 hu1 bt1].flatten) (some (.int ((hpO wo n ki se wd (mi, bi, la, hu, bt) n).2))) (fun uu : Int32 × Int32 × Int32 × Int32 × Int32 × (Nat → Int32) × (Nat → Int32) × (Nat → Int32) × (Nat → Int32) × (Nat → Int32) => [xO G x0 s0 g0 k0 xt tr sg rf ab bl, oS G s0 t0 p0 n0, tW G t0 wo mi bi la (nI n) ki se wd hu bt, tW G tr uu.1 uu.2.1 uu.2.2.1 uu.2.2.2.1 uu.2.2.2.2.1 uu.2.2.2.2.2.1 uu.2.2.2.2.2.2.1 uu.2.2.2.2.2.2.2.1 uu.2.2.2.2.2.2.2.2.1 uu.2.2.2.2.2.2.2.2.2].flatten) := by
  refine CE.mk (own := RX5) (la := [(0, .ref x0)]) (by decide) rfl (Nat.le_of_ble_eq_true rfl) rfl ?_
  intro p e s m args below meth c A Q E hA hw rt ls hl
  have hx := E.1
  have hb := E.2.1
  obtain ⟨D1, hD1⟩ : ∃ D, pmN wo n ki se wd 20 (mi, bi, la, hu, bt) = D := ⟨_, rfl⟩
  refine lv_iconst (v := -1) hx hb dX5_helps_0 rfl ?_
  refine lv_istore_n (lv' := [(1, .int (-1)), (0, .ref x0)]) hx hb dX5_helps_1 rfl hl (by decide) rfl (fun ls hl => ?_)
  refine lv_aload_n hx hb dX5_helps_2 rfl (lv_at hl 1 rfl) ?_
  refine b_get E hw fw_X5_34 0 0 rfl rfl rfl dX5_helps_3 ?_
  refine lv_aload_n hx hb dX5_helps_6 rfl (lv_at hl 1 rfl) ?_
  refine b_get E hw fw_X5_10 0 0 rfl rfl rfl dX5_helps_7 ?_
  refine b_get E hw fw_X5_60 1 0 rfl rfl rfl dX5_helps_10 ?_
  refine b_callV (is := [3, 2]) (wb := [tW G tr wo1 mi1 bi1 la1 ch1 ki1 se1 wd1 hu1 bt1, tW G t0 wo mi bi la (nI n) ki se wd hu bt]) (wb' := [tW G tr wo mi bi la (nI n) ki se wd hu bt, tW G t0 wo mi bi la (nI n) ki se wd hu bt]) (As := [.ref (t0 0)]) (rest := []) (st1 := []) (bs' := [xO G x0 s0 g0 k0 xt tr sg rf ab bl, oS G s0 t0 p0 n0, tW G t0 wo mi bi la (nI n) ki se wd hu bt, tW G tr wo mi bi la (nI n) ki se wd hu bt]) E (c_X3_copyFrom l G tr t0 wo1 mi1 bi1 la1 ch1 ki1 se1 wd1 hu1 bt1 wo mi bi la (nI n) ki se wd hu bt) vw_X5_154 hw [3, 2] rfl 3 0 rfl rfl rfl rfl rfl rfl (flat2 _ _) (flat2 _ _) rfl hl.1 rfl rfl (Nat.le_of_ble_eq_true rfl) ⟨Nat.le_of_ble_eq_true rfl, Nat.le_of_ble_eq_true rfl⟩ (Nat.zero_le _) (Nat.zero_le _) dX5_helps_13 rfl rfl (fun H locs hw => ?_)
  refine lv_aload_n hx hb dX5_helps_16 rfl (lv_at hl 1 rfl) ?_
  refine b_get E hw fw_X5_34 0 0 rfl rfl rfl dX5_helps_17 ?_
  refine lv_bipush (v := 20) hx hb dX5_helps_20 rfl ?_
  refine b_callV (is := [3]) (wb := [tW G tr wo mi bi la (nI n) ki se wd hu bt]) (wb' := [tW G tr wo D1.1 D1.2.1 D1.2.2.1 (nI n) ki se wd D1.2.2.2.1 D1.2.2.2.2]) (As := [.int 20]) (rest := []) (st1 := [.int (D1.2.1 - bi)]) (bs' := [xO G x0 s0 g0 k0 xt tr sg rf ab bl, oS G s0 t0 p0 n0, tW G t0 wo mi bi la (nI n) ki se wd hu bt, tW G tr wo D1.1 D1.2.1 D1.2.2.1 (nI n) ki se wd D1.2.2.2.1 D1.2.2.2.2]) E (c_X3_passM l G tr 20 20 (rfl) wo mi bi la n ki se wd hu bt D1 (by omega) (by omega) (hD1)) vw_X5_117 hw [3] rfl 3 0 rfl rfl rfl rfl rfl rfl (flat1 _) (flat1 _) rfl hl.1 rfl rfl (Nat.le_of_ble_eq_true rfl) ⟨Nat.le_of_ble_eq_true rfl, Nat.le_of_ble_eq_true rfl⟩ (Nat.zero_le _) (Nat.zero_le _) dX5_helps_22 rfl rfl (fun H locs hw => ?_)
  refine lv_istore_n (lv' := [(2, .int (D1.2.1 - bi)), (1, .int (-1)), (0, .ref x0)]) hx hb dX5_helps_25 rfl hl (by decide) rfl (fun ls hl => ?_)
  refine lv_iconst (v := 0) hx hb dX5_helps_26 rfl ?_
  refine lv_istore_n (lv' := [(3, .int 0), (2, .int (D1.2.1 - bi)), (1, .int (-1)), (0, .ref x0)]) hx hb dX5_helps_27 rfl hl (by decide) rfl (fun ls hl => ?_)
  have lp28 : ∀ (fuel : Nat), ∀ (q : Nat) (best : Int32) (few : Int32) (wov : Int32) (miv : Int32) (biv : Int32) (lav : Int32) (chv : Int32) (kiv : Nat → Int32) (sev : Nat → Int32) (wdv : Nat → Int32) (huv : Nat → Int32) (btv : Nat → Int32) (hq : q ≤ n) (hiv : (few, best) = hpO wo n ki se wd (mi, bi, la, hu, bt) q), (n - q) < fuel → ∀ (H : Heap) (locs : List Loc) (ls : Array Slot), Bd G A s H locs ([xO G x0 s0 g0 k0 xt tr sg rf ab bl, oS G s0 t0 p0 n0, tW G t0 wo mi bi la (nI n) ki se wd hu bt, tW G tr wov miv biv lav chv kiv sev wdv huv btv]) → lv_has ls 6 [(0, .ref x0), (1, .int best), (2, .int few), (3, .int (nI q))] → W p l e (rmx 7 155) s m args below meth c H locs 0 0 Q (F0 m 28 ls []) := by
    intro fuel
    induction fuel with
    | zero => intro q best few wov miv biv lav chv kiv sev wdv huv btv hq hiv hfu; exact absurd hfu (Nat.not_lt_zero _)
    | succ fuel ih28 =>
      intro q best few wov miv biv lav chv kiv sev wdv huv btv hq hiv hfu H locs ls hw hl
      refine lv_iload_n hx hb dX5_helps_28 rfl (lv_at hl 3 rfl) ?_
      refine lv_aload_n hx hb dX5_helps_29 rfl (lv_at hl 0 rfl) ?_
      refine b_get E hw fw_X5_10 0 0 rfl rfl rfl dX5_helps_30 ?_
      refine b_get E hw fw_X5_60 1 0 rfl rfl rfl dX5_helps_33 ?_
      refine b_get E hw fw_X5_63 2 0 rfl rfl rfl dX5_helps_36 ?_
      refine lv_icmp_ge (tgt := 90) hx hb dX5_helps_39 rfl (fun cq39 => ?_) (fun cq39 => ?_)
      · skip
        have cq39 : n ≤ q := (cv_le (a := n) (b := q) rfl rfl (by omega) (by omega)).mp cq39
        refine lv_iload_n hx hb dX5_helps_90 rfl (lv_at hl 1 rfl) ?_
        exact x_iretE (wov, miv, biv, lav, chv, kiv, sev, wdv, huv, btv) E hA rt hw dX5_helps_91 (by have e9 : q = n := (by omega); rw [e9] at hiv; rw [← hiv]) rfl
      · skip
        have cq39 : ¬ n ≤ q := fun h => cq39 ((cv_le (a := n) (b := q) rfl rfl (by omega) (by omega)).mpr h)
        refine lv_iconst (v := 0) hx hb dX5_helps_42 rfl ?_
        refine lv_istore (lv' := [(4, .int 0), (0, .ref x0), (1, .int best), (2, .int few), (3, .int (nI q))]) hx hb dX5_helps_43 hl (by decide) rfl (fun ls hl => ?_)
        have lp45 : ∀ (fuel : Nat), ∀ (w : Nat) (be2 : Int32) (fe2 : Int32) (wovw : Int32) (mivw : Int32) (bivw : Int32) (lavw : Int32) (chvw : Int32) (kivw : Nat → Int32) (sevw : Nat → Int32) (wdvw : Nat → Int32) (huvw : Nat → Int32) (btvw : Nat → Int32) (hw9 : w ≤ 10) (hiv2 : (fe2, be2) = hpI wo n ki se wd (mi, bi, la, hu, bt) q w (few, best)), (10 - w) < fuel → ∀ (H : Heap) (locs : List Loc) (ls : Array Slot), Bd G A s H locs ([xO G x0 s0 g0 k0 xt tr sg rf ab bl, oS G s0 t0 p0 n0, tW G t0 wo mi bi la (nI n) ki se wd hu bt, tW G tr wovw mivw bivw lavw chvw kivw sevw wdvw huvw btvw]) → lv_has ls 6 [(0, .ref x0), (1, .int be2), (2, .int fe2), (3, .int (nI q)), (4, .int (nI w))] → W p l e (rmx 7 155) s m args below meth c H locs 0 0 Q (F0 m 45 ls []) := by
          intro fuel
          induction fuel with
          | zero => intro w be2 fe2 wovw mivw bivw lavw chvw kivw sevw wdvw huvw btvw hw9 hiv2 hfu; exact absurd hfu (Nat.not_lt_zero _)
          | succ fuel ih45 =>
            intro w be2 fe2 wovw mivw bivw lavw chvw kivw sevw wdvw huvw btvw hw9 hiv2 hfu H locs ls hw hl
            refine lv_iload hx hb dX5_helps_45 (lv_at hl 4 rfl) ?_
            refine lv_bipush (v := 10) hx hb dX5_helps_47 rfl ?_
            refine lv_icmp_ge (tgt := 84) hx hb dX5_helps_49 rfl (fun cq49 => ?_) (fun cq49 => ?_)
            · skip
              have cq49 : 10 ≤ w := (cv_le (a := 10) (b := w) rfl rfl (by omega) (by omega)).mp cq49
              refine lv_iinc (v := nI (q + 1)) (lv' := [(3, .int (nI (q + 1))), (0, .ref x0), (1, .int be2), (2, .int fe2), (4, .int (nI w))]) hx hb dX5_helps_84 hl (k := 3) rfl (nI_add _ 1) (by decide) rfl (fun ls hl => ?_)
              refine lv_goto (tgt := 28) hx hb dX5_helps_87 rfl ?_
              exact ih28 (q + 1) be2 fe2 wovw mivw bivw lavw chvw kivw sevw wdvw huvw btvw (by omega) (by rw [hpO, ← hiv, hiv2, show w = 10 by omega]) (by omega) _ _ _ hw (lv_sub hl [1, 2, 3, 0] rfl)
            · skip
              have cq49 : ¬ 10 ≤ w := fun h => cq49 ((cv_le (a := 10) (b := w) rfl rfl (by omega) (by omega)).mpr h)
              refine lv_aload_n hx hb dX5_helps_52 rfl (lv_at hl 0 rfl) ?_
              refine lv_iload_n hx hb dX5_helps_53 rfl (lv_at hl 3 rfl) ?_
              refine lv_iload hx hb dX5_helps_54 (lv_at hl 4 rfl) ?_
              refine b_callVE (is := [0, 1, 2, 3]) (wb := [xO G x0 s0 g0 k0 xt tr sg rf ab bl, oS G s0 t0 p0 n0, tW G t0 wo mi bi la (nI n) ki se wd hu bt, tW G tr wovw mivw bivw lavw chvw kivw sevw wdvw huvw btvw]) (Fb := fun u56 : Int32 × Int32 × Int32 × Int32 × Int32 × (Nat → Int32) × (Nat → Int32) × (Nat → Int32) × (Nat → Int32) × (Nat → Int32) => [xO G x0 s0 g0 k0 xt tr sg rf ab bl, oS G s0 t0 p0 n0, tW G t0 wo mi bi la (nI n) ki se wd hu bt, tW G tr u56.1 u56.2.1 u56.2.2.1 u56.2.2.2.1 u56.2.2.2.2.1 u56.2.2.2.2.2.1 u56.2.2.2.2.2.2.1 u56.2.2.2.2.2.2.2.1 u56.2.2.2.2.2.2.2.2.1 u56.2.2.2.2.2.2.2.2.2]) (As := [.int (nI q), .int (nI w)]) (rest := []) (st1 := [.int (bwC wo n ki se wd (mi, bi, la, hu, bt) q w)]) (bs' := fun u56 : Int32 × Int32 × Int32 × Int32 × Int32 × (Nat → Int32) × (Nat → Int32) × (Nat → Int32) × (Nat → Int32) × (Nat → Int32) => [xO G x0 s0 g0 k0 xt tr sg rf ab bl, oS G s0 t0 p0 n0, tW G t0 wo mi bi la (nI n) ki se wd hu bt, tW G tr u56.1 u56.2.1 u56.2.2.1 u56.2.2.2.1 u56.2.2.2.2.1 u56.2.2.2.2.2.1 u56.2.2.2.2.2.2.1 u56.2.2.2.2.2.2.2.1 u56.2.2.2.2.2.2.2.2.1 u56.2.2.2.2.2.2.2.2.2]) E (c_X5_bitesWithCarrot l G x0 s0 t0 p0 n0 g0 k0 xt tr sg rf (nI q) q (rfl) (nI w) w (rfl) ab bl wo mi bi la n ki se wd hu bt wovw mivw bivw lavw chvw kivw sevw wdvw huvw btvw (by omega) (by omega) (by omega)) vw_X5_166 hw [0, 1, 2, 3] rfl 0 0 rfl rfl rfl rfl rfl rfl rfl (fun _ => rfl) (fun _ => rfl) hl.1 rfl rfl (Nat.le_of_ble_eq_true rfl) ⟨Nat.le_of_ble_eq_true rfl, Nat.le_of_ble_eq_true rfl⟩ (Nat.zero_le _) (Nat.zero_le _) dX5_helps_56 (fun _ => rfl) rfl (fun u56 H locs hw => ?_)
              refine lv_istore (lv' := [(5, .int (bwC wo n ki se wd (mi, bi, la, hu, bt) q w)), (0, .ref x0), (1, .int be2), (2, .int fe2), (3, .int (nI q)), (4, .int (nI w))]) hx hb dX5_helps_59 hl (by decide) rfl (fun ls hl => ?_)
              refine lv_iload hx hb dX5_helps_61 (lv_at hl 0 rfl) ?_
              refine lv_iload_n hx hb dX5_helps_63 rfl (lv_at hl 3 rfl) ?_
              refine lv_icmp_ge (tgt := 78) hx hb dX5_helps_64 rfl (fun cq64 => ?_) (fun cq64 => ?_)
              · skip
                refine lv_iinc (v := nI (w + 1)) (lv' := [(4, .int (nI (w + 1))), (5, .int (bwC wo n ki se wd (mi, bi, la, hu, bt) q w)), (0, .ref x0), (1, .int be2), (2, .int fe2), (3, .int (nI q))]) hx hb dX5_helps_78 hl (k := 5) rfl (nI_add _ 1) (by decide) rfl (fun ls hl => ?_)
                refine lv_goto (tgt := 45) hx hb dX5_helps_81 rfl ?_
                exact ih45 (w + 1) be2 fe2 u56.1 u56.2.1 u56.2.2.1 u56.2.2.2.1 u56.2.2.2.2.1 u56.2.2.2.2.2.1 u56.2.2.2.2.2.2.1 u56.2.2.2.2.2.2.2.1 u56.2.2.2.2.2.2.2.2.1 u56.2.2.2.2.2.2.2.2.2 (by omega) (by rw [hpI, ← hiv2]; exact (if_neg (Int32.not_lt.mpr cq64)).symm) (by omega) _ _ _ hw (lv_sub hl [2, 3, 4, 5, 0] rfl)
              · skip
                refine lv_iload hx hb dX5_helps_67 (lv_at hl 0 rfl) ?_
                refine lv_istore_n (lv' := [(2, .int (bwC wo n ki se wd (mi, bi, la, hu, bt) q w)), (5, .int (bwC wo n ki se wd (mi, bi, la, hu, bt) q w)), (0, .ref x0), (1, .int be2), (3, .int (nI q)), (4, .int (nI w))]) hx hb dX5_helps_69 rfl hl (by decide) rfl (fun ls hl => ?_)
                refine lv_bipush (v := 10) hx hb dX5_helps_70 rfl ?_
                refine lv_iload_n hx hb dX5_helps_72 rfl (lv_at hl 4 rfl) ?_
                refine lv_imul hx hb dX5_helps_73 ?_
                refine lv_iload hx hb dX5_helps_74 (lv_at hl 5 rfl) ?_
                refine lv_iadd hx hb dX5_helps_76 ?_
                refine lv_istore_n (lv' := [(1, .int ((10 * (nI q)) + (nI w))), (2, .int (bwC wo n ki se wd (mi, bi, la, hu, bt) q w)), (5, .int (bwC wo n ki se wd (mi, bi, la, hu, bt) q w)), (0, .ref x0), (3, .int (nI q)), (4, .int (nI w))]) hx hb dX5_helps_77 rfl hl (by decide) rfl (fun ls hl => ?_)
                refine lv_iinc (v := nI (w + 1)) (lv' := [(4, .int (nI (w + 1))), (1, .int ((10 * (nI q)) + (nI w))), (2, .int (bwC wo n ki se wd (mi, bi, la, hu, bt) q w)), (5, .int (bwC wo n ki se wd (mi, bi, la, hu, bt) q w)), (0, .ref x0), (3, .int (nI q))]) hx hb dX5_helps_78 hl (k := 5) rfl (nI_add _ 1) (by decide) rfl (fun ls hl => ?_)
                refine lv_goto (tgt := 45) hx hb dX5_helps_81 rfl ?_
                exact ih45 (w + 1) ((10 * (nI q)) + (nI w)) (bwC wo n ki se wd (mi, bi, la, hu, bt) q w) u56.1 u56.2.1 u56.2.2.1 u56.2.2.2.1 u56.2.2.2.2.1 u56.2.2.2.2.2.1 u56.2.2.2.2.2.2.1 u56.2.2.2.2.2.2.2.1 u56.2.2.2.2.2.2.2.2.1 u56.2.2.2.2.2.2.2.2.2 (by omega) (by rw [hpI, ← hiv2]; exact (if_pos (Int32.not_le.mp cq64)).symm) (by omega) _ _ _ hw (lv_sub hl [4, 1, 2, 5, 0] rfl)
        exact lp45 (10 - 0 + 1) 0 best few wov miv biv lav chv kiv sev wdv huv btv (by omega) (rfl) (by omega) _ _ _ hw (lv_sub hl [1, 2, 3, 4, 0] rfl)
  exact lp28 (n - 0 + 1) 0 (-1) (D1.2.1 - bi) wo D1.1 D1.2.1 D1.2.2.1 (nI n) ki se wd D1.2.2.2.1 D1.2.2.2.2 (by omega) (by rw [hpO, hD1]) (by omega) _ _ _ hw (lv_sub hl [3, 2, 1, 0] rfl)
set_option maxHeartbeats 1000000 in
set_option maxRecDepth 100000 in
theorem c_X5_say (l : Launch) (G : GG) (x0 : Nat) (s0 : Nat) (t0 : Nat → Nat) (p0 : Nat → Nat) (n0 : Nat → Nat) (g0 : Nat) (k0 : Nat) (xt : Nat → Nat) (tr : Nat → Nat) (sg : Nat) (rf : Nat) (ab : Int64) (bl : Int64) (wo : Int32) (mi : Int32) (bi : Int32) (la : Int32) (n : Nat) (ki : Nat → Int32) (se : Nat → Int32) (wd : Nat → Int32) (hu : Nat → Int32) (bt : Nat → Int32) (wo1 : Int32) (mi1 : Int32) (bi1 : Int32) (la1 : Int32) (ch1 : Int32) (ki1 : Nat → Int32) (se1 : Nat → Int32) (wd1 : Nat → Int32) (hu1 : Nat → Int32) (bt1 : Nat → Int32) (hn : n ≤ 6) : CE l G yX5_say cX5_say 5 (some .int) 6 132 [.ref x0] ([xO G x0 s0 g0 k0 xt tr sg rf ab bl, oS G s0 t0 p0 n0, tW G t0 wo mi bi la (nI n) ki se wd hu bt, tW G tr wo1 mi1 bi1 la1 ch1 ki1 se1 wd1 hu1 bt1].flatten) (some (.int ((syC wo n ki se wd (mi, bi, la, hu, bt) n).2))) (fun uu : Int32 × Int32 × Int32 × Int32 × Int32 × (Nat → Int32) × (Nat → Int32) × (Nat → Int32) × (Nat → Int32) × (Nat → Int32) => [xO G x0 s0 g0 k0 xt tr sg rf ab bl, oS G s0 t0 p0 n0, tW G t0 wo mi bi la (nI n) ki se wd hu bt, tW G tr uu.1 uu.2.1 uu.2.2.1 uu.2.2.2.1 uu.2.2.2.2.1 uu.2.2.2.2.2.1 uu.2.2.2.2.2.2.1 uu.2.2.2.2.2.2.2.1 uu.2.2.2.2.2.2.2.2.1 uu.2.2.2.2.2.2.2.2.2].flatten) := by
  refine CE.mk (own := RX5) (la := [(0, .ref x0)]) (by decide) rfl (Nat.le_of_ble_eq_true rfl) rfl ?_
  intro p e s m args below meth c A Q E hA hw rt ls hl
  have hx := E.1
  have hb := E.2.1
  refine lv_iconst (v := -1) hx hb dX5_say_0 rfl ?_
  refine lv_istore_n (lv' := [(1, .int (-1)), (0, .ref x0)]) hx hb dX5_say_1 rfl hl (by decide) rfl (fun ls hl => ?_)
  refine lv_bipush (v := 121) hx hb dX5_say_2 rfl ?_
  refine lv_istore_n (lv' := [(2, .int 121), (1, .int (-1)), (0, .ref x0)]) hx hb dX5_say_4 rfl hl (by decide) rfl (fun ls hl => ?_)
  refine lv_iconst (v := 0) hx hb dX5_say_5 rfl ?_
  refine lv_istore_n (lv' := [(3, .int 0), (2, .int 121), (1, .int (-1)), (0, .ref x0)]) hx hb dX5_say_6 rfl hl (by decide) rfl (fun ls hl => ?_)
  have lp7 : ∀ (fuel : Nat), ∀ (q : Nat) (best : Int32) (few : Int32) (wov : Int32) (miv : Int32) (biv : Int32) (lav : Int32) (chv : Int32) (kiv : Nat → Int32) (sev : Nat → Int32) (wdv : Nat → Int32) (huv : Nat → Int32) (btv : Nat → Int32) (hq : q ≤ n) (hiv : (few, best) = syC wo n ki se wd (mi, bi, la, hu, bt) q), (n - q) < fuel → ∀ (H : Heap) (locs : List Loc) (ls : Array Slot), Bd G A s H locs ([xO G x0 s0 g0 k0 xt tr sg rf ab bl, oS G s0 t0 p0 n0, tW G t0 wo mi bi la (nI n) ki se wd hu bt, tW G tr wov miv biv lav chv kiv sev wdv huv btv]) → lv_has ls 5 [(0, .ref x0), (1, .int best), (2, .int few), (3, .int (nI q))] → W p l e (rmx 6 132) s m args below meth c H locs 0 0 Q (F0 m 7 ls []) := by
    intro fuel
    induction fuel with
    | zero => intro q best few wov miv biv lav chv kiv sev wdv huv btv hq hiv hfu; exact absurd hfu (Nat.not_lt_zero _)
    | succ fuel ih7 =>
      intro q best few wov miv biv lav chv kiv sev wdv huv btv hq hiv hfu H locs ls hw hl
      refine lv_iload_n hx hb dX5_say_7 rfl (lv_at hl 3 rfl) ?_
      refine lv_aload_n hx hb dX5_say_8 rfl (lv_at hl 0 rfl) ?_
      refine b_get E hw fw_X5_10 0 0 rfl rfl rfl dX5_say_9 ?_
      refine b_get E hw fw_X5_60 1 0 rfl rfl rfl dX5_say_12 ?_
      refine b_get E hw fw_X5_63 2 0 rfl rfl rfl dX5_say_15 ?_
      refine lv_icmp_ge (tgt := 77) hx hb dX5_say_18 rfl (fun cq18 => ?_) (fun cq18 => ?_)
      · skip
        have cq18 : n ≤ q := (cv_le (a := n) (b := q) rfl rfl (by omega) (by omega)).mp cq18
        refine lv_iload_n hx hb dX5_say_77 rfl (lv_at hl 1 rfl) ?_
        exact x_iretE (wov, miv, biv, lav, chv, kiv, sev, wdv, huv, btv) E hA rt hw dX5_say_78 (by have e9 : q = n := (by omega); rw [e9] at hiv; rw [← hiv]) rfl
      · skip
        have cq18 : ¬ n ≤ q := fun h => cq18 ((cv_le (a := n) (b := q) rfl rfl (by omega) (by omega)).mpr h)
        refine lv_aload_n hx hb dX5_say_21 rfl (lv_at hl 0 rfl) ?_
        refine b_get E hw fw_X5_34 0 0 rfl rfl rfl dX5_say_22 ?_
        refine lv_aload_n hx hb dX5_say_25 rfl (lv_at hl 0 rfl) ?_
        refine b_get E hw fw_X5_10 0 0 rfl rfl rfl dX5_say_26 ?_
        refine b_get E hw fw_X5_60 1 0 rfl rfl rfl dX5_say_29 ?_
        refine b_callV (is := [3, 2]) (wb := [tW G tr wov miv biv lav chv kiv sev wdv huv btv, tW G t0 wo mi bi la (nI n) ki se wd hu bt]) (wb' := [tW G tr wo mi bi la (nI n) ki se wd hu bt, tW G t0 wo mi bi la (nI n) ki se wd hu bt]) (As := [.ref (t0 0)]) (rest := []) (st1 := []) (bs' := [xO G x0 s0 g0 k0 xt tr sg rf ab bl, oS G s0 t0 p0 n0, tW G t0 wo mi bi la (nI n) ki se wd hu bt, tW G tr wo mi bi la (nI n) ki se wd hu bt]) E (c_X3_copyFrom l G tr t0 wov miv biv lav chv kiv sev wdv huv btv wo mi bi la (nI n) ki se wd hu bt) vw_X5_154 hw [3, 2] rfl 3 0 rfl rfl rfl rfl rfl rfl (flat2 _ _) (flat2 _ _) rfl hl.1 rfl rfl (Nat.le_of_ble_eq_true rfl) ⟨Nat.le_of_ble_eq_true rfl, Nat.le_of_ble_eq_true rfl⟩ (Nat.zero_le _) (Nat.zero_le _) dX5_say_32 rfl rfl (fun H locs hw => ?_)
        refine lv_aload_n hx hb dX5_say_35 rfl (lv_at hl 0 rfl) ?_
        refine b_get E hw fw_X5_34 0 0 rfl rfl rfl dX5_say_36 ?_
        refine b_get E hw fw_X5_173 3 0 rfl rfl rfl dX5_say_39 ?_
        refine lv_iload_n hx hb dX5_say_42 rfl (lv_at hl 3 rfl) ?_
        refine lv_dup2_11 hx hb dX5_say_43 rfl rfl ?_
        refine b_iald E hw 3 3 rfl rfl q (rfl) (by omega) (by omega) dX5_say_44 ?_
        refine lv_bipush (v := 10) hx hb dX5_say_45 rfl ?_
        refine lv_iadd hx hb dX5_say_47 ?_
        refine b_iast (bs' := [xO G x0 s0 g0 k0 xt tr sg rf ab bl, oS G s0 t0 p0 n0, tW G t0 wo mi bi la (nI n) ki se wd hu bt, tW G tr wo mi bi la (nI n) ki se (upd wd q ((wd q) + 10)) hu bt]) E hw 3 3 rfl rfl q (rfl) (by omega) (by omega) dX5_say_48 rfl (fun H locs hw => ?_)
        obtain ⟨D1, hD1⟩ : ∃ D, pmN wo n ki se (upd wd q (wd q + 10)) 20 (mi, bi, la, hu, bt) = D := ⟨_, rfl⟩
        refine lv_aload_n hx hb dX5_say_49 rfl (lv_at hl 0 rfl) ?_
        refine b_get E hw fw_X5_34 0 0 rfl rfl rfl dX5_say_50 ?_
        refine lv_bipush (v := 20) hx hb dX5_say_53 rfl ?_
        refine b_callV (is := [3]) (wb := [tW G tr wo mi bi la (nI n) ki se (upd wd q ((wd q) + 10)) hu bt]) (wb' := [tW G tr wo D1.1 D1.2.1 D1.2.2.1 (nI n) ki se (upd wd q ((wd q) + 10)) D1.2.2.2.1 D1.2.2.2.2]) (As := [.int 20]) (rest := []) (st1 := [.int (D1.2.1 - bi)]) (bs' := [xO G x0 s0 g0 k0 xt tr sg rf ab bl, oS G s0 t0 p0 n0, tW G t0 wo mi bi la (nI n) ki se wd hu bt, tW G tr wo D1.1 D1.2.1 D1.2.2.1 (nI n) ki se (upd wd q ((wd q) + 10)) D1.2.2.2.1 D1.2.2.2.2]) E (c_X3_passM l G tr 20 20 (rfl) wo mi bi la n ki se (upd wd q ((wd q) + 10)) hu bt D1 (by omega) (by omega) (hD1)) vw_X5_117 hw [3] rfl 3 0 rfl rfl rfl rfl rfl rfl (flat1 _) (flat1 _) rfl hl.1 rfl rfl (Nat.le_of_ble_eq_true rfl) ⟨Nat.le_of_ble_eq_true rfl, Nat.le_of_ble_eq_true rfl⟩ (Nat.zero_le _) (Nat.zero_le _) dX5_say_55 rfl rfl (fun H locs hw => ?_)
        refine lv_istore (lv' := [(4, .int (D1.2.1 - bi)), (0, .ref x0), (1, .int best), (2, .int few), (3, .int (nI q))]) hx hb dX5_say_58 hl (by decide) rfl (fun ls hl => ?_)
        refine lv_iload hx hb dX5_say_60 (lv_at hl 0 rfl) ?_
        refine lv_iload_n hx hb dX5_say_62 rfl (lv_at hl 3 rfl) ?_
        refine lv_icmp_ge (tgt := 71) hx hb dX5_say_63 rfl (fun cq63 => ?_) (fun cq63 => ?_)
        · skip
          refine lv_iinc (v := nI (q + 1)) (lv' := [(3, .int (nI (q + 1))), (4, .int (D1.2.1 - bi)), (0, .ref x0), (1, .int best), (2, .int few)]) hx hb dX5_say_71 hl (k := 4) rfl (nI_add _ 1) (by decide) rfl (fun ls hl => ?_)
          refine lv_goto (tgt := 7) hx hb dX5_say_74 rfl ?_
          exact ih7 (q + 1) best few wo D1.1 D1.2.1 D1.2.2.1 (nI n) ki se (upd wd q ((wd q) + 10)) D1.2.2.2.1 D1.2.2.2.2 (by omega) (by rw [syC, ← hiv, hD1]; exact (if_neg (Int32.not_lt.mpr cq63)).symm) (by omega) _ _ _ hw (lv_sub hl [2, 3, 4, 0] rfl)
        · skip
          refine lv_iload hx hb dX5_say_66 (lv_at hl 0 rfl) ?_
          refine lv_istore_n (lv' := [(2, .int (D1.2.1 - bi)), (4, .int (D1.2.1 - bi)), (0, .ref x0), (1, .int best), (3, .int (nI q))]) hx hb dX5_say_68 rfl hl (by decide) rfl (fun ls hl => ?_)
          refine lv_iload_n hx hb dX5_say_69 rfl (lv_at hl 4 rfl) ?_
          refine lv_istore_n (lv' := [(1, .int (nI q)), (2, .int (D1.2.1 - bi)), (4, .int (D1.2.1 - bi)), (0, .ref x0), (3, .int (nI q))]) hx hb dX5_say_70 rfl hl (by decide) rfl (fun ls hl => ?_)
          refine lv_iinc (v := nI (q + 1)) (lv' := [(3, .int (nI (q + 1))), (1, .int (nI q)), (2, .int (D1.2.1 - bi)), (4, .int (D1.2.1 - bi)), (0, .ref x0)]) hx hb dX5_say_71 hl (k := 4) rfl (nI_add _ 1) (by decide) rfl (fun ls hl => ?_)
          refine lv_goto (tgt := 7) hx hb dX5_say_74 rfl ?_
          exact ih7 (q + 1) (nI q) (D1.2.1 - bi) wo D1.1 D1.2.1 D1.2.2.1 (nI n) ki se (upd wd q ((wd q) + 10)) D1.2.2.2.1 D1.2.2.2.2 (by omega) (by rw [syC, ← hiv, hD1]; exact (if_pos (Int32.not_le.mp cq63)).symm) (by omega) _ _ _ hw (lv_sub hl [4, 1, 2, 0] rfl)
  exact lp7 (n - 0 + 1) 0 (-1) 121 wo1 mi1 bi1 la1 ch1 ki1 se1 wd1 hu1 bt1 (by omega) (rfl) (by omega) _ _ _ hw (lv_sub hl [3, 2, 1, 0] rfl)
set_option maxHeartbeats 1000000 in
set_option maxRecDepth 100000 in
theorem c_X5_words_bad (l : Launch) (G : GG) (x0 : Nat) (s0 : Nat) (t0 : Nat → Nat) (p0 : Nat → Nat) (n0 : Nat → Nat) (g0 : Nat) (k0 : Nat) (xt : Nat → Nat) (tr : Nat → Nat) (sg : Nat) (rf : Nat) (x : Int32) (ab : Int64) (bl : Int64) (wo : Int32) (mi : Int32) (bi : Int32) (la : Int32) (n : Nat) (ki : Nat → Int32) (se : Nat → Int32) (wd : Nat → Int32) (hu : Nat → Int32) (bt : Nat → Int32) (rfd : Nat → Int32) (h1 : inI x 0 (nI n - 1) = false) : CT l G yX5_words cX5_words 3 (some .int) 2 44 [.ref x0, .int x] ([xO G x0 s0 g0 k0 xt tr sg rf ab bl, oS G s0 t0 p0 n0, tW G t0 wo mi bi la (nI n) ki se wd hu bt, aW G rf 3 rfd].flatten) (some (.int (-2))) ([xO G x0 s0 g0 k0 xt tr sg rf ab bl, oS G s0 t0 p0 n0, tW G t0 wo mi bi la (nI n) ki se wd hu bt, aW G rf 3 (upd rfd 0 (rfd 0 + 1))].flatten) := by
  refine CT.mk (own := RX5) (la := [(0, .ref x0), (1, .int x)]) (by decide) rfl (Nat.le_of_ble_eq_true rfl) rfl ?_
  intro p e s m args below meth c A Q E hA hw rt ls hl
  have hx := E.1
  have hb := E.2.1
  refine lv_aload_n hx hb dX5_words_0 rfl (lv_at hl 0 rfl) ?_
  refine lv_iload_n hx hb dX5_words_1 rfl (lv_at hl 1 rfl) ?_
  refine b_callV (is := [0, 1, 2]) (wb := [xO G x0 s0 g0 k0 xt tr sg rf ab bl, oS G s0 t0 p0 n0, tW G t0 wo mi bi la (nI n) ki se wd hu bt]) (wb' := [xO G x0 s0 g0 k0 xt tr sg rf ab bl, oS G s0 t0 p0 n0, tW G t0 wo mi bi la (nI n) ki se wd hu bt]) (As := [.int x]) (rest := []) (st1 := [.int (bI (inI x 0 (nI n - 1)))]) (bs' := [xO G x0 s0 g0 k0 xt tr sg rf ab bl, oS G s0 t0 p0 n0, tW G t0 wo mi bi la (nI n) ki se wd hu bt, aW G rf 3 rfd]) E (c_X5_isChild l G x0 s0 t0 p0 n0 g0 k0 xt tr sg rf x ab bl wo mi bi la n ki se wd hu bt) vw_X5_120 hw [0, 1, 2] rfl 0 0 rfl rfl rfl rfl rfl rfl rfl rfl rfl hl.1 rfl rfl (Nat.le_of_ble_eq_true rfl) ⟨Nat.le_of_ble_eq_true rfl, Nat.le_of_ble_eq_true rfl⟩ (Nat.zero_le _) (Nat.zero_le _) dX5_words_2 rfl rfl (fun H locs hw => ?_)
  refine lv_if_ne (tgt := 15) hx hb dX5_words_5 rfl (fun cq5 => ?_) (fun cq5 => ?_)
  · skip
    have cq5 := bI_n0.mp cq5
    exact absurd cq5 (by rw [h1]; decide)
  · skip
    have cq5 := bI_0.mp cq5
    refine lv_aload_n hx hb dX5_words_8 rfl (lv_at hl 0 rfl) ?_
    refine lv_bipush (v := -2) hx hb dX5_words_9 rfl ?_
    refine b_callV (is := [0, 3]) (wb := [xO G x0 s0 g0 k0 xt tr sg rf ab bl, aW G rf 3 rfd]) (wb' := [xO G x0 s0 g0 k0 xt tr sg rf ab bl, aW G rf 3 (upd rfd 0 (rfd 0 + 1))]) (As := [.int (-2)]) (rest := []) (st1 := [.int (-2)]) (bs' := [xO G x0 s0 g0 k0 xt tr sg rf ab bl, oS G s0 t0 p0 n0, tW G t0 wo mi bi la (nI n) ki se wd hu bt, aW G rf 3 (upd rfd 0 (rfd 0 + 1))]) E (c_X5_refuse l G x0 s0 g0 k0 xt tr sg rf (-2) ab bl rfd 0 (by omega) (by decide)) vw_X5_56 hw [0, 3] rfl 0 0 rfl rfl rfl rfl rfl rfl rfl rfl rfl hl.1 rfl rfl (Nat.le_of_ble_eq_true rfl) ⟨Nat.le_of_ble_eq_true rfl, Nat.le_of_ble_eq_true rfl⟩ (Nat.zero_le _) (Nat.zero_le _) dX5_words_11 rfl rfl (fun H locs hw => ?_)
    exact x_iret E hA rt hw dX5_words_14 (rfl) rfl
set_option maxHeartbeats 1000000 in
set_option maxRecDepth 100000 in
theorem c_X5_words_ok (l : Launch) (G : GG) (x0 : Nat) (s0 : Nat) (t0 : Nat → Nat) (p0 : Nat → Nat) (n0 : Nat → Nat) (g0 : Nat) (k0 : Nat) (xt : Nat → Nat) (tr : Nat → Nat) (sg : Nat) (rf : Nat) (x : Int32) (k : Nat) (hv_x : x = nI k) (ab : Int64) (bl : Int64) (wo : Int32) (mi : Int32) (bi : Int32) (la : Int32) (n : Nat) (ki : Nat → Int32) (se : Nat → Int32) (wd : Nat → Int32) (hu : Nat → Int32) (bt : Nat → Int32) (wo1 : Int32) (mi1 : Int32) (bi1 : Int32) (la1 : Int32) (ch1 : Int32) (ki1 : Nat → Int32) (se1 : Nat → Int32) (wd1 : Nat → Int32) (hu1 : Nat → Int32) (bt1 : Nat → Int32) (hn : n ≤ 6) (h1 : inI x 0 (nI n - 1) = true) (hk : k < n) : CE l G yX5_words cX5_words 3 (some .int) 4 84 [.ref x0, .int x] ([xO G x0 s0 g0 k0 xt tr sg rf ab bl, oS G s0 t0 p0 n0, tW G t0 wo mi bi la (nI n) ki se wd hu bt, tW G tr wo1 mi1 bi1 la1 ch1 ki1 se1 wd1 hu1 bt1].flatten) (some (.int (wdC ki se wd hu bt la n k 41 0))) (fun uu : (Nat → Int32) => [xO G x0 s0 g0 k0 xt tr sg rf ab bl, oS G s0 t0 p0 n0, tW G t0 wo mi bi la (nI n) ki se wd hu bt, tW G tr wo mi bi la (nI n) ki se uu hu bt].flatten) := by
  refine CE.mk (own := RX5) (la := [(0, .ref x0), (1, .int x)]) (by decide) rfl (Nat.le_of_ble_eq_true rfl) rfl ?_
  intro p e s m args below meth c A Q E hA hw rt ls hl
  have hx := E.1
  have hb := E.2.1
  refine lv_aload_n hx hb dX5_words_0 rfl (lv_at hl 0 rfl) ?_
  refine lv_iload_n hx hb dX5_words_1 rfl (lv_at hl 1 rfl) ?_
  refine b_callV (is := [0, 1, 2]) (wb := [xO G x0 s0 g0 k0 xt tr sg rf ab bl, oS G s0 t0 p0 n0, tW G t0 wo mi bi la (nI n) ki se wd hu bt]) (wb' := [xO G x0 s0 g0 k0 xt tr sg rf ab bl, oS G s0 t0 p0 n0, tW G t0 wo mi bi la (nI n) ki se wd hu bt]) (As := [.int x]) (rest := []) (st1 := [.int (bI (inI x 0 (nI n - 1)))]) (bs' := [xO G x0 s0 g0 k0 xt tr sg rf ab bl, oS G s0 t0 p0 n0, tW G t0 wo mi bi la (nI n) ki se wd hu bt, tW G tr wo1 mi1 bi1 la1 ch1 ki1 se1 wd1 hu1 bt1]) E (c_X5_isChild l G x0 s0 t0 p0 n0 g0 k0 xt tr sg rf x ab bl wo mi bi la n ki se wd hu bt) vw_X5_120 hw [0, 1, 2] rfl 0 0 rfl rfl rfl rfl rfl rfl rfl rfl rfl hl.1 rfl rfl (Nat.le_of_ble_eq_true rfl) ⟨Nat.le_of_ble_eq_true rfl, Nat.le_of_ble_eq_true rfl⟩ (Nat.zero_le _) (Nat.zero_le _) dX5_words_2 rfl rfl (fun H locs hw => ?_)
  refine lv_if_ne (tgt := 15) hx hb dX5_words_5 rfl (fun cq5 => ?_) (fun cq5 => ?_)
  · skip
    have cq5 := bI_n0.mp cq5
    refine lv_aload_n hx hb dX5_words_15 rfl (lv_at hl 0 rfl) ?_
    refine b_get E hw fw_X5_34 0 0 rfl rfl rfl dX5_words_16 ?_
    refine lv_aload_n hx hb dX5_words_19 rfl (lv_at hl 0 rfl) ?_
    refine b_get E hw fw_X5_10 0 0 rfl rfl rfl dX5_words_20 ?_
    refine b_get E hw fw_X5_60 1 0 rfl rfl rfl dX5_words_23 ?_
    refine b_callV (is := [3, 2]) (wb := [tW G tr wo1 mi1 bi1 la1 ch1 ki1 se1 wd1 hu1 bt1, tW G t0 wo mi bi la (nI n) ki se wd hu bt]) (wb' := [tW G tr wo mi bi la (nI n) ki se wd hu bt, tW G t0 wo mi bi la (nI n) ki se wd hu bt]) (As := [.ref (t0 0)]) (rest := []) (st1 := []) (bs' := [xO G x0 s0 g0 k0 xt tr sg rf ab bl, oS G s0 t0 p0 n0, tW G t0 wo mi bi la (nI n) ki se wd hu bt, tW G tr wo mi bi la (nI n) ki se wd hu bt]) E (c_X3_copyFrom l G tr t0 wo1 mi1 bi1 la1 ch1 ki1 se1 wd1 hu1 bt1 wo mi bi la (nI n) ki se wd hu bt) vw_X5_154 hw [3, 2] rfl 3 0 rfl rfl rfl rfl rfl rfl (flat2 _ _) (flat2 _ _) rfl hl.1 rfl rfl (Nat.le_of_ble_eq_true rfl) ⟨Nat.le_of_ble_eq_true rfl, Nat.le_of_ble_eq_true rfl⟩ (Nat.zero_le _) (Nat.zero_le _) dX5_words_26 rfl rfl (fun H locs hw => ?_)
    refine lv_iconst (v := 0) hx hb dX5_words_29 rfl ?_
    refine lv_istore_n (lv' := [(2, .int 0), (0, .ref x0), (1, .int x)]) hx hb dX5_words_30 rfl hl (by decide) rfl (fun ls hl => ?_)
    have lp31 : ∀ (fuel : Nat), ∀ (q : Nat) (wv : Nat → Int32) (hq : q ≤ 41) (hiv : wdC ki se wd hu bt la n k 41 0 = wdC ki se wd hu bt la n k (41 - q) q), (41 - q) < fuel → ∀ (H : Heap) (locs : List Loc) (ls : Array Slot), Bd G A s H locs ([xO G x0 s0 g0 k0 xt tr sg rf ab bl, oS G s0 t0 p0 n0, tW G t0 wo mi bi la (nI n) ki se wd hu bt, tW G tr wo mi bi la (nI n) ki se wv hu bt]) → lv_has ls 3 [(0, .ref x0), (1, .int x), (2, .int (nI q))] → W p l e (rmx 4 84) s m args below meth c H locs 0 0 Q (F0 m 31 ls []) := by
      intro fuel
      induction fuel with
      | zero => intro q wv hq hiv hfu; exact absurd hfu (Nat.not_lt_zero _)
      | succ fuel ih31 =>
        intro q wv hq hiv hfu H locs ls hw hl
        refine lv_iload_n hx hb dX5_words_31 rfl (lv_at hl 2 rfl) ?_
        refine lv_bipush (v := 40) hx hb dX5_words_32 rfl ?_
        refine lv_icmp_gt (tgt := 81) hx hb dX5_words_34 rfl (fun cq34 => ?_) (fun cq34 => ?_)
        · skip
          have cq34 : 40 < q := (cv_lt (a := 40) (b := q) rfl rfl (by omega) (by omega)).mp cq34
          refine lv_iconst (v := -1) hx hb dX5_words_81 rfl ?_
          exact x_iretE (wv) E hA rt hw dX5_words_82 (by rw [hiv, show q = 41 by omega]; rfl) rfl
        · skip
          have cq34 : ¬ 40 < q := fun h => cq34 ((cv_lt (a := 40) (b := q) rfl rfl (by omega) (by omega)).mpr h)
          refine lv_aload_n hx hb dX5_words_37 rfl (lv_at hl 0 rfl) ?_
          refine b_get E hw fw_X5_34 0 0 rfl rfl rfl dX5_words_38 ?_
          refine b_get E hw fw_X5_173 3 0 rfl rfl rfl dX5_words_41 ?_
          refine lv_iload_n hx hb dX5_words_44 rfl (lv_at hl 1 rfl) ?_
          refine lv_aload_n hx hb dX5_words_45 rfl (lv_at hl 0 rfl) ?_
          refine b_get E hw fw_X5_10 0 0 rfl rfl rfl dX5_words_46 ?_
          refine b_get E hw fw_X5_60 1 0 rfl rfl rfl dX5_words_49 ?_
          refine b_get E hw fw_X5_173 2 0 rfl rfl rfl dX5_words_52 ?_
          refine lv_iload_n hx hb dX5_words_55 rfl (lv_at hl 1 rfl) ?_
          refine b_iald E hw 2 3 rfl rfl k (hv_x) (by omega) (by omega) dX5_words_56 ?_
          refine lv_iload_n hx hb dX5_words_57 rfl (lv_at hl 2 rfl) ?_
          refine lv_iadd hx hb dX5_words_58 ?_
          refine b_iast (bs' := [xO G x0 s0 g0 k0 xt tr sg rf ab bl, oS G s0 t0 p0 n0, tW G t0 wo mi bi la (nI n) ki se wd hu bt, tW G tr wo mi bi la (nI n) ki se (upd wv k ((wd k) + (nI q))) hu bt]) E hw 3 3 rfl rfl k (hv_x) (by omega) (by omega) dX5_words_59 rfl (fun H locs hw => ?_)
          refine lv_aload_n hx hb dX5_words_60 rfl (lv_at hl 0 rfl) ?_
          refine b_get E hw fw_X5_34 0 0 rfl rfl rfl dX5_words_61 ?_
          refine lv_iload_n hx hb dX5_words_64 rfl (lv_at hl 1 rfl) ?_
          refine b_callV (is := [3]) (wb := [tW G tr wo mi bi la (nI n) ki se (upd wv k ((wd k) + (nI q))) hu bt]) (wb' := [tW G tr wo mi bi la (nI n) ki se (upd wv k ((wd k) + (nI q))) hu bt]) (As := [.int x]) (rest := []) (st1 := [.int (nr (ki k) (hu k) (tgI (tk se n) (se k)) ((upd wv k ((wd k) + (nI q))) k) (bt k) la)]) (bs' := [xO G x0 s0 g0 k0 xt tr sg rf ab bl, oS G s0 t0 p0 n0, tW G t0 wo mi bi la (nI n) ki se wd hu bt, tW G tr wo mi bi la (nI n) ki se (upd wv k ((wd k) + (nI q))) hu bt]) E (c_X3_nearOf l G tr x k (hv_x) wo mi bi la n ki se (upd wv k ((wd k) + (nI q))) hu bt (by omega) (by omega)) vw_X5_144 hw [3] rfl 3 0 rfl rfl rfl rfl rfl rfl (flat1 _) (flat1 _) rfl hl.1 rfl rfl (Nat.le_of_ble_eq_true rfl) ⟨Nat.le_of_ble_eq_true rfl, Nat.le_of_ble_eq_true rfl⟩ (Nat.zero_le _) (Nat.zero_le _) dX5_words_65 rfl rfl (fun H locs hw => ?_)
          refine x_topi (y := nr (ki k) (hu k) (tgI (tk se n) (se k)) (wd k + nI q) (bt k) la) (by rw [upd_at]) ?_
          refine lv_bipush (v := 12) hx hb dX5_words_68 rfl ?_
          refine lv_icmp_ge (tgt := 75) hx hb dX5_words_70 rfl (fun cq70 => ?_) (fun cq70 => ?_)
          · skip
            refine lv_iinc (v := nI (q + 1)) (lv' := [(2, .int (nI (q + 1))), (0, .ref x0), (1, .int x)]) hx hb dX5_words_75 hl (k := 2) rfl (nI_add _ 1) (by decide) rfl (fun ls hl => ?_)
            refine lv_goto (tgt := 31) hx hb dX5_words_78 rfl ?_
            exact ih31 (q + 1) (upd wv k ((wd k) + (nI q))) (by omega) (by rw [hiv, show 41 - q = (41 - (q + 1)) + 1 by omega, wdC, if_neg (Int32.not_lt.mpr cq70)]) (by omega) _ _ _ hw (lv_sub hl [1, 2, 0] rfl)
          · skip
            refine lv_iload_n hx hb dX5_words_73 rfl (lv_at hl 2 rfl) ?_
            exact x_iretE (upd wv k ((wd k) + (nI q))) E hA rt hw dX5_words_74 (by rw [hiv, show 41 - q = (41 - (q + 1)) + 1 by omega, wdC, if_pos (Int32.not_le.mp cq70)]) rfl
    exact lp31 (41 - 0 + 1) 0 wd (by omega) (rfl) (by omega) _ _ _ hw (lv_sub hl [1, 2, 0] rfl)
  · skip
    have cq5 := bI_0.mp cq5
    exact absurd cq5 (by rw [h1]; decide)
set_option maxHeartbeats 1000000 in
set_option maxRecDepth 100000 in
theorem c_X5_note_bad (l : Launch) (G : GG) (x0 : Nat) (s0 : Nat) (t0 : Nat → Nat) (p0 : Nat → Nat) (n0 : Nat → Nat) (g0 : Nat) (k0 : Nat) (xt : Nat → Nat) (tr : Nat → Nat) (sg : Nat) (rf : Nat) (x : Int32) (y1 : Int32) (y2 : Int32) (y3 : Int32) (y4 : Int32) (y5 : Int32) (y6 : Int32) (ab : Int64) (bl : Int64) (wo : Int32) (mi : Int32) (bi : Int32) (la : Int32) (n : Nat) (ki : Nat → Int32) (se : Nat → Int32) (wd : Nat → Int32) (hu : Nat → Int32) (bt : Nat → Int32) (rfd : Nat → Int32) (h0 : (inI x 0 (nI n - 1) && (inI y1 0 30 && (inI y2 0 2 && (inI y3 0 20 && (inI y4 0 9 && (inI y5 0 6 && inI y6 0 60)))))) = false) : CT l G yX5_note cX5_note 9 (some .int) 2 44 [.ref x0, .int x, .int y1, .int y2, .int y3, .int y4, .int y5, .int y6] ([xO G x0 s0 g0 k0 xt tr sg rf ab bl, oS G s0 t0 p0 n0, tW G t0 wo mi bi la (nI n) ki se wd hu bt, aW G rf 3 rfd].flatten) (some (.int (-2))) ([xO G x0 s0 g0 k0 xt tr sg rf ab bl, oS G s0 t0 p0 n0, tW G t0 wo mi bi la (nI n) ki se wd hu bt, aW G rf 3 (upd rfd 0 (rfd 0 + 1))].flatten) := by
  refine CT.mk (own := RX5) (la := [(0, .ref x0), (1, .int x), (2, .int y1), (3, .int y2), (4, .int y3), (5, .int y4), (6, .int y5), (7, .int y6)]) (by decide) rfl (Nat.le_of_ble_eq_true rfl) rfl ?_
  intro p e s m args below meth c A Q E hA hw rt ls hl
  have hx := E.1
  have hb := E.2.1
  refine lv_aload_n hx hb dX5_note_0 rfl (lv_at hl 0 rfl) ?_
  refine lv_iload_n hx hb dX5_note_1 rfl (lv_at hl 1 rfl) ?_
  refine b_callV (is := [0, 1, 2]) (wb := [xO G x0 s0 g0 k0 xt tr sg rf ab bl, oS G s0 t0 p0 n0, tW G t0 wo mi bi la (nI n) ki se wd hu bt]) (wb' := [xO G x0 s0 g0 k0 xt tr sg rf ab bl, oS G s0 t0 p0 n0, tW G t0 wo mi bi la (nI n) ki se wd hu bt]) (As := [.int x]) (rest := []) (st1 := [.int (bI (inI x 0 (nI n - 1)))]) (bs' := [xO G x0 s0 g0 k0 xt tr sg rf ab bl, oS G s0 t0 p0 n0, tW G t0 wo mi bi la (nI n) ki se wd hu bt, aW G rf 3 rfd]) E (c_X5_isChild l G x0 s0 t0 p0 n0 g0 k0 xt tr sg rf x ab bl wo mi bi la n ki se wd hu bt) vw_X5_120 hw [0, 1, 2] rfl 0 0 rfl rfl rfl rfl rfl rfl rfl rfl rfl hl.1 rfl rfl (Nat.le_of_ble_eq_true rfl) ⟨Nat.le_of_ble_eq_true rfl, Nat.le_of_ble_eq_true rfl⟩ (Nat.zero_le _) (Nat.zero_le _) dX5_note_2 rfl rfl (fun H locs hw => ?_)
  refine lv_if_eq (tgt := 75) hx hb dX5_note_5 rfl (fun cq5 => ?_) (fun cq5 => ?_)
  · skip
    have cq5 := bI_0.mp cq5
    refine lv_iconst (v := 0) hx hb dX5_note_75 rfl ?_
    refine lv_istore (lv' := [(8, .int 0), (0, .ref x0), (1, .int x), (2, .int y1), (3, .int y2), (4, .int y3), (5, .int y4), (6, .int y5), (7, .int y6)]) hx hb dX5_note_76 hl (by decide) rfl (fun ls hl => ?_)
    refine lv_iload hx hb dX5_note_78 (lv_at hl 0 rfl) ?_
    refine lv_if_ne (tgt := 90) hx hb dX5_note_80 rfl (fun cq80 => ?_) (fun cq80 => ?_)
    · skip
      exact absurd rfl cq80
    · skip
      refine lv_aload_n hx hb dX5_note_83 rfl (lv_at hl 1 rfl) ?_
      refine lv_bipush (v := -2) hx hb dX5_note_84 rfl ?_
      refine b_callV (is := [0, 3]) (wb := [xO G x0 s0 g0 k0 xt tr sg rf ab bl, aW G rf 3 rfd]) (wb' := [xO G x0 s0 g0 k0 xt tr sg rf ab bl, aW G rf 3 (upd rfd 0 (rfd 0 + 1))]) (As := [.int (-2)]) (rest := []) (st1 := [.int (-2)]) (bs' := [xO G x0 s0 g0 k0 xt tr sg rf ab bl, oS G s0 t0 p0 n0, tW G t0 wo mi bi la (nI n) ki se wd hu bt, aW G rf 3 (upd rfd 0 (rfd 0 + 1))]) E (c_X5_refuse l G x0 s0 g0 k0 xt tr sg rf (-2) ab bl rfd 0 (by omega) (by decide)) vw_X5_56 hw [0, 3] rfl 0 0 rfl rfl rfl rfl rfl rfl rfl rfl rfl hl.1 rfl rfl (Nat.le_of_ble_eq_true rfl) ⟨Nat.le_of_ble_eq_true rfl, Nat.le_of_ble_eq_true rfl⟩ (Nat.zero_le _) (Nat.zero_le _) dX5_note_86 rfl rfl (fun H locs hw => ?_)
      exact x_iret E hA rt hw dX5_note_89 (rfl) rfl
  · skip
    have cq5 := bI_n0.mp cq5
    refine lv_iload_n hx hb dX5_note_8 rfl (lv_at hl 2 rfl) ?_
    refine lv_iconst (v := 0) hx hb dX5_note_9 rfl ?_
    refine lv_bipush (v := 30) hx hb dX5_note_10 rfl ?_
    refine b_callS (is := []) (wb := []) (wb' := []) (As := [.int y1, .int 0, .int 30]) (rest := []) (st1 := [.int (bI (inI y1 0 30))]) (bs' := [xO G x0 s0 g0 k0 xt tr sg rf ab bl, oS G s0 t0 p0 n0, tW G t0 wo mi bi la (nI n) ki se wd hu bt, aW G rf 3 rfd]) E (c_X5_within l G y1 0 30) sw_X5_75 hw [] rfl rfl rfl rfl rfl rfl hl.1 rfl rfl (Nat.le_of_ble_eq_true rfl) ⟨Nat.le_of_ble_eq_true rfl, Nat.le_of_ble_eq_true rfl⟩ (Nat.zero_le _) (Nat.zero_le _) dX5_note_12 rfl rfl (fun H locs hw => ?_)
    refine lv_if_eq (tgt := 75) hx hb dX5_note_15 rfl (fun cq15 => ?_) (fun cq15 => ?_)
    · skip
      have cq15 := bI_0.mp cq15
      refine lv_iconst (v := 0) hx hb dX5_note_75 rfl ?_
      refine lv_istore (lv' := [(8, .int 0), (0, .ref x0), (1, .int x), (2, .int y1), (3, .int y2), (4, .int y3), (5, .int y4), (6, .int y5), (7, .int y6)]) hx hb dX5_note_76 hl (by decide) rfl (fun ls hl => ?_)
      refine lv_iload hx hb dX5_note_78 (lv_at hl 0 rfl) ?_
      refine lv_if_ne (tgt := 90) hx hb dX5_note_80 rfl (fun cq80 => ?_) (fun cq80 => ?_)
      · skip
        exact absurd rfl cq80
      · skip
        refine lv_aload_n hx hb dX5_note_83 rfl (lv_at hl 1 rfl) ?_
        refine lv_bipush (v := -2) hx hb dX5_note_84 rfl ?_
        refine b_callV (is := [0, 3]) (wb := [xO G x0 s0 g0 k0 xt tr sg rf ab bl, aW G rf 3 rfd]) (wb' := [xO G x0 s0 g0 k0 xt tr sg rf ab bl, aW G rf 3 (upd rfd 0 (rfd 0 + 1))]) (As := [.int (-2)]) (rest := []) (st1 := [.int (-2)]) (bs' := [xO G x0 s0 g0 k0 xt tr sg rf ab bl, oS G s0 t0 p0 n0, tW G t0 wo mi bi la (nI n) ki se wd hu bt, aW G rf 3 (upd rfd 0 (rfd 0 + 1))]) E (c_X5_refuse l G x0 s0 g0 k0 xt tr sg rf (-2) ab bl rfd 0 (by omega) (by decide)) vw_X5_56 hw [0, 3] rfl 0 0 rfl rfl rfl rfl rfl rfl rfl rfl rfl hl.1 rfl rfl (Nat.le_of_ble_eq_true rfl) ⟨Nat.le_of_ble_eq_true rfl, Nat.le_of_ble_eq_true rfl⟩ (Nat.zero_le _) (Nat.zero_le _) dX5_note_86 rfl rfl (fun H locs hw => ?_)
        exact x_iret E hA rt hw dX5_note_89 (rfl) rfl
    · skip
      have cq15 := bI_n0.mp cq15
      refine lv_iload_n hx hb dX5_note_18 rfl (lv_at hl 3 rfl) ?_
      refine lv_iconst (v := 0) hx hb dX5_note_19 rfl ?_
      refine lv_iconst (v := 2) hx hb dX5_note_20 rfl ?_
      refine b_callS (is := []) (wb := []) (wb' := []) (As := [.int y2, .int 0, .int 2]) (rest := []) (st1 := [.int (bI (inI y2 0 2))]) (bs' := [xO G x0 s0 g0 k0 xt tr sg rf ab bl, oS G s0 t0 p0 n0, tW G t0 wo mi bi la (nI n) ki se wd hu bt, aW G rf 3 rfd]) E (c_X5_within l G y2 0 2) sw_X5_75 hw [] rfl rfl rfl rfl rfl rfl hl.1 rfl rfl (Nat.le_of_ble_eq_true rfl) ⟨Nat.le_of_ble_eq_true rfl, Nat.le_of_ble_eq_true rfl⟩ (Nat.zero_le _) (Nat.zero_le _) dX5_note_21 rfl rfl (fun H locs hw => ?_)
      refine lv_if_eq (tgt := 75) hx hb dX5_note_24 rfl (fun cq24 => ?_) (fun cq24 => ?_)
      · skip
        have cq24 := bI_0.mp cq24
        refine lv_iconst (v := 0) hx hb dX5_note_75 rfl ?_
        refine lv_istore (lv' := [(8, .int 0), (0, .ref x0), (1, .int x), (2, .int y1), (3, .int y2), (4, .int y3), (5, .int y4), (6, .int y5), (7, .int y6)]) hx hb dX5_note_76 hl (by decide) rfl (fun ls hl => ?_)
        refine lv_iload hx hb dX5_note_78 (lv_at hl 0 rfl) ?_
        refine lv_if_ne (tgt := 90) hx hb dX5_note_80 rfl (fun cq80 => ?_) (fun cq80 => ?_)
        · skip
          exact absurd rfl cq80
        · skip
          refine lv_aload_n hx hb dX5_note_83 rfl (lv_at hl 1 rfl) ?_
          refine lv_bipush (v := -2) hx hb dX5_note_84 rfl ?_
          refine b_callV (is := [0, 3]) (wb := [xO G x0 s0 g0 k0 xt tr sg rf ab bl, aW G rf 3 rfd]) (wb' := [xO G x0 s0 g0 k0 xt tr sg rf ab bl, aW G rf 3 (upd rfd 0 (rfd 0 + 1))]) (As := [.int (-2)]) (rest := []) (st1 := [.int (-2)]) (bs' := [xO G x0 s0 g0 k0 xt tr sg rf ab bl, oS G s0 t0 p0 n0, tW G t0 wo mi bi la (nI n) ki se wd hu bt, aW G rf 3 (upd rfd 0 (rfd 0 + 1))]) E (c_X5_refuse l G x0 s0 g0 k0 xt tr sg rf (-2) ab bl rfd 0 (by omega) (by decide)) vw_X5_56 hw [0, 3] rfl 0 0 rfl rfl rfl rfl rfl rfl rfl rfl rfl hl.1 rfl rfl (Nat.le_of_ble_eq_true rfl) ⟨Nat.le_of_ble_eq_true rfl, Nat.le_of_ble_eq_true rfl⟩ (Nat.zero_le _) (Nat.zero_le _) dX5_note_86 rfl rfl (fun H locs hw => ?_)
          exact x_iret E hA rt hw dX5_note_89 (rfl) rfl
      · skip
        have cq24 := bI_n0.mp cq24
        refine lv_iload hx hb dX5_note_27 (lv_at hl 4 rfl) ?_
        refine lv_iconst (v := 0) hx hb dX5_note_29 rfl ?_
        refine lv_bipush (v := 20) hx hb dX5_note_30 rfl ?_
        refine b_callS (is := []) (wb := []) (wb' := []) (As := [.int y3, .int 0, .int 20]) (rest := []) (st1 := [.int (bI (inI y3 0 20))]) (bs' := [xO G x0 s0 g0 k0 xt tr sg rf ab bl, oS G s0 t0 p0 n0, tW G t0 wo mi bi la (nI n) ki se wd hu bt, aW G rf 3 rfd]) E (c_X5_within l G y3 0 20) sw_X5_75 hw [] rfl rfl rfl rfl rfl rfl hl.1 rfl rfl (Nat.le_of_ble_eq_true rfl) ⟨Nat.le_of_ble_eq_true rfl, Nat.le_of_ble_eq_true rfl⟩ (Nat.zero_le _) (Nat.zero_le _) dX5_note_32 rfl rfl (fun H locs hw => ?_)
        refine lv_if_eq (tgt := 75) hx hb dX5_note_35 rfl (fun cq35 => ?_) (fun cq35 => ?_)
        · skip
          have cq35 := bI_0.mp cq35
          refine lv_iconst (v := 0) hx hb dX5_note_75 rfl ?_
          refine lv_istore (lv' := [(8, .int 0), (0, .ref x0), (1, .int x), (2, .int y1), (3, .int y2), (4, .int y3), (5, .int y4), (6, .int y5), (7, .int y6)]) hx hb dX5_note_76 hl (by decide) rfl (fun ls hl => ?_)
          refine lv_iload hx hb dX5_note_78 (lv_at hl 0 rfl) ?_
          refine lv_if_ne (tgt := 90) hx hb dX5_note_80 rfl (fun cq80 => ?_) (fun cq80 => ?_)
          · skip
            exact absurd rfl cq80
          · skip
            refine lv_aload_n hx hb dX5_note_83 rfl (lv_at hl 1 rfl) ?_
            refine lv_bipush (v := -2) hx hb dX5_note_84 rfl ?_
            refine b_callV (is := [0, 3]) (wb := [xO G x0 s0 g0 k0 xt tr sg rf ab bl, aW G rf 3 rfd]) (wb' := [xO G x0 s0 g0 k0 xt tr sg rf ab bl, aW G rf 3 (upd rfd 0 (rfd 0 + 1))]) (As := [.int (-2)]) (rest := []) (st1 := [.int (-2)]) (bs' := [xO G x0 s0 g0 k0 xt tr sg rf ab bl, oS G s0 t0 p0 n0, tW G t0 wo mi bi la (nI n) ki se wd hu bt, aW G rf 3 (upd rfd 0 (rfd 0 + 1))]) E (c_X5_refuse l G x0 s0 g0 k0 xt tr sg rf (-2) ab bl rfd 0 (by omega) (by decide)) vw_X5_56 hw [0, 3] rfl 0 0 rfl rfl rfl rfl rfl rfl rfl rfl rfl hl.1 rfl rfl (Nat.le_of_ble_eq_true rfl) ⟨Nat.le_of_ble_eq_true rfl, Nat.le_of_ble_eq_true rfl⟩ (Nat.zero_le _) (Nat.zero_le _) dX5_note_86 rfl rfl (fun H locs hw => ?_)
            exact x_iret E hA rt hw dX5_note_89 (rfl) rfl
        · skip
          have cq35 := bI_n0.mp cq35
          refine lv_iload hx hb dX5_note_38 (lv_at hl 5 rfl) ?_
          refine lv_iconst (v := 0) hx hb dX5_note_40 rfl ?_
          refine lv_bipush (v := 9) hx hb dX5_note_41 rfl ?_
          refine b_callS (is := []) (wb := []) (wb' := []) (As := [.int y4, .int 0, .int 9]) (rest := []) (st1 := [.int (bI (inI y4 0 9))]) (bs' := [xO G x0 s0 g0 k0 xt tr sg rf ab bl, oS G s0 t0 p0 n0, tW G t0 wo mi bi la (nI n) ki se wd hu bt, aW G rf 3 rfd]) E (c_X5_within l G y4 0 9) sw_X5_75 hw [] rfl rfl rfl rfl rfl rfl hl.1 rfl rfl (Nat.le_of_ble_eq_true rfl) ⟨Nat.le_of_ble_eq_true rfl, Nat.le_of_ble_eq_true rfl⟩ (Nat.zero_le _) (Nat.zero_le _) dX5_note_43 rfl rfl (fun H locs hw => ?_)
          refine lv_if_eq (tgt := 75) hx hb dX5_note_46 rfl (fun cq46 => ?_) (fun cq46 => ?_)
          · skip
            have cq46 := bI_0.mp cq46
            refine lv_iconst (v := 0) hx hb dX5_note_75 rfl ?_
            refine lv_istore (lv' := [(8, .int 0), (0, .ref x0), (1, .int x), (2, .int y1), (3, .int y2), (4, .int y3), (5, .int y4), (6, .int y5), (7, .int y6)]) hx hb dX5_note_76 hl (by decide) rfl (fun ls hl => ?_)
            refine lv_iload hx hb dX5_note_78 (lv_at hl 0 rfl) ?_
            refine lv_if_ne (tgt := 90) hx hb dX5_note_80 rfl (fun cq80 => ?_) (fun cq80 => ?_)
            · skip
              exact absurd rfl cq80
            · skip
              refine lv_aload_n hx hb dX5_note_83 rfl (lv_at hl 1 rfl) ?_
              refine lv_bipush (v := -2) hx hb dX5_note_84 rfl ?_
              refine b_callV (is := [0, 3]) (wb := [xO G x0 s0 g0 k0 xt tr sg rf ab bl, aW G rf 3 rfd]) (wb' := [xO G x0 s0 g0 k0 xt tr sg rf ab bl, aW G rf 3 (upd rfd 0 (rfd 0 + 1))]) (As := [.int (-2)]) (rest := []) (st1 := [.int (-2)]) (bs' := [xO G x0 s0 g0 k0 xt tr sg rf ab bl, oS G s0 t0 p0 n0, tW G t0 wo mi bi la (nI n) ki se wd hu bt, aW G rf 3 (upd rfd 0 (rfd 0 + 1))]) E (c_X5_refuse l G x0 s0 g0 k0 xt tr sg rf (-2) ab bl rfd 0 (by omega) (by decide)) vw_X5_56 hw [0, 3] rfl 0 0 rfl rfl rfl rfl rfl rfl rfl rfl rfl hl.1 rfl rfl (Nat.le_of_ble_eq_true rfl) ⟨Nat.le_of_ble_eq_true rfl, Nat.le_of_ble_eq_true rfl⟩ (Nat.zero_le _) (Nat.zero_le _) dX5_note_86 rfl rfl (fun H locs hw => ?_)
              exact x_iret E hA rt hw dX5_note_89 (rfl) rfl
          · skip
            have cq46 := bI_n0.mp cq46
            refine lv_iload hx hb dX5_note_49 (lv_at hl 6 rfl) ?_
            refine lv_iconst (v := 0) hx hb dX5_note_51 rfl ?_
            refine lv_bipush (v := 6) hx hb dX5_note_52 rfl ?_
            refine b_callS (is := []) (wb := []) (wb' := []) (As := [.int y5, .int 0, .int 6]) (rest := []) (st1 := [.int (bI (inI y5 0 6))]) (bs' := [xO G x0 s0 g0 k0 xt tr sg rf ab bl, oS G s0 t0 p0 n0, tW G t0 wo mi bi la (nI n) ki se wd hu bt, aW G rf 3 rfd]) E (c_X5_within l G y5 0 6) sw_X5_75 hw [] rfl rfl rfl rfl rfl rfl hl.1 rfl rfl (Nat.le_of_ble_eq_true rfl) ⟨Nat.le_of_ble_eq_true rfl, Nat.le_of_ble_eq_true rfl⟩ (Nat.zero_le _) (Nat.zero_le _) dX5_note_54 rfl rfl (fun H locs hw => ?_)
            refine lv_if_eq (tgt := 75) hx hb dX5_note_57 rfl (fun cq57 => ?_) (fun cq57 => ?_)
            · skip
              have cq57 := bI_0.mp cq57
              refine lv_iconst (v := 0) hx hb dX5_note_75 rfl ?_
              refine lv_istore (lv' := [(8, .int 0), (0, .ref x0), (1, .int x), (2, .int y1), (3, .int y2), (4, .int y3), (5, .int y4), (6, .int y5), (7, .int y6)]) hx hb dX5_note_76 hl (by decide) rfl (fun ls hl => ?_)
              refine lv_iload hx hb dX5_note_78 (lv_at hl 0 rfl) ?_
              refine lv_if_ne (tgt := 90) hx hb dX5_note_80 rfl (fun cq80 => ?_) (fun cq80 => ?_)
              · skip
                exact absurd rfl cq80
              · skip
                refine lv_aload_n hx hb dX5_note_83 rfl (lv_at hl 1 rfl) ?_
                refine lv_bipush (v := -2) hx hb dX5_note_84 rfl ?_
                refine b_callV (is := [0, 3]) (wb := [xO G x0 s0 g0 k0 xt tr sg rf ab bl, aW G rf 3 rfd]) (wb' := [xO G x0 s0 g0 k0 xt tr sg rf ab bl, aW G rf 3 (upd rfd 0 (rfd 0 + 1))]) (As := [.int (-2)]) (rest := []) (st1 := [.int (-2)]) (bs' := [xO G x0 s0 g0 k0 xt tr sg rf ab bl, oS G s0 t0 p0 n0, tW G t0 wo mi bi la (nI n) ki se wd hu bt, aW G rf 3 (upd rfd 0 (rfd 0 + 1))]) E (c_X5_refuse l G x0 s0 g0 k0 xt tr sg rf (-2) ab bl rfd 0 (by omega) (by decide)) vw_X5_56 hw [0, 3] rfl 0 0 rfl rfl rfl rfl rfl rfl rfl rfl rfl hl.1 rfl rfl (Nat.le_of_ble_eq_true rfl) ⟨Nat.le_of_ble_eq_true rfl, Nat.le_of_ble_eq_true rfl⟩ (Nat.zero_le _) (Nat.zero_le _) dX5_note_86 rfl rfl (fun H locs hw => ?_)
                exact x_iret E hA rt hw dX5_note_89 (rfl) rfl
            · skip
              have cq57 := bI_n0.mp cq57
              refine lv_iload hx hb dX5_note_60 (lv_at hl 7 rfl) ?_
              refine lv_iconst (v := 0) hx hb dX5_note_62 rfl ?_
              refine lv_bipush (v := 60) hx hb dX5_note_63 rfl ?_
              refine b_callS (is := []) (wb := []) (wb' := []) (As := [.int y6, .int 0, .int 60]) (rest := []) (st1 := [.int (bI (inI y6 0 60))]) (bs' := [xO G x0 s0 g0 k0 xt tr sg rf ab bl, oS G s0 t0 p0 n0, tW G t0 wo mi bi la (nI n) ki se wd hu bt, aW G rf 3 rfd]) E (c_X5_within l G y6 0 60) sw_X5_75 hw [] rfl rfl rfl rfl rfl rfl hl.1 rfl rfl (Nat.le_of_ble_eq_true rfl) ⟨Nat.le_of_ble_eq_true rfl, Nat.le_of_ble_eq_true rfl⟩ (Nat.zero_le _) (Nat.zero_le _) dX5_note_65 rfl rfl (fun H locs hw => ?_)
              refine lv_if_eq (tgt := 75) hx hb dX5_note_68 rfl (fun cq68 => ?_) (fun cq68 => ?_)
              · skip
                have cq68 := bI_0.mp cq68
                refine lv_iconst (v := 0) hx hb dX5_note_75 rfl ?_
                refine lv_istore (lv' := [(8, .int 0), (0, .ref x0), (1, .int x), (2, .int y1), (3, .int y2), (4, .int y3), (5, .int y4), (6, .int y5), (7, .int y6)]) hx hb dX5_note_76 hl (by decide) rfl (fun ls hl => ?_)
                refine lv_iload hx hb dX5_note_78 (lv_at hl 0 rfl) ?_
                refine lv_if_ne (tgt := 90) hx hb dX5_note_80 rfl (fun cq80 => ?_) (fun cq80 => ?_)
                · skip
                  exact absurd rfl cq80
                · skip
                  refine lv_aload_n hx hb dX5_note_83 rfl (lv_at hl 1 rfl) ?_
                  refine lv_bipush (v := -2) hx hb dX5_note_84 rfl ?_
                  refine b_callV (is := [0, 3]) (wb := [xO G x0 s0 g0 k0 xt tr sg rf ab bl, aW G rf 3 rfd]) (wb' := [xO G x0 s0 g0 k0 xt tr sg rf ab bl, aW G rf 3 (upd rfd 0 (rfd 0 + 1))]) (As := [.int (-2)]) (rest := []) (st1 := [.int (-2)]) (bs' := [xO G x0 s0 g0 k0 xt tr sg rf ab bl, oS G s0 t0 p0 n0, tW G t0 wo mi bi la (nI n) ki se wd hu bt, aW G rf 3 (upd rfd 0 (rfd 0 + 1))]) E (c_X5_refuse l G x0 s0 g0 k0 xt tr sg rf (-2) ab bl rfd 0 (by omega) (by decide)) vw_X5_56 hw [0, 3] rfl 0 0 rfl rfl rfl rfl rfl rfl rfl rfl rfl hl.1 rfl rfl (Nat.le_of_ble_eq_true rfl) ⟨Nat.le_of_ble_eq_true rfl, Nat.le_of_ble_eq_true rfl⟩ (Nat.zero_le _) (Nat.zero_le _) dX5_note_86 rfl rfl (fun H locs hw => ?_)
                  exact x_iret E hA rt hw dX5_note_89 (rfl) rfl
              · skip
                have cq68 := bI_n0.mp cq68
                rw [cq5, cq15, cq24, cq35, cq46, cq57, cq68] at h0; exact absurd h0 (by decide)
set_option maxHeartbeats 1000000 in
set_option maxRecDepth 100000 in
theorem c_X5_note_full (l : Launch) (G : GG) (x0 : Nat) (s0 : Nat) (t0 : Nat → Nat) (p0 : Nat → Nat) (n0 : Nat → Nat) (g0 : Nat) (k0 : Nat) (xt : Nat → Nat) (tr : Nat → Nat) (sg : Nat) (rf : Nat) (x : Int32) (y1 : Int32) (y2 : Int32) (y3 : Int32) (y4 : Int32) (y5 : Int32) (y6 : Int32) (ab : Int64) (bl : Int64) (wo : Int32) (mi : Int32) (bi : Int32) (la : Int32) (n : Nat) (ki : Nat → Int32) (se : Nat → Int32) (wd : Nat → Int32) (hu : Nat → Int32) (bt : Nat → Int32) (np : Nat → Int32) (zn : Nat) (rfd : Nat → Int32) (gg0 : inI x 0 (nI n - 1) = true) (gg1 : inI y1 0 30 = true) (gg2 : inI y2 0 2 = true) (gg3 : inI y3 0 20 = true) (gg4 : inI y4 0 9 = true) (gg5 : inI y5 0 6 = true) (gg6 : inI y6 0 60 = true) (hzn : zn ≤ 6) (hz6 : 6 ≤ zn) : CT l G yX5_note cX5_note 9 (some .int) 2 44 [.ref x0, .int x, .int y1, .int y2, .int y3, .int y4, .int y5, .int y6] ([xO G x0 s0 g0 k0 xt tr sg rf ab bl, oS G s0 t0 p0 n0, tW G t0 wo mi bi la (nI n) ki se wd hu bt, nW G n0 np (nI zn), aW G rf 3 rfd].flatten) (some (.int (-4))) ([xO G x0 s0 g0 k0 xt tr sg rf ab bl, oS G s0 t0 p0 n0, tW G t0 wo mi bi la (nI n) ki se wd hu bt, nW G n0 np (nI zn), aW G rf 3 (upd rfd 2 (rfd 2 + 1))].flatten) := by
  refine CT.mk (own := RX5) (la := [(0, .ref x0), (1, .int x), (2, .int y1), (3, .int y2), (4, .int y3), (5, .int y4), (6, .int y5), (7, .int y6)]) (by decide) rfl (Nat.le_of_ble_eq_true rfl) rfl ?_
  intro p e s m args below meth c A Q E hA hw rt ls hl
  have hx := E.1
  have hb := E.2.1
  refine lv_aload_n hx hb dX5_note_0 rfl (lv_at hl 0 rfl) ?_
  refine lv_iload_n hx hb dX5_note_1 rfl (lv_at hl 1 rfl) ?_
  refine b_callV (is := [0, 1, 2]) (wb := [xO G x0 s0 g0 k0 xt tr sg rf ab bl, oS G s0 t0 p0 n0, tW G t0 wo mi bi la (nI n) ki se wd hu bt]) (wb' := [xO G x0 s0 g0 k0 xt tr sg rf ab bl, oS G s0 t0 p0 n0, tW G t0 wo mi bi la (nI n) ki se wd hu bt]) (As := [.int x]) (rest := []) (st1 := [.int (bI (inI x 0 (nI n - 1)))]) (bs' := [xO G x0 s0 g0 k0 xt tr sg rf ab bl, oS G s0 t0 p0 n0, tW G t0 wo mi bi la (nI n) ki se wd hu bt, nW G n0 np (nI zn), aW G rf 3 rfd]) E (c_X5_isChild l G x0 s0 t0 p0 n0 g0 k0 xt tr sg rf x ab bl wo mi bi la n ki se wd hu bt) vw_X5_120 hw [0, 1, 2] rfl 0 0 rfl rfl rfl rfl rfl rfl rfl rfl rfl hl.1 rfl rfl (Nat.le_of_ble_eq_true rfl) ⟨Nat.le_of_ble_eq_true rfl, Nat.le_of_ble_eq_true rfl⟩ (Nat.zero_le _) (Nat.zero_le _) dX5_note_2 rfl rfl (fun H locs hw => ?_)
  refine lv_if_eq (tgt := 75) hx hb dX5_note_5 rfl (fun cq5 => ?_) (fun cq5 => ?_)
  · skip
    have cq5 := bI_0.mp cq5
    exact absurd cq5 (by rw [gg0]; decide)
  · skip
    have cq5 := bI_n0.mp cq5
    refine lv_iload_n hx hb dX5_note_8 rfl (lv_at hl 2 rfl) ?_
    refine lv_iconst (v := 0) hx hb dX5_note_9 rfl ?_
    refine lv_bipush (v := 30) hx hb dX5_note_10 rfl ?_
    refine b_callS (is := []) (wb := []) (wb' := []) (As := [.int y1, .int 0, .int 30]) (rest := []) (st1 := [.int (bI (inI y1 0 30))]) (bs' := [xO G x0 s0 g0 k0 xt tr sg rf ab bl, oS G s0 t0 p0 n0, tW G t0 wo mi bi la (nI n) ki se wd hu bt, nW G n0 np (nI zn), aW G rf 3 rfd]) E (c_X5_within l G y1 0 30) sw_X5_75 hw [] rfl rfl rfl rfl rfl rfl hl.1 rfl rfl (Nat.le_of_ble_eq_true rfl) ⟨Nat.le_of_ble_eq_true rfl, Nat.le_of_ble_eq_true rfl⟩ (Nat.zero_le _) (Nat.zero_le _) dX5_note_12 rfl rfl (fun H locs hw => ?_)
    refine lv_if_eq (tgt := 75) hx hb dX5_note_15 rfl (fun cq15 => ?_) (fun cq15 => ?_)
    · skip
      have cq15 := bI_0.mp cq15
      exact absurd cq15 (by rw [gg1]; decide)
    · skip
      have cq15 := bI_n0.mp cq15
      refine lv_iload_n hx hb dX5_note_18 rfl (lv_at hl 3 rfl) ?_
      refine lv_iconst (v := 0) hx hb dX5_note_19 rfl ?_
      refine lv_iconst (v := 2) hx hb dX5_note_20 rfl ?_
      refine b_callS (is := []) (wb := []) (wb' := []) (As := [.int y2, .int 0, .int 2]) (rest := []) (st1 := [.int (bI (inI y2 0 2))]) (bs' := [xO G x0 s0 g0 k0 xt tr sg rf ab bl, oS G s0 t0 p0 n0, tW G t0 wo mi bi la (nI n) ki se wd hu bt, nW G n0 np (nI zn), aW G rf 3 rfd]) E (c_X5_within l G y2 0 2) sw_X5_75 hw [] rfl rfl rfl rfl rfl rfl hl.1 rfl rfl (Nat.le_of_ble_eq_true rfl) ⟨Nat.le_of_ble_eq_true rfl, Nat.le_of_ble_eq_true rfl⟩ (Nat.zero_le _) (Nat.zero_le _) dX5_note_21 rfl rfl (fun H locs hw => ?_)
      refine lv_if_eq (tgt := 75) hx hb dX5_note_24 rfl (fun cq24 => ?_) (fun cq24 => ?_)
      · skip
        have cq24 := bI_0.mp cq24
        exact absurd cq24 (by rw [gg2]; decide)
      · skip
        have cq24 := bI_n0.mp cq24
        refine lv_iload hx hb dX5_note_27 (lv_at hl 4 rfl) ?_
        refine lv_iconst (v := 0) hx hb dX5_note_29 rfl ?_
        refine lv_bipush (v := 20) hx hb dX5_note_30 rfl ?_
        refine b_callS (is := []) (wb := []) (wb' := []) (As := [.int y3, .int 0, .int 20]) (rest := []) (st1 := [.int (bI (inI y3 0 20))]) (bs' := [xO G x0 s0 g0 k0 xt tr sg rf ab bl, oS G s0 t0 p0 n0, tW G t0 wo mi bi la (nI n) ki se wd hu bt, nW G n0 np (nI zn), aW G rf 3 rfd]) E (c_X5_within l G y3 0 20) sw_X5_75 hw [] rfl rfl rfl rfl rfl rfl hl.1 rfl rfl (Nat.le_of_ble_eq_true rfl) ⟨Nat.le_of_ble_eq_true rfl, Nat.le_of_ble_eq_true rfl⟩ (Nat.zero_le _) (Nat.zero_le _) dX5_note_32 rfl rfl (fun H locs hw => ?_)
        refine lv_if_eq (tgt := 75) hx hb dX5_note_35 rfl (fun cq35 => ?_) (fun cq35 => ?_)
        · skip
          have cq35 := bI_0.mp cq35
          exact absurd cq35 (by rw [gg3]; decide)
        · skip
          have cq35 := bI_n0.mp cq35
          refine lv_iload hx hb dX5_note_38 (lv_at hl 5 rfl) ?_
          refine lv_iconst (v := 0) hx hb dX5_note_40 rfl ?_
          refine lv_bipush (v := 9) hx hb dX5_note_41 rfl ?_
          refine b_callS (is := []) (wb := []) (wb' := []) (As := [.int y4, .int 0, .int 9]) (rest := []) (st1 := [.int (bI (inI y4 0 9))]) (bs' := [xO G x0 s0 g0 k0 xt tr sg rf ab bl, oS G s0 t0 p0 n0, tW G t0 wo mi bi la (nI n) ki se wd hu bt, nW G n0 np (nI zn), aW G rf 3 rfd]) E (c_X5_within l G y4 0 9) sw_X5_75 hw [] rfl rfl rfl rfl rfl rfl hl.1 rfl rfl (Nat.le_of_ble_eq_true rfl) ⟨Nat.le_of_ble_eq_true rfl, Nat.le_of_ble_eq_true rfl⟩ (Nat.zero_le _) (Nat.zero_le _) dX5_note_43 rfl rfl (fun H locs hw => ?_)
          refine lv_if_eq (tgt := 75) hx hb dX5_note_46 rfl (fun cq46 => ?_) (fun cq46 => ?_)
          · skip
            have cq46 := bI_0.mp cq46
            exact absurd cq46 (by rw [gg4]; decide)
          · skip
            have cq46 := bI_n0.mp cq46
            refine lv_iload hx hb dX5_note_49 (lv_at hl 6 rfl) ?_
            refine lv_iconst (v := 0) hx hb dX5_note_51 rfl ?_
            refine lv_bipush (v := 6) hx hb dX5_note_52 rfl ?_
            refine b_callS (is := []) (wb := []) (wb' := []) (As := [.int y5, .int 0, .int 6]) (rest := []) (st1 := [.int (bI (inI y5 0 6))]) (bs' := [xO G x0 s0 g0 k0 xt tr sg rf ab bl, oS G s0 t0 p0 n0, tW G t0 wo mi bi la (nI n) ki se wd hu bt, nW G n0 np (nI zn), aW G rf 3 rfd]) E (c_X5_within l G y5 0 6) sw_X5_75 hw [] rfl rfl rfl rfl rfl rfl hl.1 rfl rfl (Nat.le_of_ble_eq_true rfl) ⟨Nat.le_of_ble_eq_true rfl, Nat.le_of_ble_eq_true rfl⟩ (Nat.zero_le _) (Nat.zero_le _) dX5_note_54 rfl rfl (fun H locs hw => ?_)
            refine lv_if_eq (tgt := 75) hx hb dX5_note_57 rfl (fun cq57 => ?_) (fun cq57 => ?_)
            · skip
              have cq57 := bI_0.mp cq57
              exact absurd cq57 (by rw [gg5]; decide)
            · skip
              have cq57 := bI_n0.mp cq57
              refine lv_iload hx hb dX5_note_60 (lv_at hl 7 rfl) ?_
              refine lv_iconst (v := 0) hx hb dX5_note_62 rfl ?_
              refine lv_bipush (v := 60) hx hb dX5_note_63 rfl ?_
              refine b_callS (is := []) (wb := []) (wb' := []) (As := [.int y6, .int 0, .int 60]) (rest := []) (st1 := [.int (bI (inI y6 0 60))]) (bs' := [xO G x0 s0 g0 k0 xt tr sg rf ab bl, oS G s0 t0 p0 n0, tW G t0 wo mi bi la (nI n) ki se wd hu bt, nW G n0 np (nI zn), aW G rf 3 rfd]) E (c_X5_within l G y6 0 60) sw_X5_75 hw [] rfl rfl rfl rfl rfl rfl hl.1 rfl rfl (Nat.le_of_ble_eq_true rfl) ⟨Nat.le_of_ble_eq_true rfl, Nat.le_of_ble_eq_true rfl⟩ (Nat.zero_le _) (Nat.zero_le _) dX5_note_65 rfl rfl (fun H locs hw => ?_)
              refine lv_if_eq (tgt := 75) hx hb dX5_note_68 rfl (fun cq68 => ?_) (fun cq68 => ?_)
              · skip
                have cq68 := bI_0.mp cq68
                exact absurd cq68 (by rw [gg6]; decide)
              · skip
                have cq68 := bI_n0.mp cq68
                refine lv_iconst (v := 1) hx hb dX5_note_71 rfl ?_
                refine lv_goto (tgt := 76) hx hb dX5_note_72 rfl ?_
                refine lv_istore (lv' := [(8, .int 1), (0, .ref x0), (1, .int x), (2, .int y1), (3, .int y2), (4, .int y3), (5, .int y4), (6, .int y5), (7, .int y6)]) hx hb dX5_note_76 hl (by decide) rfl (fun ls hl => ?_)
                refine lv_iload hx hb dX5_note_78 (lv_at hl 0 rfl) ?_
                refine lv_if_ne (tgt := 90) hx hb dX5_note_80 rfl (fun cq80 => ?_) (fun cq80 => ?_)
                · skip
                  refine lv_aload_n hx hb dX5_note_90 rfl (lv_at hl 1 rfl) ?_
                  refine b_get E hw fw_X5_10 0 0 rfl rfl rfl dX5_note_91 ?_
                  refine b_get E hw fw_X5_176 1 0 rfl rfl rfl dX5_note_94 ?_
                  refine b_get E hw fw_X5_180 3 0 rfl rfl rfl dX5_note_97 ?_
                  refine lv_bipush (v := 6) hx hb dX5_note_100 rfl ?_
                  refine lv_icmp_lt (tgt := 112) hx hb dX5_note_102 rfl (fun cq102 => ?_) (fun cq102 => ?_)
                  · skip
                    have cq102 : zn < 6 := (cv_lt (a := zn) (b := 6) rfl rfl (by omega) (by omega)).mp cq102
                    exact absurd cq102 (by omega)
                  · skip
                    have cq102 : ¬ zn < 6 := fun h => cq102 ((cv_lt (a := zn) (b := 6) rfl rfl (by omega) (by omega)).mpr h)
                    refine lv_aload_n hx hb dX5_note_105 rfl (lv_at hl 1 rfl) ?_
                    refine lv_bipush (v := -4) hx hb dX5_note_106 rfl ?_
                    refine b_callV (is := [0, 4]) (wb := [xO G x0 s0 g0 k0 xt tr sg rf ab bl, aW G rf 3 rfd]) (wb' := [xO G x0 s0 g0 k0 xt tr sg rf ab bl, aW G rf 3 (upd rfd 2 (rfd 2 + 1))]) (As := [.int (-4)]) (rest := []) (st1 := [.int (-4)]) (bs' := [xO G x0 s0 g0 k0 xt tr sg rf ab bl, oS G s0 t0 p0 n0, tW G t0 wo mi bi la (nI n) ki se wd hu bt, nW G n0 np (nI zn), aW G rf 3 (upd rfd 2 (rfd 2 + 1))]) E (c_X5_refuse l G x0 s0 g0 k0 xt tr sg rf (-4) ab bl rfd 2 (by omega) (by decide)) vw_X5_56 hw [0, 4] rfl 0 0 rfl rfl rfl rfl rfl rfl rfl rfl rfl hl.1 rfl rfl (Nat.le_of_ble_eq_true rfl) ⟨Nat.le_of_ble_eq_true rfl, Nat.le_of_ble_eq_true rfl⟩ (Nat.zero_le _) (Nat.zero_le _) dX5_note_108 rfl rfl (fun H locs hw => ?_)
                    exact x_iret E hA rt hw dX5_note_111 (rfl) rfl
                · skip
                  exact absurd cq80 (by decide)
set_option maxHeartbeats 1000000 in
set_option maxRecDepth 100000 in
theorem c_X5_note_ok (l : Launch) (G : GG) (x0 : Nat) (s0 : Nat) (t0 : Nat → Nat) (p0 : Nat → Nat) (n0 : Nat → Nat) (g0 : Nat) (k0 : Nat) (xt : Nat → Nat) (tr : Nat → Nat) (sg : Nat) (rf : Nat) (x : Int32) (y1 : Int32) (y2 : Int32) (y3 : Int32) (y4 : Int32) (y5 : Int32) (y6 : Int32) (ab : Int64) (bl : Int64) (wo : Int32) (mi : Int32) (bi : Int32) (la : Int32) (n : Nat) (ki : Nat → Int32) (se : Nat → Int32) (wd : Nat → Int32) (hu : Nat → Int32) (bt : Nat → Int32) (np : Nat → Int32) (zn : Nat) (gg0 : inI x 0 (nI n - 1) = true) (gg1 : inI y1 0 30 = true) (gg2 : inI y2 0 2 = true) (gg3 : inI y3 0 20 = true) (gg4 : inI y4 0 9 = true) (gg5 : inI y5 0 6 = true) (gg6 : inI y6 0 60 = true) (hzn : zn < 6) : CT l G yX5_note cX5_note 9 (some .int) 2 43 [.ref x0, .int x, .int y1, .int y2, .int y3, .int y4, .int y5, .int y6] ([xO G x0 s0 g0 k0 xt tr sg rf ab bl, oS G s0 t0 p0 n0, tW G t0 wo mi bi la (nI n) ki se wd hu bt, nW G n0 np (nI zn)].flatten) (some (.int (nI (zn + 1)))) ([xO G x0 s0 g0 k0 xt tr sg rf ab bl, oS G s0 t0 p0 n0, tW G t0 wo mi bi la (nI n) ki se wd hu bt, nW G n0 (ntC np zn x y1 y2 y3 y4 y5 y6) (nI (zn + 1))].flatten) := by
  refine CT.mk (own := RX5) (la := [(0, .ref x0), (1, .int x), (2, .int y1), (3, .int y2), (4, .int y3), (5, .int y4), (6, .int y5), (7, .int y6)]) (by decide) rfl (Nat.le_of_ble_eq_true rfl) rfl ?_
  intro p e s m args below meth c A Q E hA hw rt ls hl
  have hx := E.1
  have hb := E.2.1
  refine lv_aload_n hx hb dX5_note_0 rfl (lv_at hl 0 rfl) ?_
  refine lv_iload_n hx hb dX5_note_1 rfl (lv_at hl 1 rfl) ?_
  refine b_callV (is := [0, 1, 2]) (wb := [xO G x0 s0 g0 k0 xt tr sg rf ab bl, oS G s0 t0 p0 n0, tW G t0 wo mi bi la (nI n) ki se wd hu bt]) (wb' := [xO G x0 s0 g0 k0 xt tr sg rf ab bl, oS G s0 t0 p0 n0, tW G t0 wo mi bi la (nI n) ki se wd hu bt]) (As := [.int x]) (rest := []) (st1 := [.int (bI (inI x 0 (nI n - 1)))]) (bs' := [xO G x0 s0 g0 k0 xt tr sg rf ab bl, oS G s0 t0 p0 n0, tW G t0 wo mi bi la (nI n) ki se wd hu bt, nW G n0 np (nI zn)]) E (c_X5_isChild l G x0 s0 t0 p0 n0 g0 k0 xt tr sg rf x ab bl wo mi bi la n ki se wd hu bt) vw_X5_120 hw [0, 1, 2] rfl 0 0 rfl rfl rfl rfl rfl rfl rfl rfl rfl hl.1 rfl rfl (Nat.le_of_ble_eq_true rfl) ⟨Nat.le_of_ble_eq_true rfl, Nat.le_of_ble_eq_true rfl⟩ (Nat.zero_le _) (Nat.zero_le _) dX5_note_2 rfl rfl (fun H locs hw => ?_)
  refine lv_if_eq (tgt := 75) hx hb dX5_note_5 rfl (fun cq5 => ?_) (fun cq5 => ?_)
  · skip
    have cq5 := bI_0.mp cq5
    exact absurd cq5 (by rw [gg0]; decide)
  · skip
    have cq5 := bI_n0.mp cq5
    refine lv_iload_n hx hb dX5_note_8 rfl (lv_at hl 2 rfl) ?_
    refine lv_iconst (v := 0) hx hb dX5_note_9 rfl ?_
    refine lv_bipush (v := 30) hx hb dX5_note_10 rfl ?_
    refine b_callS (is := []) (wb := []) (wb' := []) (As := [.int y1, .int 0, .int 30]) (rest := []) (st1 := [.int (bI (inI y1 0 30))]) (bs' := [xO G x0 s0 g0 k0 xt tr sg rf ab bl, oS G s0 t0 p0 n0, tW G t0 wo mi bi la (nI n) ki se wd hu bt, nW G n0 np (nI zn)]) E (c_X5_within l G y1 0 30) sw_X5_75 hw [] rfl rfl rfl rfl rfl rfl hl.1 rfl rfl (Nat.le_of_ble_eq_true rfl) ⟨Nat.le_of_ble_eq_true rfl, Nat.le_of_ble_eq_true rfl⟩ (Nat.zero_le _) (Nat.zero_le _) dX5_note_12 rfl rfl (fun H locs hw => ?_)
    refine lv_if_eq (tgt := 75) hx hb dX5_note_15 rfl (fun cq15 => ?_) (fun cq15 => ?_)
    · skip
      have cq15 := bI_0.mp cq15
      exact absurd cq15 (by rw [gg1]; decide)
    · skip
      have cq15 := bI_n0.mp cq15
      refine lv_iload_n hx hb dX5_note_18 rfl (lv_at hl 3 rfl) ?_
      refine lv_iconst (v := 0) hx hb dX5_note_19 rfl ?_
      refine lv_iconst (v := 2) hx hb dX5_note_20 rfl ?_
      refine b_callS (is := []) (wb := []) (wb' := []) (As := [.int y2, .int 0, .int 2]) (rest := []) (st1 := [.int (bI (inI y2 0 2))]) (bs' := [xO G x0 s0 g0 k0 xt tr sg rf ab bl, oS G s0 t0 p0 n0, tW G t0 wo mi bi la (nI n) ki se wd hu bt, nW G n0 np (nI zn)]) E (c_X5_within l G y2 0 2) sw_X5_75 hw [] rfl rfl rfl rfl rfl rfl hl.1 rfl rfl (Nat.le_of_ble_eq_true rfl) ⟨Nat.le_of_ble_eq_true rfl, Nat.le_of_ble_eq_true rfl⟩ (Nat.zero_le _) (Nat.zero_le _) dX5_note_21 rfl rfl (fun H locs hw => ?_)
      refine lv_if_eq (tgt := 75) hx hb dX5_note_24 rfl (fun cq24 => ?_) (fun cq24 => ?_)
      · skip
        have cq24 := bI_0.mp cq24
        exact absurd cq24 (by rw [gg2]; decide)
      · skip
        have cq24 := bI_n0.mp cq24
        refine lv_iload hx hb dX5_note_27 (lv_at hl 4 rfl) ?_
        refine lv_iconst (v := 0) hx hb dX5_note_29 rfl ?_
        refine lv_bipush (v := 20) hx hb dX5_note_30 rfl ?_
        refine b_callS (is := []) (wb := []) (wb' := []) (As := [.int y3, .int 0, .int 20]) (rest := []) (st1 := [.int (bI (inI y3 0 20))]) (bs' := [xO G x0 s0 g0 k0 xt tr sg rf ab bl, oS G s0 t0 p0 n0, tW G t0 wo mi bi la (nI n) ki se wd hu bt, nW G n0 np (nI zn)]) E (c_X5_within l G y3 0 20) sw_X5_75 hw [] rfl rfl rfl rfl rfl rfl hl.1 rfl rfl (Nat.le_of_ble_eq_true rfl) ⟨Nat.le_of_ble_eq_true rfl, Nat.le_of_ble_eq_true rfl⟩ (Nat.zero_le _) (Nat.zero_le _) dX5_note_32 rfl rfl (fun H locs hw => ?_)
        refine lv_if_eq (tgt := 75) hx hb dX5_note_35 rfl (fun cq35 => ?_) (fun cq35 => ?_)
        · skip
          have cq35 := bI_0.mp cq35
          exact absurd cq35 (by rw [gg3]; decide)
        · skip
          have cq35 := bI_n0.mp cq35
          refine lv_iload hx hb dX5_note_38 (lv_at hl 5 rfl) ?_
          refine lv_iconst (v := 0) hx hb dX5_note_40 rfl ?_
          refine lv_bipush (v := 9) hx hb dX5_note_41 rfl ?_
          refine b_callS (is := []) (wb := []) (wb' := []) (As := [.int y4, .int 0, .int 9]) (rest := []) (st1 := [.int (bI (inI y4 0 9))]) (bs' := [xO G x0 s0 g0 k0 xt tr sg rf ab bl, oS G s0 t0 p0 n0, tW G t0 wo mi bi la (nI n) ki se wd hu bt, nW G n0 np (nI zn)]) E (c_X5_within l G y4 0 9) sw_X5_75 hw [] rfl rfl rfl rfl rfl rfl hl.1 rfl rfl (Nat.le_of_ble_eq_true rfl) ⟨Nat.le_of_ble_eq_true rfl, Nat.le_of_ble_eq_true rfl⟩ (Nat.zero_le _) (Nat.zero_le _) dX5_note_43 rfl rfl (fun H locs hw => ?_)
          refine lv_if_eq (tgt := 75) hx hb dX5_note_46 rfl (fun cq46 => ?_) (fun cq46 => ?_)
          · skip
            have cq46 := bI_0.mp cq46
            exact absurd cq46 (by rw [gg4]; decide)
          · skip
            have cq46 := bI_n0.mp cq46
            refine lv_iload hx hb dX5_note_49 (lv_at hl 6 rfl) ?_
            refine lv_iconst (v := 0) hx hb dX5_note_51 rfl ?_
            refine lv_bipush (v := 6) hx hb dX5_note_52 rfl ?_
            refine b_callS (is := []) (wb := []) (wb' := []) (As := [.int y5, .int 0, .int 6]) (rest := []) (st1 := [.int (bI (inI y5 0 6))]) (bs' := [xO G x0 s0 g0 k0 xt tr sg rf ab bl, oS G s0 t0 p0 n0, tW G t0 wo mi bi la (nI n) ki se wd hu bt, nW G n0 np (nI zn)]) E (c_X5_within l G y5 0 6) sw_X5_75 hw [] rfl rfl rfl rfl rfl rfl hl.1 rfl rfl (Nat.le_of_ble_eq_true rfl) ⟨Nat.le_of_ble_eq_true rfl, Nat.le_of_ble_eq_true rfl⟩ (Nat.zero_le _) (Nat.zero_le _) dX5_note_54 rfl rfl (fun H locs hw => ?_)
            refine lv_if_eq (tgt := 75) hx hb dX5_note_57 rfl (fun cq57 => ?_) (fun cq57 => ?_)
            · skip
              have cq57 := bI_0.mp cq57
              exact absurd cq57 (by rw [gg5]; decide)
            · skip
              have cq57 := bI_n0.mp cq57
              refine lv_iload hx hb dX5_note_60 (lv_at hl 7 rfl) ?_
              refine lv_iconst (v := 0) hx hb dX5_note_62 rfl ?_
              refine lv_bipush (v := 60) hx hb dX5_note_63 rfl ?_
              refine b_callS (is := []) (wb := []) (wb' := []) (As := [.int y6, .int 0, .int 60]) (rest := []) (st1 := [.int (bI (inI y6 0 60))]) (bs' := [xO G x0 s0 g0 k0 xt tr sg rf ab bl, oS G s0 t0 p0 n0, tW G t0 wo mi bi la (nI n) ki se wd hu bt, nW G n0 np (nI zn)]) E (c_X5_within l G y6 0 60) sw_X5_75 hw [] rfl rfl rfl rfl rfl rfl hl.1 rfl rfl (Nat.le_of_ble_eq_true rfl) ⟨Nat.le_of_ble_eq_true rfl, Nat.le_of_ble_eq_true rfl⟩ (Nat.zero_le _) (Nat.zero_le _) dX5_note_65 rfl rfl (fun H locs hw => ?_)
              refine lv_if_eq (tgt := 75) hx hb dX5_note_68 rfl (fun cq68 => ?_) (fun cq68 => ?_)
              · skip
                have cq68 := bI_0.mp cq68
                exact absurd cq68 (by rw [gg6]; decide)
              · skip
                have cq68 := bI_n0.mp cq68
                refine lv_iconst (v := 1) hx hb dX5_note_71 rfl ?_
                refine lv_goto (tgt := 76) hx hb dX5_note_72 rfl ?_
                refine lv_istore (lv' := [(8, .int 1), (0, .ref x0), (1, .int x), (2, .int y1), (3, .int y2), (4, .int y3), (5, .int y4), (6, .int y5), (7, .int y6)]) hx hb dX5_note_76 hl (by decide) rfl (fun ls hl => ?_)
                refine lv_iload hx hb dX5_note_78 (lv_at hl 0 rfl) ?_
                refine lv_if_ne (tgt := 90) hx hb dX5_note_80 rfl (fun cq80 => ?_) (fun cq80 => ?_)
                · skip
                  refine lv_aload_n hx hb dX5_note_90 rfl (lv_at hl 1 rfl) ?_
                  refine b_get E hw fw_X5_10 0 0 rfl rfl rfl dX5_note_91 ?_
                  refine b_get E hw fw_X5_176 1 0 rfl rfl rfl dX5_note_94 ?_
                  refine b_get E hw fw_X5_180 3 0 rfl rfl rfl dX5_note_97 ?_
                  refine lv_bipush (v := 6) hx hb dX5_note_100 rfl ?_
                  refine lv_icmp_lt (tgt := 112) hx hb dX5_note_102 rfl (fun cq102 => ?_) (fun cq102 => ?_)
                  · skip
                    have cq102 : zn < 6 := (cv_lt (a := zn) (b := 6) rfl rfl (by omega) (by omega)).mp cq102
                    refine lv_aload_n hx hb dX5_note_112 rfl (lv_at hl 1 rfl) ?_
                    refine b_get E hw fw_X5_10 0 0 rfl rfl rfl dX5_note_113 ?_
                    refine b_get E hw fw_X5_176 1 0 rfl rfl rfl dX5_note_116 ?_
                    refine lv_iload_n hx hb dX5_note_119 rfl (lv_at hl 2 rfl) ?_
                    refine lv_iload_n hx hb dX5_note_120 rfl (lv_at hl 3 rfl) ?_
                    refine lv_iload_n hx hb dX5_note_121 rfl (lv_at hl 4 rfl) ?_
                    refine lv_iload hx hb dX5_note_122 (lv_at hl 5 rfl) ?_
                    refine lv_iload hx hb dX5_note_124 (lv_at hl 6 rfl) ?_
                    refine lv_iload hx hb dX5_note_126 (lv_at hl 7 rfl) ?_
                    refine lv_iload hx hb dX5_note_128 (lv_at hl 8 rfl) ?_
                    refine b_callV (is := [3]) (wb := [nW G n0 np (nI zn)]) (wb' := [nW G n0 (ntC np zn x y1 y2 y3 y4 y5 y6) (nI (zn + 1))]) (As := [.int x, .int y1, .int y2, .int y3, .int y4, .int y5, .int y6]) (rest := []) (st1 := [.int (nI (zn + 1))]) (bs' := [xO G x0 s0 g0 k0 xt tr sg rf ab bl, oS G s0 t0 p0 n0, tW G t0 wo mi bi la (nI n) ki se wd hu bt, nW G n0 (ntC np zn x y1 y2 y3 y4 y5 y6) (nI (zn + 1))]) E (c_X0_add l G n0 x y1 y2 y3 y4 y5 y6 np zn (by omega)) vw_X5_183 hw [3] rfl 3 0 rfl rfl rfl rfl rfl rfl (flat1 _) (flat1 _) rfl hl.1 rfl rfl (Nat.le_of_ble_eq_true rfl) ⟨Nat.le_of_ble_eq_true rfl, Nat.le_of_ble_eq_true rfl⟩ (Nat.zero_le _) (Nat.zero_le _) dX5_note_130 rfl rfl (fun H locs hw => ?_)
                    exact x_iret E hA rt hw dX5_note_133 (rfl) rfl
                  · skip
                    have cq102 : ¬ zn < 6 := fun h => cq102 ((cv_lt (a := zn) (b := 6) rfl rfl (by omega) (by omega)).mpr h)
                    exact absurd hzn cq102
                · skip
                  exact absurd cq80 (by decide)
set_option maxHeartbeats 1000000 in
set_option maxRecDepth 100000 in
theorem c_X5_forget (l : Launch) (G : GG) (x0 : Nat) (s0 : Nat) (t0 : Nat → Nat) (p0 : Nat → Nat) (n0 : Nat → Nat) (g0 : Nat) (k0 : Nat) (xt : Nat → Nat) (tr : Nat → Nat) (sg : Nat) (rf : Nat) (ab : Int64) (bl : Int64) (np : Nat → Int32) (zn : Nat) : CT l G yX5_forget cX5_forget 2 (some .int) 0 0 [.ref x0] ([xO G x0 s0 g0 k0 xt tr sg rf ab bl, oS G s0 t0 p0 n0, nW G n0 np (nI zn)].flatten) (some (.int (nI zn))) ([xO G x0 s0 g0 k0 xt tr sg rf ab bl, oS G s0 t0 p0 n0, nW G n0 np 0].flatten) := by
  refine CT.mk (own := RX5) (la := [(0, .ref x0)]) (by decide) rfl (Nat.le_of_ble_eq_true rfl) rfl ?_
  intro p e s m args below meth c A Q E hA hw rt ls hl
  have hx := E.1
  have hb := E.2.1
  refine lv_aload_n hx hb dX5_forget_0 rfl (lv_at hl 0 rfl) ?_
  refine b_get E hw fw_X5_10 0 0 rfl rfl rfl dX5_forget_1 ?_
  refine b_get E hw fw_X5_176 1 0 rfl rfl rfl dX5_forget_4 ?_
  refine b_get E hw fw_X5_180 2 0 rfl rfl rfl dX5_forget_7 ?_
  refine lv_istore_n (lv' := [(1, .int (nI zn)), (0, .ref x0)]) hx hb dX5_forget_10 rfl hl (by decide) rfl (fun ls hl => ?_)
  refine lv_aload_n hx hb dX5_forget_11 rfl (lv_at hl 1 rfl) ?_
  refine b_get E hw fw_X5_10 0 0 rfl rfl rfl dX5_forget_12 ?_
  refine b_get E hw fw_X5_176 1 0 rfl rfl rfl dX5_forget_15 ?_
  refine lv_iconst (v := 0) hx hb dX5_forget_18 rfl ?_
  refine b_put (bs' := [xO G x0 s0 g0 k0 xt tr sg rf ab bl, oS G s0 t0 p0 n0, nW G n0 np 0]) (ty := .int) E hw fw_X5_180 2 0 rfl rfl rfl rfl (by decide +kernel) rfl rfl (Nat.le_of_ble_eq_true rfl) dX5_forget_19 rfl (fun H locs hw => ?_)
  refine lv_iload_n hx hb dX5_forget_22 rfl (lv_at hl 0 rfl) ?_
  exact x_iret E hA rt hw dX5_forget_23 (rfl) rfl
set_option maxHeartbeats 1000000 in
set_option maxRecDepth 100000 in
theorem c_X5_is_bad (l : Launch) (G : GG) (x0 : Nat) (s0 : Nat) (t0 : Nat → Nat) (p0 : Nat → Nat) (n0 : Nat → Nat) (g0 : Nat) (k0 : Nat) (xt : Nat → Nat) (tr : Nat → Nat) (sg : Nat) (rf : Nat) (x : Int32) (ab : Int64) (bl : Int64) (wo : Int32) (mi : Int32) (bi : Int32) (la : Int32) (n : Nat) (ki : Nat → Int32) (se : Nat → Int32) (wd : Nat → Int32) (hu : Nat → Int32) (bt : Nat → Int32) (rfd : Nat → Int32) (h1 : inI x 0 (nI n - 1) = false) : CT l G yX5_is cX5_is 2 (some .int) 2 44 [.ref x0, .int x] ([xO G x0 s0 g0 k0 xt tr sg rf ab bl, oS G s0 t0 p0 n0, tW G t0 wo mi bi la (nI n) ki se wd hu bt, aW G rf 3 rfd].flatten) (some (.int (-2))) ([xO G x0 s0 g0 k0 xt tr sg rf ab bl, oS G s0 t0 p0 n0, tW G t0 wo mi bi la (nI n) ki se wd hu bt, aW G rf 3 (upd rfd 0 (rfd 0 + 1))].flatten) := by
  refine CT.mk (own := RX5) (la := [(0, .ref x0), (1, .int x)]) (by decide) rfl (Nat.le_of_ble_eq_true rfl) rfl ?_
  intro p e s m args below meth c A Q E hA hw rt ls hl
  have hx := E.1
  have hb := E.2.1
  refine lv_aload_n hx hb dX5_is_0 rfl (lv_at hl 0 rfl) ?_
  refine lv_iload_n hx hb dX5_is_1 rfl (lv_at hl 1 rfl) ?_
  refine b_callV (is := [0, 1, 2]) (wb := [xO G x0 s0 g0 k0 xt tr sg rf ab bl, oS G s0 t0 p0 n0, tW G t0 wo mi bi la (nI n) ki se wd hu bt]) (wb' := [xO G x0 s0 g0 k0 xt tr sg rf ab bl, oS G s0 t0 p0 n0, tW G t0 wo mi bi la (nI n) ki se wd hu bt]) (As := [.int x]) (rest := []) (st1 := [.int (bI (inI x 0 (nI n - 1)))]) (bs' := [xO G x0 s0 g0 k0 xt tr sg rf ab bl, oS G s0 t0 p0 n0, tW G t0 wo mi bi la (nI n) ki se wd hu bt, aW G rf 3 rfd]) E (c_X5_isChild l G x0 s0 t0 p0 n0 g0 k0 xt tr sg rf x ab bl wo mi bi la n ki se wd hu bt) vw_X5_120 hw [0, 1, 2] rfl 0 0 rfl rfl rfl rfl rfl rfl rfl rfl rfl hl.1 rfl rfl (Nat.le_of_ble_eq_true rfl) ⟨Nat.le_of_ble_eq_true rfl, Nat.le_of_ble_eq_true rfl⟩ (Nat.zero_le _) (Nat.zero_le _) dX5_is_2 rfl rfl (fun H locs hw => ?_)
  refine lv_if_eq (tgt := 22) hx hb dX5_is_5 rfl (fun cq5 => ?_) (fun cq5 => ?_)
  · skip
    have cq5 := bI_0.mp cq5
    refine lv_aload_n hx hb dX5_is_22 rfl (lv_at hl 0 rfl) ?_
    refine lv_bipush (v := -2) hx hb dX5_is_23 rfl ?_
    refine b_callV (is := [0, 3]) (wb := [xO G x0 s0 g0 k0 xt tr sg rf ab bl, aW G rf 3 rfd]) (wb' := [xO G x0 s0 g0 k0 xt tr sg rf ab bl, aW G rf 3 (upd rfd 0 (rfd 0 + 1))]) (As := [.int (-2)]) (rest := []) (st1 := [.int (-2)]) (bs' := [xO G x0 s0 g0 k0 xt tr sg rf ab bl, oS G s0 t0 p0 n0, tW G t0 wo mi bi la (nI n) ki se wd hu bt, aW G rf 3 (upd rfd 0 (rfd 0 + 1))]) E (c_X5_refuse l G x0 s0 g0 k0 xt tr sg rf (-2) ab bl rfd 0 (by omega) (by decide)) vw_X5_56 hw [0, 3] rfl 0 0 rfl rfl rfl rfl rfl rfl rfl rfl rfl hl.1 rfl rfl (Nat.le_of_ble_eq_true rfl) ⟨Nat.le_of_ble_eq_true rfl, Nat.le_of_ble_eq_true rfl⟩ (Nat.zero_le _) (Nat.zero_le _) dX5_is_25 rfl rfl (fun H locs hw => ?_)
    exact x_iret E hA rt hw dX5_is_28 (rfl) rfl
  · skip
    have cq5 := bI_n0.mp cq5
    exact absurd cq5 (by rw [h1]; decide)
set_option maxHeartbeats 1000000 in
set_option maxRecDepth 100000 in
theorem c_X5_is_ok (l : Launch) (G : GG) (x0 : Nat) (s0 : Nat) (t0 : Nat → Nat) (p0 : Nat → Nat) (n0 : Nat → Nat) (g0 : Nat) (k0 : Nat) (xt : Nat → Nat) (tr : Nat → Nat) (sg : Nat) (rf : Nat) (x : Int32) (ab : Int64) (bl : Int64) (wo : Int32) (mi : Int32) (bi : Int32) (la : Int32) (n : Nat) (ki : Nat → Int32) (se : Nat → Int32) (wd : Nat → Int32) (hu : Nat → Int32) (bt : Nat → Int32) (np : Nat → Int32) (zn : Nat) (h1 : inI x 0 (nI n - 1) = true) (hzn : zn ≤ 6) : CT l G yX5_is cX5_is 2 (some .int) 4 92 [.ref x0, .int x] ([xO G x0 s0 g0 k0 xt tr sg rf ab bl, oS G s0 t0 p0 n0, tW G t0 wo mi bi la (nI n) ki se wd hu bt, nW G n0 np (nI zn)].flatten) (some (.int (koC np x zn))) ([xO G x0 s0 g0 k0 xt tr sg rf ab bl, oS G s0 t0 p0 n0, tW G t0 wo mi bi la (nI n) ki se wd hu bt, nW G n0 np (nI zn)].flatten) := by
  refine CT.mk (own := RX5) (la := [(0, .ref x0), (1, .int x)]) (by decide) rfl (Nat.le_of_ble_eq_true rfl) rfl ?_
  intro p e s m args below meth c A Q E hA hw rt ls hl
  have hx := E.1
  have hb := E.2.1
  refine lv_aload_n hx hb dX5_is_0 rfl (lv_at hl 0 rfl) ?_
  refine lv_iload_n hx hb dX5_is_1 rfl (lv_at hl 1 rfl) ?_
  refine b_callV (is := [0, 1, 2]) (wb := [xO G x0 s0 g0 k0 xt tr sg rf ab bl, oS G s0 t0 p0 n0, tW G t0 wo mi bi la (nI n) ki se wd hu bt]) (wb' := [xO G x0 s0 g0 k0 xt tr sg rf ab bl, oS G s0 t0 p0 n0, tW G t0 wo mi bi la (nI n) ki se wd hu bt]) (As := [.int x]) (rest := []) (st1 := [.int (bI (inI x 0 (nI n - 1)))]) (bs' := [xO G x0 s0 g0 k0 xt tr sg rf ab bl, oS G s0 t0 p0 n0, tW G t0 wo mi bi la (nI n) ki se wd hu bt, nW G n0 np (nI zn)]) E (c_X5_isChild l G x0 s0 t0 p0 n0 g0 k0 xt tr sg rf x ab bl wo mi bi la n ki se wd hu bt) vw_X5_120 hw [0, 1, 2] rfl 0 0 rfl rfl rfl rfl rfl rfl rfl rfl rfl hl.1 rfl rfl (Nat.le_of_ble_eq_true rfl) ⟨Nat.le_of_ble_eq_true rfl, Nat.le_of_ble_eq_true rfl⟩ (Nat.zero_le _) (Nat.zero_le _) dX5_is_2 rfl rfl (fun H locs hw => ?_)
  refine lv_if_eq (tgt := 22) hx hb dX5_is_5 rfl (fun cq5 => ?_) (fun cq5 => ?_)
  · skip
    have cq5 := bI_0.mp cq5
    exact absurd cq5 (by rw [h1]; decide)
  · skip
    have cq5 := bI_n0.mp cq5
    refine lv_aload_n hx hb dX5_is_8 rfl (lv_at hl 0 rfl) ?_
    refine b_get E hw fw_X5_10 0 0 rfl rfl rfl dX5_is_9 ?_
    refine b_get E hw fw_X5_176 1 0 rfl rfl rfl dX5_is_12 ?_
    refine lv_iload_n hx hb dX5_is_15 rfl (lv_at hl 1 rfl) ?_
    refine b_callV (is := [3]) (wb := [nW G n0 np (nI zn)]) (wb' := [nW G n0 np (nI zn)]) (As := [.int x]) (rest := []) (st1 := [.int (koC np x zn)]) (bs' := [xO G x0 s0 g0 k0 xt tr sg rf ab bl, oS G s0 t0 p0 n0, tW G t0 wo mi bi la (nI n) ki se wd hu bt, nW G n0 np (nI zn)]) E (c_X0_kindsOf l G n0 x np zn (by omega)) vw_X5_187 hw [3] rfl 3 0 rfl rfl rfl rfl rfl rfl (flat1 _) (flat1 _) rfl hl.1 rfl rfl (Nat.le_of_ble_eq_true rfl) ⟨Nat.le_of_ble_eq_true rfl, Nat.le_of_ble_eq_true rfl⟩ (Nat.zero_le _) (Nat.zero_le _) dX5_is_16 rfl rfl (fun H locs hw => ?_)
    refine lv_goto (tgt := 28) hx hb dX5_is_19 rfl ?_
    exact x_iret E hA rt hw dX5_is_28 (rfl) rfl
set_option maxHeartbeats 1000000 in
set_option maxRecDepth 100000 in
theorem c_X5_look_bad (l : Launch) (G : GG) (x0 : Nat) (s0 : Nat) (t0 : Nat → Nat) (p0 : Nat → Nat) (n0 : Nat → Nat) (g0 : Nat) (k0 : Nat) (xt : Nat → Nat) (tr : Nat → Nat) (sg : Nat) (rf : Nat) (x : Int32) (ab : Int64) (bl : Int64) (wo : Int32) (mi : Int32) (bi : Int32) (la : Int32) (n : Nat) (ki : Nat → Int32) (se : Nat → Int32) (wd : Nat → Int32) (hu : Nat → Int32) (bt : Nat → Int32) (rfd : Nat → Int32) (h1 : inI x 0 (nI n - 1) = false) : CT l G yX5_look cX5_look 9 (some .int) 2 44 [.ref x0, .int x] ([xO G x0 s0 g0 k0 xt tr sg rf ab bl, oS G s0 t0 p0 n0, tW G t0 wo mi bi la (nI n) ki se wd hu bt, aW G rf 3 rfd].flatten) (some (.int (-2))) ([xO G x0 s0 g0 k0 xt tr sg rf ab bl, oS G s0 t0 p0 n0, tW G t0 wo mi bi la (nI n) ki se wd hu bt, aW G rf 3 (upd rfd 0 (rfd 0 + 1))].flatten) := by
  refine CT.mk (own := RX5) (la := [(0, .ref x0), (1, .int x)]) (by decide) rfl (Nat.le_of_ble_eq_true rfl) rfl ?_
  intro p e s m args below meth c A Q E hA hw rt ls hl
  have hx := E.1
  have hb := E.2.1
  refine lv_aload_n hx hb dX5_look_0 rfl (lv_at hl 0 rfl) ?_
  refine lv_iload_n hx hb dX5_look_1 rfl (lv_at hl 1 rfl) ?_
  refine b_callV (is := [0, 1, 2]) (wb := [xO G x0 s0 g0 k0 xt tr sg rf ab bl, oS G s0 t0 p0 n0, tW G t0 wo mi bi la (nI n) ki se wd hu bt]) (wb' := [xO G x0 s0 g0 k0 xt tr sg rf ab bl, oS G s0 t0 p0 n0, tW G t0 wo mi bi la (nI n) ki se wd hu bt]) (As := [.int x]) (rest := []) (st1 := [.int (bI (inI x 0 (nI n - 1)))]) (bs' := [xO G x0 s0 g0 k0 xt tr sg rf ab bl, oS G s0 t0 p0 n0, tW G t0 wo mi bi la (nI n) ki se wd hu bt, aW G rf 3 rfd]) E (c_X5_isChild l G x0 s0 t0 p0 n0 g0 k0 xt tr sg rf x ab bl wo mi bi la n ki se wd hu bt) vw_X5_120 hw [0, 1, 2] rfl 0 0 rfl rfl rfl rfl rfl rfl rfl rfl rfl hl.1 rfl rfl (Nat.le_of_ble_eq_true rfl) ⟨Nat.le_of_ble_eq_true rfl, Nat.le_of_ble_eq_true rfl⟩ (Nat.zero_le _) (Nat.zero_le _) dX5_look_2 rfl rfl (fun H locs hw => ?_)
  refine lv_if_ne (tgt := 15) hx hb dX5_look_5 rfl (fun cq5 => ?_) (fun cq5 => ?_)
  · skip
    have cq5 := bI_n0.mp cq5
    exact absurd cq5 (by rw [h1]; decide)
  · skip
    have cq5 := bI_0.mp cq5
    refine lv_aload_n hx hb dX5_look_8 rfl (lv_at hl 0 rfl) ?_
    refine lv_bipush (v := -2) hx hb dX5_look_9 rfl ?_
    refine b_callV (is := [0, 3]) (wb := [xO G x0 s0 g0 k0 xt tr sg rf ab bl, aW G rf 3 rfd]) (wb' := [xO G x0 s0 g0 k0 xt tr sg rf ab bl, aW G rf 3 (upd rfd 0 (rfd 0 + 1))]) (As := [.int (-2)]) (rest := []) (st1 := [.int (-2)]) (bs' := [xO G x0 s0 g0 k0 xt tr sg rf ab bl, oS G s0 t0 p0 n0, tW G t0 wo mi bi la (nI n) ki se wd hu bt, aW G rf 3 (upd rfd 0 (rfd 0 + 1))]) E (c_X5_refuse l G x0 s0 g0 k0 xt tr sg rf (-2) ab bl rfd 0 (by omega) (by decide)) vw_X5_56 hw [0, 3] rfl 0 0 rfl rfl rfl rfl rfl rfl rfl rfl rfl hl.1 rfl rfl (Nat.le_of_ble_eq_true rfl) ⟨Nat.le_of_ble_eq_true rfl, Nat.le_of_ble_eq_true rfl⟩ (Nat.zero_le _) (Nat.zero_le _) dX5_look_11 rfl rfl (fun H locs hw => ?_)
    exact x_iret E hA rt hw dX5_look_14 (rfl) rfl
set_option maxHeartbeats 1000000 in
set_option maxRecDepth 100000 in
theorem c_X5_look_none (l : Launch) (G : GG) (x0 : Nat) (s0 : Nat) (t0 : Nat → Nat) (p0 : Nat → Nat) (n0 : Nat → Nat) (g0 : Nat) (k0 : Nat) (xt : Nat → Nat) (tr : Nat → Nat) (sg : Nat) (rf : Nat) (x : Int32) (ab : Int64) (bl : Int64) (wo : Int32) (mi : Int32) (bi : Int32) (la : Int32) (n : Nat) (ki : Nat → Int32) (se : Nat → Int32) (wd : Nat → Int32) (hu : Nat → Int32) (bt : Nat → Int32) (np : Nat → Int32) (zn : Nat) (h1 : inI x 0 (nI n - 1) = true) (hzn : zn ≤ 6) (h2 : koC np x zn = 0) : CT l G yX5_look cX5_look 9 (some .int) 4 92 [.ref x0, .int x] ([xO G x0 s0 g0 k0 xt tr sg rf ab bl, oS G s0 t0 p0 n0, tW G t0 wo mi bi la (nI n) ki se wd hu bt, nW G n0 np (nI zn)].flatten) (some (.int (-1))) ([xO G x0 s0 g0 k0 xt tr sg rf ab bl, oS G s0 t0 p0 n0, tW G t0 wo mi bi la (nI n) ki se wd hu bt, nW G n0 np (nI zn)].flatten) := by
  refine CT.mk (own := RX5) (la := [(0, .ref x0), (1, .int x)]) (by decide) rfl (Nat.le_of_ble_eq_true rfl) rfl ?_
  intro p e s m args below meth c A Q E hA hw rt ls hl
  have hx := E.1
  have hb := E.2.1
  refine lv_aload_n hx hb dX5_look_0 rfl (lv_at hl 0 rfl) ?_
  refine lv_iload_n hx hb dX5_look_1 rfl (lv_at hl 1 rfl) ?_
  refine b_callV (is := [0, 1, 2]) (wb := [xO G x0 s0 g0 k0 xt tr sg rf ab bl, oS G s0 t0 p0 n0, tW G t0 wo mi bi la (nI n) ki se wd hu bt]) (wb' := [xO G x0 s0 g0 k0 xt tr sg rf ab bl, oS G s0 t0 p0 n0, tW G t0 wo mi bi la (nI n) ki se wd hu bt]) (As := [.int x]) (rest := []) (st1 := [.int (bI (inI x 0 (nI n - 1)))]) (bs' := [xO G x0 s0 g0 k0 xt tr sg rf ab bl, oS G s0 t0 p0 n0, tW G t0 wo mi bi la (nI n) ki se wd hu bt, nW G n0 np (nI zn)]) E (c_X5_isChild l G x0 s0 t0 p0 n0 g0 k0 xt tr sg rf x ab bl wo mi bi la n ki se wd hu bt) vw_X5_120 hw [0, 1, 2] rfl 0 0 rfl rfl rfl rfl rfl rfl rfl rfl rfl hl.1 rfl rfl (Nat.le_of_ble_eq_true rfl) ⟨Nat.le_of_ble_eq_true rfl, Nat.le_of_ble_eq_true rfl⟩ (Nat.zero_le _) (Nat.zero_le _) dX5_look_2 rfl rfl (fun H locs hw => ?_)
  refine lv_if_ne (tgt := 15) hx hb dX5_look_5 rfl (fun cq5 => ?_) (fun cq5 => ?_)
  · skip
    have cq5 := bI_n0.mp cq5
    refine lv_aload_n hx hb dX5_look_15 rfl (lv_at hl 0 rfl) ?_
    refine b_get E hw fw_X5_10 0 0 rfl rfl rfl dX5_look_16 ?_
    refine b_get E hw fw_X5_176 1 0 rfl rfl rfl dX5_look_19 ?_
    refine lv_iload_n hx hb dX5_look_22 rfl (lv_at hl 1 rfl) ?_
    refine b_callV (is := [3]) (wb := [nW G n0 np (nI zn)]) (wb' := [nW G n0 np (nI zn)]) (As := [.int x]) (rest := []) (st1 := [.int (koC np x zn)]) (bs' := [xO G x0 s0 g0 k0 xt tr sg rf ab bl, oS G s0 t0 p0 n0, tW G t0 wo mi bi la (nI n) ki se wd hu bt, nW G n0 np (nI zn)]) E (c_X0_kindsOf l G n0 x np zn (by omega)) vw_X5_187 hw [3] rfl 3 0 rfl rfl rfl rfl rfl rfl (flat1 _) (flat1 _) rfl hl.1 rfl rfl (Nat.le_of_ble_eq_true rfl) ⟨Nat.le_of_ble_eq_true rfl, Nat.le_of_ble_eq_true rfl⟩ (Nat.zero_le _) (Nat.zero_le _) dX5_look_23 rfl rfl (fun H locs hw => ?_)
    refine lv_istore_n (lv' := [(2, .int (koC np x zn)), (0, .ref x0), (1, .int x)]) hx hb dX5_look_26 rfl hl (by decide) rfl (fun ls hl => ?_)
    refine lv_iload_n hx hb dX5_look_27 rfl (lv_at hl 0 rfl) ?_
    refine lv_if_ne (tgt := 33) hx hb dX5_look_28 rfl (fun cq28 => ?_) (fun cq28 => ?_)
    · skip
      exact (cq28 h2).elim
    · skip
      refine lv_iconst (v := -1) hx hb dX5_look_31 rfl ?_
      exact x_iret E hA rt hw dX5_look_32 (rfl) rfl
  · skip
    have cq5 := bI_0.mp cq5
    exact absurd cq5 (by rw [h1]; decide)
set_option maxHeartbeats 1000000 in
set_option maxRecDepth 100000 in
theorem c_X5_look_ok (l : Launch) (G : GG) (x0 : Nat) (s0 : Nat) (t0 : Nat → Nat) (p0 : Nat → Nat) (n0 : Nat → Nat) (g0 : Nat) (k0 : Nat) (xt : Nat → Nat) (tr : Nat → Nat) (sg : Nat) (rf : Nat) (x : Int32) (k : Nat) (hv_x : x = nI k) (ab : Int64) (bl : Int64) (wo : Int32) (mi : Int32) (bi : Int32) (la : Int32) (n : Nat) (ki : Nat → Int32) (se : Nat → Int32) (wd : Nat → Int32) (hu : Nat → Int32) (bt : Nat → Int32) (np : Nat → Int32) (zn : Nat) (kds : Int32) (hn : n ≤ 6) (h1 : inI x 0 (nI n - 1) = true) (hk : k < n) (hzn : zn ≤ 6) (hkds : koC np x zn = kds) (h2 : ¬ kds = 0) : CT l G yX5_look cX5_look 9 (some .int) 4 96 [.ref x0, .int x] ([xO G x0 s0 g0 k0 xt tr sg rf ab bl, oS G s0 t0 p0 n0, tW G t0 wo mi bi la (nI n) ki se wd hu bt, nW G n0 np (nI zn)].flatten) (some (.int ((lkL kds (hu k) (wd k) 3).2))) ([xO G x0 s0 g0 k0 xt tr sg rf ab bl, oS G s0 t0 p0 n0, tW G t0 wo mi bi la (nI n) ki se wd hu bt, nW G n0 np (nI zn)].flatten) := by
  refine CT.mk (own := RX5) (la := [(0, .ref x0), (1, .int x)]) (by decide) rfl (Nat.le_of_ble_eq_true rfl) rfl ?_
  intro p e s m args below meth c A Q E hA hw rt ls hl
  have hx := E.1
  have hb := E.2.1
  refine lv_aload_n hx hb dX5_look_0 rfl (lv_at hl 0 rfl) ?_
  refine lv_iload_n hx hb dX5_look_1 rfl (lv_at hl 1 rfl) ?_
  refine b_callV (is := [0, 1, 2]) (wb := [xO G x0 s0 g0 k0 xt tr sg rf ab bl, oS G s0 t0 p0 n0, tW G t0 wo mi bi la (nI n) ki se wd hu bt]) (wb' := [xO G x0 s0 g0 k0 xt tr sg rf ab bl, oS G s0 t0 p0 n0, tW G t0 wo mi bi la (nI n) ki se wd hu bt]) (As := [.int x]) (rest := []) (st1 := [.int (bI (inI x 0 (nI n - 1)))]) (bs' := [xO G x0 s0 g0 k0 xt tr sg rf ab bl, oS G s0 t0 p0 n0, tW G t0 wo mi bi la (nI n) ki se wd hu bt, nW G n0 np (nI zn)]) E (c_X5_isChild l G x0 s0 t0 p0 n0 g0 k0 xt tr sg rf x ab bl wo mi bi la n ki se wd hu bt) vw_X5_120 hw [0, 1, 2] rfl 0 0 rfl rfl rfl rfl rfl rfl rfl rfl rfl hl.1 rfl rfl (Nat.le_of_ble_eq_true rfl) ⟨Nat.le_of_ble_eq_true rfl, Nat.le_of_ble_eq_true rfl⟩ (Nat.zero_le _) (Nat.zero_le _) dX5_look_2 rfl rfl (fun H locs hw => ?_)
  refine lv_if_ne (tgt := 15) hx hb dX5_look_5 rfl (fun cq5 => ?_) (fun cq5 => ?_)
  · skip
    have cq5 := bI_n0.mp cq5
    refine lv_aload_n hx hb dX5_look_15 rfl (lv_at hl 0 rfl) ?_
    refine b_get E hw fw_X5_10 0 0 rfl rfl rfl dX5_look_16 ?_
    refine b_get E hw fw_X5_176 1 0 rfl rfl rfl dX5_look_19 ?_
    refine lv_iload_n hx hb dX5_look_22 rfl (lv_at hl 1 rfl) ?_
    refine b_callV (is := [3]) (wb := [nW G n0 np (nI zn)]) (wb' := [nW G n0 np (nI zn)]) (As := [.int x]) (rest := []) (st1 := [.int (koC np x zn)]) (bs' := [xO G x0 s0 g0 k0 xt tr sg rf ab bl, oS G s0 t0 p0 n0, tW G t0 wo mi bi la (nI n) ki se wd hu bt, nW G n0 np (nI zn)]) E (c_X0_kindsOf l G n0 x np zn (by omega)) vw_X5_187 hw [3] rfl 3 0 rfl rfl rfl rfl rfl rfl (flat1 _) (flat1 _) rfl hl.1 rfl rfl (Nat.le_of_ble_eq_true rfl) ⟨Nat.le_of_ble_eq_true rfl, Nat.le_of_ble_eq_true rfl⟩ (Nat.zero_le _) (Nat.zero_le _) dX5_look_23 rfl rfl (fun H locs hw => ?_)
    refine x_topi (y := kds) (hkds) ?_
    refine lv_istore_n (lv' := [(2, .int kds), (0, .ref x0), (1, .int x)]) hx hb dX5_look_26 rfl hl (by decide) rfl (fun ls hl => ?_)
    refine lv_iload_n hx hb dX5_look_27 rfl (lv_at hl 0 rfl) ?_
    refine lv_if_ne (tgt := 33) hx hb dX5_look_28 rfl (fun cq28 => ?_) (fun cq28 => ?_)
    · skip
      refine lv_iconst (v := -1) hx hb dX5_look_33 rfl ?_
      refine lv_istore_n (lv' := [(3, .int (-1)), (2, .int kds), (0, .ref x0), (1, .int x)]) hx hb dX5_look_34 rfl hl (by decide) rfl (fun ls hl => ?_)
      refine lv_bipush (v := 7) hx hb dX5_look_35 rfl ?_
      refine lv_istore (lv' := [(4, .int 7), (3, .int (-1)), (2, .int kds), (0, .ref x0), (1, .int x)]) hx hb dX5_look_37 hl (by decide) rfl (fun ls hl => ?_)
      refine lv_iconst (v := 0) hx hb dX5_look_39 rfl ?_
      refine lv_istore (lv' := [(5, .int 0), (4, .int 7), (3, .int (-1)), (2, .int kds), (0, .ref x0), (1, .int x)]) hx hb dX5_look_40 hl (by decide) rfl (fun ls hl => ?_)
      have lp42 : ∀ (fuel : Nat), ∀ (q : Nat) (best : Int32) (few : Int32) (hq : q ≤ 3) (hiv : (few, best) = lkL kds (hu k) (wd k) q), (3 - q) < fuel → ∀ (H : Heap) (locs : List Loc) (ls : Array Slot), Bd G A s H locs ([xO G x0 s0 g0 k0 xt tr sg rf ab bl, oS G s0 t0 p0 n0, tW G t0 wo mi bi la (nI n) ki se wd hu bt, nW G n0 np (nI zn)]) → lv_has ls 9 [(0, .ref x0), (1, .int x), (2, .int kds), (3, .int best), (4, .int few), (5, .int (nI q))] → W p l e (rmx 4 96) s m args below meth c H locs 0 0 Q (F0 m 42 ls []) := by
        intro fuel
        induction fuel with
        | zero => intro q best few hq hiv hfu; exact absurd hfu (Nat.not_lt_zero _)
        | succ fuel ih42 =>
          intro q best few hq hiv hfu H locs ls hw hl
          refine lv_iload hx hb dX5_look_42 (lv_at hl 5 rfl) ?_
          refine lv_iconst (v := 2) hx hb dX5_look_44 rfl ?_
          refine lv_icmp_gt (tgt := 146) hx hb dX5_look_45 rfl (fun cq45 => ?_) (fun cq45 => ?_)
          · skip
            have cq45 : 2 < q := (cv_lt (a := 2) (b := q) rfl rfl (by omega) (by omega)).mp cq45
            refine lv_iload_n hx hb dX5_look_146 rfl (lv_at hl 3 rfl) ?_
            exact x_iret E hA rt hw dX5_look_147 (by have e9 : q = 3 := (by omega); rw [e9] at hiv; rw [← hiv]) rfl
          · skip
            have cq45 : ¬ 2 < q := fun h => cq45 ((cv_lt (a := 2) (b := q) rfl rfl (by omega) (by omega)).mpr h)
            refine lv_iconst (v := 0) hx hb dX5_look_48 rfl ?_
            refine lv_istore (lv' := [(6, .int 0), (0, .ref x0), (1, .int x), (2, .int kds), (3, .int best), (4, .int few), (5, .int (nI q))]) hx hb dX5_look_49 hl (by decide) rfl (fun ls hl => ?_)
            have lp51 : ∀ (fuel : Nat), ∀ (tq : Nat) (be2 : Int32) (fe2 : Int32) (htq : tq ≤ 3) (hiv2 : (fe2, be2) = lkT kds (hu k) (wd k) q tq (few, best)), (3 - tq) < fuel → ∀ (H : Heap) (locs : List Loc) (ls : Array Slot), Bd G A s H locs ([xO G x0 s0 g0 k0 xt tr sg rf ab bl, oS G s0 t0 p0 n0, tW G t0 wo mi bi la (nI n) ki se wd hu bt, nW G n0 np (nI zn)]) → lv_has ls 9 [(0, .ref x0), (1, .int x), (2, .int kds), (3, .int be2), (4, .int fe2), (5, .int (nI q)), (6, .int (nI tq))] → W p l e (rmx 4 96) s m args below meth c H locs 0 0 Q (F0 m 51 ls []) := by
              intro fuel
              induction fuel with
              | zero => intro tq be2 fe2 htq hiv2 hfu; exact absurd hfu (Nat.not_lt_zero _)
              | succ fuel ih51 =>
                intro tq be2 fe2 htq hiv2 hfu H locs ls hw hl
                refine lv_iload hx hb dX5_look_51 (lv_at hl 6 rfl) ?_
                refine lv_iconst (v := 2) hx hb dX5_look_53 rfl ?_
                refine lv_icmp_gt (tgt := 140) hx hb dX5_look_54 rfl (fun cq54 => ?_) (fun cq54 => ?_)
                · skip
                  have cq54 : 2 < tq := (cv_lt (a := 2) (b := tq) rfl rfl (by omega) (by omega)).mp cq54
                  refine lv_iinc (v := nI (q + 1)) (lv' := [(5, .int (nI (q + 1))), (0, .ref x0), (1, .int x), (2, .int kds), (3, .int be2), (4, .int fe2), (6, .int (nI tq))]) hx hb dX5_look_140 hl (k := 5) rfl (nI_add _ 1) (by decide) rfl (fun ls hl => ?_)
                  refine lv_goto (tgt := 42) hx hb dX5_look_143 rfl ?_
                  exact ih42 (q + 1) be2 fe2 (by omega) (by rw [lkL, ← hiv, hiv2, show tq = 3 by omega]) (by omega) _ _ _ hw (lv_sub hl [1, 2, 3, 4, 5, 0] rfl)
                · skip
                  have cq54 : ¬ 2 < tq := fun h => cq54 ((cv_lt (a := 2) (b := tq) rfl rfl (by omega) (by omega)).mpr h)
                  refine lv_iconst (v := 0) hx hb dX5_look_57 rfl ?_
                  refine lv_istore (lv' := [(7, .int 0), (0, .ref x0), (1, .int x), (2, .int kds), (3, .int be2), (4, .int fe2), (5, .int (nI q)), (6, .int (nI tq))]) hx hb dX5_look_58 hl (by decide) rfl (fun ls hl => ?_)
                  have lp60 : ∀ (fuel : Nat), ∀ (bq : Nat) (be3 : Int32) (fe3 : Int32) (hbq : bq ≤ 3) (hiv3 : (fe3, be3) = lkB kds (hu k) (wd k) q tq bq (fe2, be2)), (3 - bq) < fuel → ∀ (H : Heap) (locs : List Loc) (ls : Array Slot), Bd G A s H locs ([xO G x0 s0 g0 k0 xt tr sg rf ab bl, oS G s0 t0 p0 n0, tW G t0 wo mi bi la (nI n) ki se wd hu bt, nW G n0 np (nI zn)]) → lv_has ls 9 [(0, .ref x0), (1, .int x), (2, .int kds), (3, .int be3), (4, .int fe3), (5, .int (nI q)), (6, .int (nI tq)), (7, .int (nI bq))] → W p l e (rmx 4 96) s m args below meth c H locs 0 0 Q (F0 m 60 ls []) := by
                    intro fuel
                    induction fuel with
                    | zero => intro bq be3 fe3 hbq hiv3 hfu; exact absurd hfu (Nat.not_lt_zero _)
                    | succ fuel ih60 =>
                      intro bq be3 fe3 hbq hiv3 hfu H locs ls hw hl
                      refine lv_iload hx hb dX5_look_60 (lv_at hl 7 rfl) ?_
                      refine lv_iconst (v := 2) hx hb dX5_look_62 rfl ?_
                      refine lv_icmp_gt (tgt := 134) hx hb dX5_look_63 rfl (fun cq63 => ?_) (fun cq63 => ?_)
                      · skip
                        have cq63 : 2 < bq := (cv_lt (a := 2) (b := bq) rfl rfl (by omega) (by omega)).mp cq63
                        refine lv_iinc (v := nI (tq + 1)) (lv' := [(6, .int (nI (tq + 1))), (0, .ref x0), (1, .int x), (2, .int kds), (3, .int be3), (4, .int fe3), (5, .int (nI q)), (7, .int (nI bq))]) hx hb dX5_look_134 hl (k := 6) rfl (nI_add _ 1) (by decide) rfl (fun ls hl => ?_)
                        refine lv_goto (tgt := 51) hx hb dX5_look_137 rfl ?_
                        exact ih51 (tq + 1) be3 fe3 (by omega) (by rw [lkT, ← hiv2, hiv3, show bq = 3 by omega]) (by omega) _ _ _ hw (lv_sub hl [1, 2, 3, 4, 5, 6, 0] rfl)
                      · skip
                        have cq63 : ¬ 2 < bq := fun h => cq63 ((cv_lt (a := 2) (b := bq) rfl rfl (by omega) (by omega)).mpr h)
                        refine lv_iload_n hx hb dX5_look_66 rfl (lv_at hl 2 rfl) ?_
                        refine lv_aload_n hx hb dX5_look_67 rfl (lv_at hl 0 rfl) ?_
                        refine b_get E hw fw_X5_10 0 0 rfl rfl rfl dX5_look_68 ?_
                        refine b_get E hw fw_X5_60 1 0 rfl rfl rfl dX5_look_71 ?_
                        refine b_get E hw fw_X5_190 2 0 rfl rfl rfl dX5_look_74 ?_
                        refine lv_iload_n hx hb dX5_look_77 rfl (lv_at hl 1 rfl) ?_
                        refine b_iald E hw 2 4 rfl rfl k (hv_x) (by omega) (by omega) dX5_look_78 ?_
                        refine lv_iload hx hb dX5_look_79 (lv_at hl 6 rfl) ?_
                        refine lv_aload_n hx hb dX5_look_81 rfl (lv_at hl 0 rfl) ?_
                        refine b_get E hw fw_X5_10 0 0 rfl rfl rfl dX5_look_82 ?_
                        refine b_get E hw fw_X5_60 1 0 rfl rfl rfl dX5_look_85 ?_
                        refine b_get E hw fw_X5_173 2 0 rfl rfl rfl dX5_look_88 ?_
                        refine lv_iload_n hx hb dX5_look_91 rfl (lv_at hl 1 rfl) ?_
                        refine b_iald E hw 2 3 rfl rfl k (hv_x) (by omega) (by omega) dX5_look_92 ?_
                        refine lv_iload hx hb dX5_look_93 (lv_at hl 7 rfl) ?_
                        refine lv_iload hx hb dX5_look_95 (lv_at hl 5 rfl) ?_
                        refine b_callS (is := []) (wb := []) (wb' := []) (As := [.int kds, .int (hu k), .int (nI tq), .int (wd k), .int (nI bq), .int (nI q)]) (rest := []) (st1 := [.int (alX kds (hu k) (nI tq) (wd k) (nI bq) (nI q) 6)]) (bs' := [xO G x0 s0 g0 k0 xt tr sg rf ab bl, oS G s0 t0 p0 n0, tW G t0 wo mi bi la (nI n) ki se wd hu bt, nW G n0 np (nI zn)]) E (c_X5_mostAlike l G kds (hu k) (nI tq) (wd k) (nI bq) (nI q)) sw_X5_193 hw [] rfl rfl rfl rfl rfl rfl hl.1 rfl rfl (Nat.le_of_ble_eq_true rfl) ⟨Nat.le_of_ble_eq_true rfl, Nat.le_of_ble_eq_true rfl⟩ (Nat.zero_le _) (Nat.zero_le _) dX5_look_97 rfl rfl (fun H locs hw => ?_)
                        refine lv_istore (lv' := [(8, .int (alX kds (hu k) (nI tq) (wd k) (nI bq) (nI q) 6)), (0, .ref x0), (1, .int x), (2, .int kds), (3, .int be3), (4, .int fe3), (5, .int (nI q)), (6, .int (nI tq)), (7, .int (nI bq))]) hx hb dX5_look_100 hl (by decide) rfl (fun ls hl => ?_)
                        refine lv_iload hx hb dX5_look_102 (lv_at hl 0 rfl) ?_
                        refine lv_iload hx hb dX5_look_104 (lv_at hl 5 rfl) ?_
                        refine lv_icmp_ge (tgt := 128) hx hb dX5_look_106 rfl (fun cq106 => ?_) (fun cq106 => ?_)
                        · skip
                          refine lv_iinc (v := nI (bq + 1)) (lv' := [(7, .int (nI (bq + 1))), (8, .int (alX kds (hu k) (nI tq) (wd k) (nI bq) (nI q) 6)), (0, .ref x0), (1, .int x), (2, .int kds), (3, .int be3), (4, .int fe3), (5, .int (nI q)), (6, .int (nI tq))]) hx hb dX5_look_128 hl (k := 8) rfl (nI_add _ 1) (by decide) rfl (fun ls hl => ?_)
                          refine lv_goto (tgt := 60) hx hb dX5_look_131 rfl ?_
                          exact ih60 (bq + 1) be3 fe3 (by omega) (by rw [lkB, ← hiv3]; exact (if_neg (Int32.not_lt.mpr cq106)).symm) (by omega) _ _ _ hw (lv_sub hl [2, 3, 4, 5, 6, 7, 8, 0] rfl)
                        · skip
                          refine lv_iload hx hb dX5_look_109 (lv_at hl 0 rfl) ?_
                          refine lv_istore (lv' := [(4, .int (alX kds (hu k) (nI tq) (wd k) (nI bq) (nI q) 6)), (8, .int (alX kds (hu k) (nI tq) (wd k) (nI bq) (nI q) 6)), (0, .ref x0), (1, .int x), (2, .int kds), (3, .int be3), (5, .int (nI q)), (6, .int (nI tq)), (7, .int (nI bq))]) hx hb dX5_look_111 hl (by decide) rfl (fun ls hl => ?_)
                          refine lv_bipush (v := 100) hx hb dX5_look_113 rfl ?_
                          refine lv_iload hx hb dX5_look_115 (lv_at hl 6 rfl) ?_
                          refine lv_imul hx hb dX5_look_117 ?_
                          refine lv_bipush (v := 10) hx hb dX5_look_118 rfl ?_
                          refine lv_iload hx hb dX5_look_120 (lv_at hl 7 rfl) ?_
                          refine lv_imul hx hb dX5_look_122 ?_
                          refine lv_iadd hx hb dX5_look_123 ?_
                          refine lv_iload hx hb dX5_look_124 (lv_at hl 8 rfl) ?_
                          refine lv_iadd hx hb dX5_look_126 ?_
                          refine lv_istore_n (lv' := [(3, .int (((100 * (nI q)) + (10 * (nI tq))) + (nI bq))), (4, .int (alX kds (hu k) (nI tq) (wd k) (nI bq) (nI q) 6)), (8, .int (alX kds (hu k) (nI tq) (wd k) (nI bq) (nI q) 6)), (0, .ref x0), (1, .int x), (2, .int kds), (5, .int (nI q)), (6, .int (nI tq)), (7, .int (nI bq))]) hx hb dX5_look_127 rfl hl (by decide) rfl (fun ls hl => ?_)
                          refine lv_iinc (v := nI (bq + 1)) (lv' := [(7, .int (nI (bq + 1))), (3, .int (((100 * (nI q)) + (10 * (nI tq))) + (nI bq))), (4, .int (alX kds (hu k) (nI tq) (wd k) (nI bq) (nI q) 6)), (8, .int (alX kds (hu k) (nI tq) (wd k) (nI bq) (nI q) 6)), (0, .ref x0), (1, .int x), (2, .int kds), (5, .int (nI q)), (6, .int (nI tq))]) hx hb dX5_look_128 hl (k := 8) rfl (nI_add _ 1) (by decide) rfl (fun ls hl => ?_)
                          refine lv_goto (tgt := 60) hx hb dX5_look_131 rfl ?_
                          exact ih60 (bq + 1) (((100 * (nI q)) + (10 * (nI tq))) + (nI bq)) (alX kds (hu k) (nI tq) (wd k) (nI bq) (nI q) 6) (by omega) (by rw [lkB, ← hiv3]; exact (if_pos (Int32.not_le.mp cq106)).symm) (by omega) _ _ _ hw (lv_sub hl [4, 5, 6, 1, 2, 7, 8, 0] rfl)
                  exact lp60 (3 - 0 + 1) 0 be2 fe2 (by omega) (rfl) (by omega) _ _ _ hw (lv_sub hl [1, 2, 3, 4, 5, 6, 7, 0] rfl)
            exact lp51 (3 - 0 + 1) 0 best few (by omega) (rfl) (by omega) _ _ _ hw (lv_sub hl [1, 2, 3, 4, 5, 6, 0] rfl)
      exact lp42 (3 - 0 + 1) 0 (-1) 7 (by omega) (rfl) (by omega) _ _ _ hw (lv_sub hl [4, 5, 3, 2, 1, 0] rfl)
    · skip
      exact (h2 cq28).elim
  · skip
    have cq5 := bI_0.mp cq5
    exact absurd cq5 (by rw [h1]; decide)
set_option maxHeartbeats 1000000 in
set_option maxRecDepth 100000 in
theorem c_X5_who_bad (l : Launch) (G : GG) (x0 : Nat) (s0 : Nat) (t0 : Nat → Nat) (p0 : Nat → Nat) (n0 : Nat → Nat) (g0 : Nat) (k0 : Nat) (xt : Nat → Nat) (tr : Nat → Nat) (sg : Nat) (rf : Nat) (x : Int32) (ab : Int64) (bl : Int64) (wo : Int32) (mi : Int32) (bi : Int32) (la : Int32) (n : Nat) (ki : Nat → Int32) (se : Nat → Int32) (wd : Nat → Int32) (hu : Nat → Int32) (bt : Nat → Int32) (rfd : Nat → Int32) (h1 : inI x 0 (nI n - 1) = false) : CT l G yX5_who cX5_who 4 (some .int) 2 44 [.ref x0, .int x] ([xO G x0 s0 g0 k0 xt tr sg rf ab bl, oS G s0 t0 p0 n0, tW G t0 wo mi bi la (nI n) ki se wd hu bt, aW G rf 3 rfd].flatten) (some (.int (-2))) ([xO G x0 s0 g0 k0 xt tr sg rf ab bl, oS G s0 t0 p0 n0, tW G t0 wo mi bi la (nI n) ki se wd hu bt, aW G rf 3 (upd rfd 0 (rfd 0 + 1))].flatten) := by
  refine CT.mk (own := RX5) (la := [(0, .ref x0), (1, .int x)]) (by decide) rfl (Nat.le_of_ble_eq_true rfl) rfl ?_
  intro p e s m args below meth c A Q E hA hw rt ls hl
  have hx := E.1
  have hb := E.2.1
  refine lv_aload_n hx hb dX5_who_0 rfl (lv_at hl 0 rfl) ?_
  refine lv_iload_n hx hb dX5_who_1 rfl (lv_at hl 1 rfl) ?_
  refine b_callV (is := [0, 1, 2]) (wb := [xO G x0 s0 g0 k0 xt tr sg rf ab bl, oS G s0 t0 p0 n0, tW G t0 wo mi bi la (nI n) ki se wd hu bt]) (wb' := [xO G x0 s0 g0 k0 xt tr sg rf ab bl, oS G s0 t0 p0 n0, tW G t0 wo mi bi la (nI n) ki se wd hu bt]) (As := [.int x]) (rest := []) (st1 := [.int (bI (inI x 0 (nI n - 1)))]) (bs' := [xO G x0 s0 g0 k0 xt tr sg rf ab bl, oS G s0 t0 p0 n0, tW G t0 wo mi bi la (nI n) ki se wd hu bt, aW G rf 3 rfd]) E (c_X5_isChild l G x0 s0 t0 p0 n0 g0 k0 xt tr sg rf x ab bl wo mi bi la n ki se wd hu bt) vw_X5_120 hw [0, 1, 2] rfl 0 0 rfl rfl rfl rfl rfl rfl rfl rfl rfl hl.1 rfl rfl (Nat.le_of_ble_eq_true rfl) ⟨Nat.le_of_ble_eq_true rfl, Nat.le_of_ble_eq_true rfl⟩ (Nat.zero_le _) (Nat.zero_le _) dX5_who_2 rfl rfl (fun H locs hw => ?_)
  refine lv_if_ne (tgt := 15) hx hb dX5_who_5 rfl (fun cq5 => ?_) (fun cq5 => ?_)
  · skip
    have cq5 := bI_n0.mp cq5
    exact absurd cq5 (by rw [h1]; decide)
  · skip
    have cq5 := bI_0.mp cq5
    refine lv_aload_n hx hb dX5_who_8 rfl (lv_at hl 0 rfl) ?_
    refine lv_bipush (v := -2) hx hb dX5_who_9 rfl ?_
    refine b_callV (is := [0, 3]) (wb := [xO G x0 s0 g0 k0 xt tr sg rf ab bl, aW G rf 3 rfd]) (wb' := [xO G x0 s0 g0 k0 xt tr sg rf ab bl, aW G rf 3 (upd rfd 0 (rfd 0 + 1))]) (As := [.int (-2)]) (rest := []) (st1 := [.int (-2)]) (bs' := [xO G x0 s0 g0 k0 xt tr sg rf ab bl, oS G s0 t0 p0 n0, tW G t0 wo mi bi la (nI n) ki se wd hu bt, aW G rf 3 (upd rfd 0 (rfd 0 + 1))]) E (c_X5_refuse l G x0 s0 g0 k0 xt tr sg rf (-2) ab bl rfd 0 (by omega) (by decide)) vw_X5_56 hw [0, 3] rfl 0 0 rfl rfl rfl rfl rfl rfl rfl rfl rfl hl.1 rfl rfl (Nat.le_of_ble_eq_true rfl) ⟨Nat.le_of_ble_eq_true rfl, Nat.le_of_ble_eq_true rfl⟩ (Nat.zero_le _) (Nat.zero_le _) dX5_who_11 rfl rfl (fun H locs hw => ?_)
    exact x_iret E hA rt hw dX5_who_14 (rfl) rfl
set_option maxHeartbeats 1000000 in
set_option maxRecDepth 100000 in
theorem c_X5_who_ok (l : Launch) (G : GG) (x0 : Nat) (s0 : Nat) (t0 : Nat → Nat) (p0 : Nat → Nat) (n0 : Nat → Nat) (g0 : Nat) (k0 : Nat) (xt : Nat → Nat) (tr : Nat → Nat) (sg : Nat) (rf : Nat) (x : Int32) (ab : Int64) (bl : Int64) (wo : Int32) (mi : Int32) (bi : Int32) (la : Int32) (n : Nat) (ki : Nat → Int32) (se : Nat → Int32) (wd : Nat → Int32) (hu : Nat → Int32) (bt : Nat → Int32) (hn : n ≤ 6) (h1 : inI x 0 (nI n - 1) = true) : CT l G yX5_who cX5_who 4 (some .int) 2 44 [.ref x0, .int x] ([xO G x0 s0 g0 k0 xt tr sg rf ab bl, oS G s0 t0 p0 n0, tW G t0 wo mi bi la (nI n) ki se wd hu bt].flatten) (some (.int (btS (fun j => decide (whm se n (se j) = x)) n))) ([xO G x0 s0 g0 k0 xt tr sg rf ab bl, oS G s0 t0 p0 n0, tW G t0 wo mi bi la (nI n) ki se wd hu bt].flatten) := by
  refine CT.mk (own := RX5) (la := [(0, .ref x0), (1, .int x)]) (by decide) rfl (Nat.le_of_ble_eq_true rfl) rfl ?_
  intro p e s m args below meth c A Q E hA hw rt ls hl
  have hx := E.1
  have hb := E.2.1
  refine lv_aload_n hx hb dX5_who_0 rfl (lv_at hl 0 rfl) ?_
  refine lv_iload_n hx hb dX5_who_1 rfl (lv_at hl 1 rfl) ?_
  refine b_callV (is := [0, 1, 2]) (wb := [xO G x0 s0 g0 k0 xt tr sg rf ab bl, oS G s0 t0 p0 n0, tW G t0 wo mi bi la (nI n) ki se wd hu bt]) (wb' := [xO G x0 s0 g0 k0 xt tr sg rf ab bl, oS G s0 t0 p0 n0, tW G t0 wo mi bi la (nI n) ki se wd hu bt]) (As := [.int x]) (rest := []) (st1 := [.int (bI (inI x 0 (nI n - 1)))]) (bs' := [xO G x0 s0 g0 k0 xt tr sg rf ab bl, oS G s0 t0 p0 n0, tW G t0 wo mi bi la (nI n) ki se wd hu bt]) E (c_X5_isChild l G x0 s0 t0 p0 n0 g0 k0 xt tr sg rf x ab bl wo mi bi la n ki se wd hu bt) vw_X5_120 hw [0, 1, 2] rfl 0 0 rfl rfl rfl rfl rfl rfl rfl rfl rfl hl.1 rfl rfl (Nat.le_of_ble_eq_true rfl) ⟨Nat.le_of_ble_eq_true rfl, Nat.le_of_ble_eq_true rfl⟩ (Nat.zero_le _) (Nat.zero_le _) dX5_who_2 rfl rfl (fun H locs hw => ?_)
  refine lv_if_ne (tgt := 15) hx hb dX5_who_5 rfl (fun cq5 => ?_) (fun cq5 => ?_)
  · skip
    have cq5 := bI_n0.mp cq5
    refine lv_iconst (v := 0) hx hb dX5_who_15 rfl ?_
    refine lv_istore_n (lv' := [(2, .int 0), (0, .ref x0), (1, .int x)]) hx hb dX5_who_16 rfl hl (by decide) rfl (fun ls hl => ?_)
    refine lv_iconst (v := 0) hx hb dX5_who_17 rfl ?_
    refine lv_istore_n (lv' := [(3, .int 0), (2, .int 0), (0, .ref x0), (1, .int x)]) hx hb dX5_who_18 rfl hl (by decide) rfl (fun ls hl => ?_)
    have lp19 : ∀ (fuel : Nat), ∀ (q : Nat) (acc : Int32) (hq : q ≤ n) (hiv : acc = btS (fun j => decide (whm se n (se j) = x)) q), (n - q) < fuel → ∀ (H : Heap) (locs : List Loc) (ls : Array Slot), Bd G A s H locs ([xO G x0 s0 g0 k0 xt tr sg rf ab bl, oS G s0 t0 p0 n0, tW G t0 wo mi bi la (nI n) ki se wd hu bt]) → lv_has ls 4 [(0, .ref x0), (1, .int x), (2, .int acc), (3, .int (nI q))] → W p l e (rmx 2 44) s m args below meth c H locs 0 0 Q (F0 m 19 ls []) := by
      intro fuel
      induction fuel with
      | zero => intro q acc hq hiv hfu; exact absurd hfu (Nat.not_lt_zero _)
      | succ fuel ih19 =>
        intro q acc hq hiv hfu H locs ls hw hl
        refine lv_iload_n hx hb dX5_who_19 rfl (lv_at hl 3 rfl) ?_
        refine lv_aload_n hx hb dX5_who_20 rfl (lv_at hl 0 rfl) ?_
        refine b_get E hw fw_X5_10 0 0 rfl rfl rfl dX5_who_21 ?_
        refine b_get E hw fw_X5_60 1 0 rfl rfl rfl dX5_who_24 ?_
        refine b_get E hw fw_X5_63 2 0 rfl rfl rfl dX5_who_27 ?_
        refine lv_icmp_ge (tgt := 60) hx hb dX5_who_30 rfl (fun cq30 => ?_) (fun cq30 => ?_)
        · skip
          have cq30 : n ≤ q := (cv_le (a := n) (b := q) rfl rfl (by omega) (by omega)).mp cq30
          refine lv_iload_n hx hb dX5_who_60 rfl (lv_at hl 2 rfl) ?_
          exact x_iret E hA rt hw dX5_who_61 (by rw [hiv, show q = n by omega]) rfl
        · skip
          have cq30 : ¬ n ≤ q := fun h => cq30 ((cv_le (a := n) (b := q) rfl rfl (by omega) (by omega)).mpr h)
          refine lv_aload_n hx hb dX5_who_33 rfl (lv_at hl 0 rfl) ?_
          refine b_get E hw fw_X5_10 0 0 rfl rfl rfl dX5_who_34 ?_
          refine b_get E hw fw_X5_60 1 0 rfl rfl rfl dX5_who_37 ?_
          refine lv_iload_n hx hb dX5_who_40 rfl (lv_at hl 3 rfl) ?_
          refine b_callV (is := [2]) (wb := [tW G t0 wo mi bi la (nI n) ki se wd hu bt]) (wb' := [tW G t0 wo mi bi la (nI n) ki se wd hu bt]) (As := [.int (nI q)]) (rest := []) (st1 := [.int (whm se n (se q))]) (bs' := [xO G x0 s0 g0 k0 xt tr sg rf ab bl, oS G s0 t0 p0 n0, tW G t0 wo mi bi la (nI n) ki se wd hu bt]) E (c_X3_whomOf l G t0 (nI q) q (rfl) wo mi bi la n ki se wd hu bt (by omega) (by omega)) vw_X5_147 hw [2] rfl 2 0 rfl rfl rfl rfl rfl rfl (flat1 _) (flat1 _) rfl hl.1 rfl rfl (Nat.le_of_ble_eq_true rfl) ⟨Nat.le_of_ble_eq_true rfl, Nat.le_of_ble_eq_true rfl⟩ (Nat.zero_le _) (Nat.zero_le _) dX5_who_41 rfl rfl (fun H locs hw => ?_)
          refine lv_iload_n hx hb dX5_who_44 rfl (lv_at hl 1 rfl) ?_
          refine lv_icmp_ne (tgt := 54) hx hb dX5_who_45 rfl (fun cq45 => ?_) (fun cq45 => ?_)
          · skip
            refine lv_iinc (v := nI (q + 1)) (lv' := [(3, .int (nI (q + 1))), (0, .ref x0), (1, .int x), (2, .int acc)]) hx hb dX5_who_54 hl (k := 3) rfl (nI_add _ 1) (by decide) rfl (fun ls hl => ?_)
            refine lv_goto (tgt := 19) hx hb dX5_who_57 rfl ?_
            exact ih19 (q + 1) acc (by omega) (by rw [hiv, btS]; simp [cq5, cq30, cq45]) (by omega) _ _ _ hw (lv_sub hl [1, 2, 3, 0] rfl)
          · skip
            refine lv_iload_n hx hb dX5_who_48 rfl (lv_at hl 2 rfl) ?_
            refine lv_iconst (v := 1) hx hb dX5_who_49 rfl ?_
            refine lv_iload_n hx hb dX5_who_50 rfl (lv_at hl 3 rfl) ?_
            refine lv_ishl hx hb dX5_who_51 ?_
            refine lv_ior hx hb dX5_who_52 ?_
            refine lv_istore_n (lv' := [(2, .int (acc ||| ((1 : Int32) <<< ((nI q) &&& 31)))), (0, .ref x0), (1, .int x), (3, .int (nI q))]) hx hb dX5_who_53 rfl hl (by decide) rfl (fun ls hl => ?_)
            refine lv_iinc (v := nI (q + 1)) (lv' := [(3, .int (nI (q + 1))), (2, .int (acc ||| ((1 : Int32) <<< ((nI q) &&& 31)))), (0, .ref x0), (1, .int x)]) hx hb dX5_who_54 hl (k := 3) rfl (nI_add _ 1) (by decide) rfl (fun ls hl => ?_)
            refine lv_goto (tgt := 19) hx hb dX5_who_57 rfl ?_
            exact ih19 (q + 1) (acc ||| ((1 : Int32) <<< ((nI q) &&& 31))) (by omega) (by rw [hiv, btS]; simp [cq5, cq30, cq45]) (by omega) _ _ _ hw (lv_sub hl [2, 3, 1, 0] rfl)
    exact lp19 (n - 0 + 1) 0 0 (by omega) (rfl) (by omega) _ _ _ hw (lv_sub hl [2, 3, 1, 0] rfl)
  · skip
    have cq5 := bI_0.mp cq5
    exact absurd cq5 (by rw [h1]; decide)

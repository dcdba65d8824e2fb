set_option maxHeartbeats 1000000 in
set_option maxRecDepth 100000 in
theorem c_X3_timesBitten (l : Launch) (G : GG) (a : Nat → Nat) (x : Int32) (set : Int32) (wo : Int32) (mi : Int32) (bi : Int32) (la : Int32) (n : Nat) (ki : Nat → Int32) (se : Nat → Int32) (wd : Nat → Int32) (hu : Nat → Int32) (bt : Nat → Int32) (hn : n ≤ 6) : CT l G yX3_timesBitten cX3_timesBitten 5 (some .int) 2 44 [.ref (a 0), .int x, .int set] (tW G a wo mi bi la (nI n) ki se wd hu bt) (some (.int (tmS se n set x n))) (tW G a wo mi bi la (nI n) ki se wd hu bt) := by
  refine CT.mk (own := RX3) (la := [(0, .ref (a 0)), (1, .int x), (2, .int set)]) (by decide) rfl (Nat.le_of_ble_eq_true rfl) rfl ?_
  intro p e s m args below meth c A Q E hA hw rt ls hl
  have hx := E.1
  have hb := E.2.1
  refine lv_iconst (v := 0) hx hb dX3_timesBitten_0 rfl ?_
  refine lv_istore_n (lv' := [(3, .int 0), (0, .ref (a 0)), (1, .int x), (2, .int set)]) hx hb dX3_timesBitten_1 rfl hl (by decide) rfl (fun ls hl => ?_)
  refine lv_iconst (v := 0) hx hb dX3_timesBitten_2 rfl ?_
  refine lv_istore (lv' := [(4, .int 0), (3, .int 0), (0, .ref (a 0)), (1, .int x), (2, .int set)]) hx hb dX3_timesBitten_3 hl (by decide) rfl (fun ls hl => ?_)
  have lp5 : ∀ (fuel : Nat), ∀ (k : Nat) (acc : Int32) (hk : k ≤ n) (hiv : acc = tmS se n set x k), (n - k) < fuel → ∀ (H : Heap) (locs : List Loc) (ls : Array Slot), Wd G A s H locs (tW G a wo mi bi la (nI n) ki se wd hu bt) → lv_has ls 5 [(0, .ref (a 0)), (1, .int x), (2, .int set), (3, .int acc), (4, .int (nI k))] → W p l e (rmx 2 44) s m args below meth c H locs 0 0 Q (F0 m 5 ls []) := by
    intro fuel
    induction fuel with
    | zero => intro k acc hk hiv hfu; exact absurd hfu (Nat.not_lt_zero _)
    | succ fuel ih5 =>
      intro k acc hk hiv hfu H locs ls hw hl
      refine lv_iload hx hb dX3_timesBitten_5 (lv_at hl 4 rfl) ?_
      refine lv_aload_n hx hb dX3_timesBitten_7 rfl (lv_at hl 0 rfl) ?_
      refine x_get E hw fw_X3_40 0 rfl rfl dX3_timesBitten_8 ?_
      refine lv_icmp_ge (tgt := 43) hx hb dX3_timesBitten_11 rfl (fun cq11 => ?_) (fun cq11 => ?_)
      · skip
        have cq11 : n ≤ k := (cv_le (a := n) (b := k) rfl rfl (by omega) (by omega)).mp cq11
        refine lv_iload_n hx hb dX3_timesBitten_43 rfl (lv_at hl 3 rfl) ?_
        exact x_iret E hA rt hw dX3_timesBitten_44 (by rw [hiv, show k = n by omega]) rfl
      · skip
        have cq11 : ¬ n ≤ k := fun h => cq11 ((cv_le (a := n) (b := k) rfl rfl (by omega) (by omega)).mpr h)
        refine lv_iload_n hx hb dX3_timesBitten_14 rfl (lv_at hl 2 rfl) ?_
        refine lv_iload hx hb dX3_timesBitten_15 (lv_at hl 4 rfl) ?_
        refine lv_ishr hx hb dX3_timesBitten_17 ?_
        refine lv_iconst (v := 1) hx hb dX3_timesBitten_18 rfl ?_
        refine lv_iand hx hb dX3_timesBitten_19 ?_
        refine lv_iconst (v := 1) hx hb dX3_timesBitten_20 rfl ?_
        refine lv_icmp_ne (tgt := 37) hx hb dX3_timesBitten_21 rfl (fun cq21 => ?_) (fun cq21 => ?_)
        · skip
          refine lv_iinc (v := nI (k + 1)) (lv' := [(4, .int (nI (k + 1))), (0, .ref (a 0)), (1, .int x), (2, .int set), (3, .int acc)]) hx hb dX3_timesBitten_37 hl (k := 4) rfl (nI_add _ 1) (by decide) rfl (fun ls hl => ?_)
          refine lv_goto (tgt := 5) hx hb dX3_timesBitten_40 rfl ?_
          exact ih5 (k + 1) acc (by omega) (by rw [hiv, tmS]; simp [hasB, cq11, cq21]) (by omega) _ _ _ hw (lv_sub hl [1, 2, 3, 4, 0] rfl)
        · skip
          refine lv_aload_n hx hb dX3_timesBitten_24 rfl (lv_at hl 0 rfl) ?_
          refine lv_iload hx hb dX3_timesBitten_25 (lv_at hl 4 rfl) ?_
          refine x_callV (is := [0, 1, 2, 3, 4, 5]) (q0 := 0) (As := [.int (nI k)]) (rest := []) (st1 := [.int (whm se n (se k))]) (ws' := tW G a wo mi bi la (nI n) ki se wd hu bt) E (c_X3_whomOf l G a (nI k) k (rfl) wo mi bi la n ki se wd hu bt (by omega) (by omega)) vw_X3_81 hw [0, 1, 2, 3, 4, 5] rfl rfl rfl rfl rfl rfl rfl hl.1 rfl rfl (Nat.le_of_ble_eq_true rfl) ⟨Nat.le_of_ble_eq_true rfl, Nat.le_of_ble_eq_true rfl⟩ (Nat.zero_le _) (Nat.zero_le _) dX3_timesBitten_27 rfl rfl (fun H locs hw => ?_)
          refine lv_iload_n hx hb dX3_timesBitten_30 rfl (lv_at hl 1 rfl) ?_
          refine lv_icmp_ne (tgt := 37) hx hb dX3_timesBitten_31 rfl (fun cq31 => ?_) (fun cq31 => ?_)
          · skip
            refine lv_iinc (v := nI (k + 1)) (lv' := [(4, .int (nI (k + 1))), (0, .ref (a 0)), (1, .int x), (2, .int set), (3, .int acc)]) hx hb dX3_timesBitten_37 hl (k := 4) rfl (nI_add _ 1) (by decide) rfl (fun ls hl => ?_)
            refine lv_goto (tgt := 5) hx hb dX3_timesBitten_40 rfl ?_
            exact ih5 (k + 1) acc (by omega) (by rw [hiv, tmS]; simp [hasB, cq11, cq21, cq31]) (by omega) _ _ _ hw (lv_sub hl [1, 2, 3, 4, 0] rfl)
          · skip
            refine lv_iinc (v := acc + 1) (lv' := [(3, .int (acc + 1)), (0, .ref (a 0)), (1, .int x), (2, .int set), (4, .int (nI k))]) hx hb dX3_timesBitten_34 hl (k := 3) rfl (rfl) (by decide) rfl (fun ls hl => ?_)
            refine lv_iinc (v := nI (k + 1)) (lv' := [(4, .int (nI (k + 1))), (3, .int (acc + 1)), (0, .ref (a 0)), (1, .int x), (2, .int set)]) hx hb dX3_timesBitten_37 hl (k := 4) rfl (nI_add _ 1) (by decide) rfl (fun ls hl => ?_)
            refine lv_goto (tgt := 5) hx hb dX3_timesBitten_40 rfl ?_
            exact ih5 (k + 1) (acc + 1) (by omega) (by rw [hiv, tmS]; simp [hasB, cq11, cq21, cq31]) (by omega) _ _ _ hw (lv_sub hl [2, 3, 4, 1, 0] rfl)
  exact lp5 (n - 0 + 1) 0 0 (by omega) (rfl) (by omega) _ _ _ hw (lv_sub hl [2, 3, 4, 1, 0] rfl)
set_option maxHeartbeats 1000000 in
set_option maxRecDepth 100000 in
theorem c_X3_giveCarrot (l : Launch) (G : GG) (a : Nat → Nat) (i : Int32) (k : Nat) (hv_i : i = nI k) (wo : Int32) (mi : Int32) (bi : Int32) (la : Int32) (n : Nat) (ki : Nat → Int32) (se : Nat → Int32) (wd : Nat → Int32) (hu : Nat → Int32) (bt : Nat → Int32) (hk : k < 6) : CT l G yX3_giveCarrot cX3_giveCarrot 2 (some .int) 1 15 [.ref (a 0), .int i] (tW G a wo mi bi la (nI n) ki se wd hu bt) (some (.int (mx0 (hu k - 10)))) (tW G a wo mi bi la (nI n) ki se wd (upd hu k (mx0 (hu k - 10))) bt) := by
  refine CT.mk (own := RX3) (la := [(0, .ref (a 0)), (1, .int i)]) (by decide) rfl (Nat.le_of_ble_eq_true rfl) rfl ?_
  intro p e s m args below meth c A Q E hA hw rt ls hl
  have hx := E.1
  have hb := E.2.1
  refine lv_aload_n hx hb dX3_giveCarrot_0 rfl (lv_at hl 0 rfl) ?_
  refine x_get E hw fw_X3_21 0 rfl rfl dX3_giveCarrot_1 ?_
  refine lv_iload_n hx hb dX3_giveCarrot_4 rfl (lv_at hl 1 rfl) ?_
  refine lv_iconst (v := 0) hx hb dX3_giveCarrot_5 rfl ?_
  refine lv_aload_n hx hb dX3_giveCarrot_6 rfl (lv_at hl 0 rfl) ?_
  refine x_get E hw fw_X3_21 0 rfl rfl dX3_giveCarrot_7 ?_
  refine lv_iload_n hx hb dX3_giveCarrot_10 rfl (lv_at hl 1 rfl) ?_
  refine x_iald E hw 4 rfl k (hv_i) (by omega) (by omega) dX3_giveCarrot_11 ?_
  refine lv_bipush (v := 10) hx hb dX3_giveCarrot_12 rfl ?_
  refine lv_isub hx hb dX3_giveCarrot_14 ?_
  refine x_mmax E lw_X3_84 kw_math_max hl.1 (Nat.le_of_ble_eq_true rfl) (Nat.le_of_ble_eq_true rfl) (Nat.zero_le _) (Nat.zero_le _) dX3_giveCarrot_15 ?_
  refine x_topi (y := mx0 (hu k - 10)) (rfl) ?_
  refine x_iast (ws' := tW G a wo mi bi la (nI n) ki se wd (upd hu k (mx0 (hu k - 10))) bt) E hw 4 rfl k (hv_i) (by omega) (by omega) dX3_giveCarrot_18 rfl (fun H locs hw => ?_)
  refine lv_aload_n hx hb dX3_giveCarrot_19 rfl (lv_at hl 0 rfl) ?_
  refine x_get E hw fw_X3_21 0 rfl rfl dX3_giveCarrot_20 ?_
  refine lv_iload_n hx hb dX3_giveCarrot_23 rfl (lv_at hl 1 rfl) ?_
  refine x_iald E hw 4 rfl k (hv_i) (by omega) (by omega) dX3_giveCarrot_24 ?_
  exact x_iret E hA rt hw dX3_giveCarrot_25 (upd_at _ _ _) rfl
set_option maxHeartbeats 1000000 in
set_option maxRecDepth 100000 in
theorem c_X3_addChild (l : Launch) (G : GG) (a : Nat → Nat) (xk : Int32) (xs : Int32) (xw : Int32) (xh : Int32) (wo : Int32) (mi : Int32) (bi : Int32) (la : Int32) (n : Nat) (ki : Nat → Int32) (se : Nat → Int32) (wd : Nat → Int32) (hu : Nat → Int32) (bt : Nat → Int32) (hn : n < 6) : CT l G yX3_addChild cX3_addChild 6 (some .int) 0 0 [.ref (a 0), .int xk, .int xs, .int xw, .int xh] (tW G a wo mi bi la (nI n) ki se wd hu bt) (some (.int (nI n))) (tW G a wo mi bi la (nI (n + 1)) (upd ki n xk) (upd se n xs) (upd wd n xw) (upd hu n xh) (upd bt n 0)) := by
  refine CT.mk (own := RX3) (la := [(0, .ref (a 0)), (1, .int xk), (2, .int xs), (3, .int xw), (4, .int xh)]) (by decide) rfl (Nat.le_of_ble_eq_true rfl) rfl ?_
  intro p e s m args below meth c A Q E hA hw rt ls hl
  have hx := E.1
  have hb := E.2.1
  refine lv_aload_n hx hb dX3_addChild_0 rfl (lv_at hl 0 rfl) ?_
  refine x_get E hw fw_X3_40 0 rfl rfl dX3_addChild_1 ?_
  refine lv_bipush (v := 6) hx hb dX3_addChild_4 rfl ?_
  refine lv_icmp_lt (tgt := 12) hx hb dX3_addChild_6 rfl (fun cq6 => ?_) (fun cq6 => ?_)
  · skip
    have cq6 : n < 6 := (cv_lt (a := n) (b := 6) rfl rfl (by omega) (by omega)).mp cq6
    refine lv_aload_n hx hb dX3_addChild_12 rfl (lv_at hl 0 rfl) ?_
    refine x_get E hw fw_X3_40 0 rfl rfl dX3_addChild_13 ?_
    refine lv_istore (lv' := [(5, .int (nI n)), (0, .ref (a 0)), (1, .int xk), (2, .int xs), (3, .int xw), (4, .int xh)]) hx hb dX3_addChild_16 hl (by decide) rfl (fun ls hl => ?_)
    refine lv_aload_n hx hb dX3_addChild_18 rfl (lv_at hl 1 rfl) ?_
    refine x_get E hw fw_X3_9 0 rfl rfl dX3_addChild_19 ?_
    refine lv_iload hx hb dX3_addChild_22 (lv_at hl 0 rfl) ?_
    refine lv_iload_n hx hb dX3_addChild_24 rfl (lv_at hl 2 rfl) ?_
    refine x_iast (ws' := tW G a wo mi bi la (nI n) (upd ki n xk) se wd hu bt) E hw 1 rfl n (rfl) (by omega) (by omega) dX3_addChild_25 rfl (fun H locs hw => ?_)
    refine lv_aload_n hx hb dX3_addChild_26 rfl (lv_at hl 1 rfl) ?_
    refine x_get E hw fw_X3_15 0 rfl rfl dX3_addChild_27 ?_
    refine lv_iload hx hb dX3_addChild_30 (lv_at hl 0 rfl) ?_
    refine lv_iload_n hx hb dX3_addChild_32 rfl (lv_at hl 3 rfl) ?_
    refine x_iast (ws' := tW G a wo mi bi la (nI n) (upd ki n xk) (upd se n xs) wd hu bt) E hw 2 rfl n (rfl) (by omega) (by omega) dX3_addChild_33 rfl (fun H locs hw => ?_)
    refine lv_aload_n hx hb dX3_addChild_34 rfl (lv_at hl 1 rfl) ?_
    refine x_get E hw fw_X3_18 0 rfl rfl dX3_addChild_35 ?_
    refine lv_iload hx hb dX3_addChild_38 (lv_at hl 0 rfl) ?_
    refine lv_iload_n hx hb dX3_addChild_40 rfl (lv_at hl 4 rfl) ?_
    refine x_iast (ws' := tW G a wo mi bi la (nI n) (upd ki n xk) (upd se n xs) (upd wd n xw) hu bt) E hw 3 rfl n (rfl) (by omega) (by omega) dX3_addChild_41 rfl (fun H locs hw => ?_)
    refine lv_aload_n hx hb dX3_addChild_42 rfl (lv_at hl 1 rfl) ?_
    refine x_get E hw fw_X3_21 0 rfl rfl dX3_addChild_43 ?_
    refine lv_iload hx hb dX3_addChild_46 (lv_at hl 0 rfl) ?_
    refine lv_iload hx hb dX3_addChild_48 (lv_at hl 5 rfl) ?_
    refine x_iast (ws' := tW G a wo mi bi la (nI n) (upd ki n xk) (upd se n xs) (upd wd n xw) (upd hu n xh) bt) E hw 4 rfl n (rfl) (by omega) (by omega) dX3_addChild_50 rfl (fun H locs hw => ?_)
    refine lv_aload_n hx hb dX3_addChild_51 rfl (lv_at hl 1 rfl) ?_
    refine x_get E hw fw_X3_24 0 rfl rfl dX3_addChild_52 ?_
    refine lv_iload hx hb dX3_addChild_55 (lv_at hl 0 rfl) ?_
    refine lv_iconst (v := 0) hx hb dX3_addChild_57 rfl ?_
    refine x_iast (ws' := tW G a wo mi bi la (nI n) (upd ki n xk) (upd se n xs) (upd wd n xw) (upd hu n xh) (upd bt n 0)) E hw 5 rfl n (rfl) (by omega) (by omega) dX3_addChild_58 rfl (fun H locs hw => ?_)
    refine lv_aload_n hx hb dX3_addChild_59 rfl (lv_at hl 1 rfl) ?_
    refine lv_iload hx hb dX3_addChild_60 (lv_at hl 0 rfl) ?_
    refine lv_iconst (v := 1) hx hb dX3_addChild_62 rfl ?_
    refine lv_iadd hx hb dX3_addChild_63 ?_
    refine x_topi (y := nI (n + 1)) (nI_add n 1) ?_
    refine x_put (ws' := tW G a wo mi bi la (nI (n + 1)) (upd ki n xk) (upd se n xs) (upd wd n xw) (upd hu n xh) (upd bt n 0)) (ty := .int) E hw fw_X3_40 0 rfl rfl rfl (by decide +kernel) rfl rfl (Nat.le_of_ble_eq_true rfl) dX3_addChild_64 rfl (fun H locs hw => ?_)
    refine lv_iload hx hb dX3_addChild_67 (lv_at hl 0 rfl) ?_
    exact x_iret E hA rt hw dX3_addChild_69 (rfl) rfl
  · skip
    have cq6 : ¬ n < 6 := fun h => cq6 ((cv_lt (a := n) (b := 6) rfl rfl (by omega) (by omega)).mpr h)
    exact absurd (by omega) cq6
set_option maxHeartbeats 1000000 in
set_option maxRecDepth 100000 in
theorem c_X3_partOf (l : Launch) (G : GG) (a : Nat → Nat) (i : Int32) (k : Nat) (hv_i : i = nI k) (wh : Int32) (wo : Int32) (mi : Int32) (bi : Int32) (la : Int32) (n : Nat) (ki : Nat → Int32) (se : Nat → Int32) (wd : Nat → Int32) (hu : Nat → Int32) (bt : Nat → Int32) (hk : k < 6) : CT l G yX3_partOf cX3_partOf 3 (some .int) 0 0 [.ref (a 0), .int i, .int wh] (tW G a wo mi bi la (nI n) ki se wd hu bt) (some (.int (if wh = 0 then ki k else if wh = 1 then se k else if wh = 2 then wd k else if wh = 3 then hu k else bt k))) (tW G a wo mi bi la (nI n) ki se wd hu bt) := by
  refine CT.mk (own := RX3) (la := [(0, .ref (a 0)), (1, .int i), (2, .int wh)]) (by decide) rfl (Nat.le_of_ble_eq_true rfl) rfl ?_
  intro p e s m args below meth c A Q E hA hw rt ls hl
  have hx := E.1
  have hb := E.2.1
  refine lv_iload_n hx hb dX3_partOf_0 rfl (lv_at hl 2 rfl) ?_
  by_cases cq1_0 : wh = (0 : Int32)
  · skip
    refine lv_tableIn (off := 31) (tgt := 32) hx hb dX3_partOf_1 (by rw [cq1_0]; decide) (by rw [cq1_0]; decide) (by rw [cq1_0]; rfl) rfl ?_
    refine lv_aload_n hx hb dX3_partOf_32 rfl (lv_at hl 0 rfl) ?_
    refine x_get E hw fw_X3_9 0 rfl rfl dX3_partOf_33 ?_
    refine lv_iload_n hx hb dX3_partOf_36 rfl (lv_at hl 1 rfl) ?_
    refine x_iald E hw 1 rfl k (hv_i) (by omega) (by omega) dX3_partOf_37 ?_
    exact x_iret E hA rt hw dX3_partOf_38 (by simp [cq1_0]) rfl
  by_cases cq1_1 : wh = (1 : Int32)
  · skip
    refine lv_tableIn (off := 38) (tgt := 39) hx hb dX3_partOf_1 (by rw [cq1_1]; decide) (by rw [cq1_1]; decide) (by rw [cq1_1]; rfl) rfl ?_
    refine lv_aload_n hx hb dX3_partOf_39 rfl (lv_at hl 0 rfl) ?_
    refine x_get E hw fw_X3_15 0 rfl rfl dX3_partOf_40 ?_
    refine lv_iload_n hx hb dX3_partOf_43 rfl (lv_at hl 1 rfl) ?_
    refine x_iald E hw 2 rfl k (hv_i) (by omega) (by omega) dX3_partOf_44 ?_
    exact x_iret E hA rt hw dX3_partOf_45 (by simp [cq1_0, cq1_1]) rfl
  by_cases cq1_2 : wh = (2 : Int32)
  · skip
    refine lv_tableIn (off := 45) (tgt := 46) hx hb dX3_partOf_1 (by rw [cq1_2]; decide) (by rw [cq1_2]; decide) (by rw [cq1_2]; rfl) rfl ?_
    refine lv_aload_n hx hb dX3_partOf_46 rfl (lv_at hl 0 rfl) ?_
    refine x_get E hw fw_X3_18 0 rfl rfl dX3_partOf_47 ?_
    refine lv_iload_n hx hb dX3_partOf_50 rfl (lv_at hl 1 rfl) ?_
    refine x_iald E hw 3 rfl k (hv_i) (by omega) (by omega) dX3_partOf_51 ?_
    exact x_iret E hA rt hw dX3_partOf_52 (by simp [cq1_0, cq1_1, cq1_2]) rfl
  by_cases cq1_3 : wh = (3 : Int32)
  · skip
    refine lv_tableIn (off := 52) (tgt := 53) hx hb dX3_partOf_1 (by rw [cq1_3]; decide) (by rw [cq1_3]; decide) (by rw [cq1_3]; rfl) rfl ?_
    refine lv_aload_n hx hb dX3_partOf_53 rfl (lv_at hl 0 rfl) ?_
    refine x_get E hw fw_X3_21 0 rfl rfl dX3_partOf_54 ?_
    refine lv_iload_n hx hb dX3_partOf_57 rfl (lv_at hl 1 rfl) ?_
    refine x_iald E hw 4 rfl k (hv_i) (by omega) (by omega) dX3_partOf_58 ?_
    exact x_iret E hA rt hw dX3_partOf_59 (by simp [cq1_0, cq1_1, cq1_2, cq1_3]) rfl
  refine lv_tableOut (tgt := 60) hx hb dX3_partOf_1 (by have g0 := lv_neT (a := 0) cq1_0 rfl; have g1 := lv_neT (a := 1) cq1_1 rfl; have g2 := lv_neT (a := 2) cq1_2 rfl; have g3 := lv_neT (a := 3) cq1_3 rfl; omega) rfl ?_
  refine lv_aload_n hx hb dX3_partOf_60 rfl (lv_at hl 0 rfl) ?_
  refine x_get E hw fw_X3_24 0 rfl rfl dX3_partOf_61 ?_
  refine lv_iload_n hx hb dX3_partOf_64 rfl (lv_at hl 1 rfl) ?_
  refine x_iald E hw 5 rfl k (hv_i) (by omega) (by omega) dX3_partOf_65 ?_
  exact x_iret E hA rt hw dX3_partOf_66 (by simp [cq1_0, cq1_1, cq1_2, cq1_3]) rfl
set_option maxHeartbeats 1000000 in
set_option maxRecDepth 100000 in
theorem c_X3_layAnew (l : Launch) (G : GG) (a : Nat → Nat) (x : Int32) (wo : Int32) (mi : Int32) (bi : Int32) (la : Int32) (ch : Int32) (ki : Nat → Int32) (se : Nat → Int32) (wd : Nat → Int32) (hu : Nat → Int32) (bt : Nat → Int32) : CT l G yX3_layAnew cX3_layAnew 2 none 0 0 [.ref (a 0), .int x] (tW G a wo mi bi la ch ki se wd hu bt) none (tW G a x 0 0 0 0 ki se wd hu bt) := by
  refine CT.mk (own := RX3) (la := [(0, .ref (a 0)), (1, .int x)]) (by decide) rfl (Nat.le_of_ble_eq_true rfl) rfl ?_
  intro p e s m args below meth c A Q E hA hw rt ls hl
  have hx := E.1
  have hb := E.2.1
  refine lv_aload_n hx hb dX3_layAnew_0 rfl (lv_at hl 0 rfl) ?_
  refine lv_iload_n hx hb dX3_layAnew_1 rfl (lv_at hl 1 rfl) ?_
  refine x_put (ws' := tW G a x mi bi la ch ki se wd hu bt) (ty := .int) E hw fw_X3_27 0 rfl rfl rfl (by decide +kernel) rfl rfl (Nat.le_of_ble_eq_true rfl) dX3_layAnew_2 rfl (fun H locs hw => ?_)
  refine lv_aload_n hx hb dX3_layAnew_5 rfl (lv_at hl 0 rfl) ?_
  refine lv_iconst (v := 0) hx hb dX3_layAnew_6 rfl ?_
  refine x_put (ws' := tW G a x 0 bi la ch ki se wd hu bt) (ty := .int) E hw fw_X3_31 0 rfl rfl rfl (by decide +kernel) rfl rfl (Nat.le_of_ble_eq_true rfl) dX3_layAnew_7 rfl (fun H locs hw => ?_)
  refine lv_aload_n hx hb dX3_layAnew_10 rfl (lv_at hl 0 rfl) ?_
  refine lv_iconst (v := 0) hx hb dX3_layAnew_11 rfl ?_
  refine x_put (ws' := tW G a x 0 0 la ch ki se wd hu bt) (ty := .int) E hw fw_X3_34 0 rfl rfl rfl (by decide +kernel) rfl rfl (Nat.le_of_ble_eq_true rfl) dX3_layAnew_12 rfl (fun H locs hw => ?_)
  refine lv_aload_n hx hb dX3_layAnew_15 rfl (lv_at hl 0 rfl) ?_
  refine lv_iconst (v := 0) hx hb dX3_layAnew_16 rfl ?_
  refine x_put (ws' := tW G a x 0 0 0 ch ki se wd hu bt) (ty := .int) E hw fw_X3_37 0 rfl rfl rfl (by decide +kernel) rfl rfl (Nat.le_of_ble_eq_true rfl) dX3_layAnew_17 rfl (fun H locs hw => ?_)
  refine lv_aload_n hx hb dX3_layAnew_20 rfl (lv_at hl 0 rfl) ?_
  refine lv_iconst (v := 0) hx hb dX3_layAnew_21 rfl ?_
  refine x_put (ws' := tW G a x 0 0 0 0 ki se wd hu bt) (ty := .int) E hw fw_X3_40 0 rfl rfl rfl (by decide +kernel) rfl rfl (Nat.le_of_ble_eq_true rfl) dX3_layAnew_22 rfl (fun H locs hw => ?_)
  exact x_vret E hA rt hw dX3_layAnew_25 rfl
set_option maxHeartbeats 1000000 in
set_option maxRecDepth 100000 in
theorem c_X3_copyFrom (l : Launch) (G : GG) (a : Nat → Nat) (b : Nat → Nat) (wo : Int32) (mi : Int32) (bi : Int32) (la : Int32) (ch : Int32) (ki : Nat → Int32) (se : Nat → Int32) (wd : Nat → Int32) (hu : Nat → Int32) (bt : Nat → Int32) (wo1 : Int32) (mi1 : Int32) (bi1 : Int32) (la1 : Int32) (ch1 : Int32) (ki1 : Nat → Int32) (se1 : Nat → Int32) (wd1 : Nat → Int32) (hu1 : Nat → Int32) (bt1 : Nat → Int32) : CT l G yX3_copyFrom cX3_copyFrom 2 none 1 18 [.ref (a 0), .ref (b 0)] ((tW G a wo mi bi la ch ki se wd hu bt) ++ (tW G b wo1 mi1 bi1 la1 ch1 ki1 se1 wd1 hu1 bt1)) none ((tW G a wo1 mi1 bi1 la1 ch1 ki1 se1 wd1 hu1 bt1) ++ (tW G b wo1 mi1 bi1 la1 ch1 ki1 se1 wd1 hu1 bt1)) := by
  refine CT.mk (own := RX3) (la := [(0, .ref (a 0)), (1, .ref (b 0))]) (by decide) rfl (Nat.le_of_ble_eq_true rfl) rfl ?_
  intro p e s m args below meth c A Q E hA hw rt ls hl
  have hx := E.1
  have hb := E.2.1
  refine lv_aload_n hx hb dX3_copyFrom_0 rfl (lv_at hl 0 rfl) ?_
  refine lv_aload_n hx hb dX3_copyFrom_1 rfl (lv_at hl 1 rfl) ?_
  refine x_get E hw fw_X3_27 6 rfl rfl dX3_copyFrom_2 ?_
  refine x_put (ws' := (tW G a wo1 mi bi la ch ki se wd hu bt) ++ (tW G b wo1 mi1 bi1 la1 ch1 ki1 se1 wd1 hu1 bt1)) (ty := .int) E hw fw_X3_27 0 rfl rfl rfl (by decide +kernel) rfl rfl (Nat.le_of_ble_eq_true rfl) dX3_copyFrom_5 rfl (fun H locs hw => ?_)
  refine lv_aload_n hx hb dX3_copyFrom_8 rfl (lv_at hl 0 rfl) ?_
  refine lv_aload_n hx hb dX3_copyFrom_9 rfl (lv_at hl 1 rfl) ?_
  refine x_get E hw fw_X3_31 6 rfl rfl dX3_copyFrom_10 ?_
  refine x_put (ws' := (tW G a wo1 mi1 bi la ch ki se wd hu bt) ++ (tW G b wo1 mi1 bi1 la1 ch1 ki1 se1 wd1 hu1 bt1)) (ty := .int) E hw fw_X3_31 0 rfl rfl rfl (by decide +kernel) rfl rfl (Nat.le_of_ble_eq_true rfl) dX3_copyFrom_13 rfl (fun H locs hw => ?_)
  refine lv_aload_n hx hb dX3_copyFrom_16 rfl (lv_at hl 0 rfl) ?_
  refine lv_aload_n hx hb dX3_copyFrom_17 rfl (lv_at hl 1 rfl) ?_
  refine x_get E hw fw_X3_34 6 rfl rfl dX3_copyFrom_18 ?_
  refine x_put (ws' := (tW G a wo1 mi1 bi1 la ch ki se wd hu bt) ++ (tW G b wo1 mi1 bi1 la1 ch1 ki1 se1 wd1 hu1 bt1)) (ty := .int) E hw fw_X3_34 0 rfl rfl rfl (by decide +kernel) rfl rfl (Nat.le_of_ble_eq_true rfl) dX3_copyFrom_21 rfl (fun H locs hw => ?_)
  refine lv_aload_n hx hb dX3_copyFrom_24 rfl (lv_at hl 0 rfl) ?_
  refine lv_aload_n hx hb dX3_copyFrom_25 rfl (lv_at hl 1 rfl) ?_
  refine x_get E hw fw_X3_37 6 rfl rfl dX3_copyFrom_26 ?_
  refine x_put (ws' := (tW G a wo1 mi1 bi1 la1 ch ki se wd hu bt) ++ (tW G b wo1 mi1 bi1 la1 ch1 ki1 se1 wd1 hu1 bt1)) (ty := .int) E hw fw_X3_37 0 rfl rfl rfl (by decide +kernel) rfl rfl (Nat.le_of_ble_eq_true rfl) dX3_copyFrom_29 rfl (fun H locs hw => ?_)
  refine lv_aload_n hx hb dX3_copyFrom_32 rfl (lv_at hl 0 rfl) ?_
  refine lv_aload_n hx hb dX3_copyFrom_33 rfl (lv_at hl 1 rfl) ?_
  refine x_get E hw fw_X3_40 6 rfl rfl dX3_copyFrom_34 ?_
  refine x_put (ws' := (tW G a wo1 mi1 bi1 la1 ch1 ki se wd hu bt) ++ (tW G b wo1 mi1 bi1 la1 ch1 ki1 se1 wd1 hu1 bt1)) (ty := .int) E hw fw_X3_40 0 rfl rfl rfl (by decide +kernel) rfl rfl (Nat.le_of_ble_eq_true rfl) dX3_copyFrom_37 rfl (fun H locs hw => ?_)
  refine lv_aload_n hx hb dX3_copyFrom_40 rfl (lv_at hl 1 rfl) ?_
  refine x_get E hw fw_X3_9 6 rfl rfl dX3_copyFrom_41 ?_
  refine lv_iconst (v := 0) hx hb dX3_copyFrom_44 rfl ?_
  refine lv_aload_n hx hb dX3_copyFrom_45 rfl (lv_at hl 0 rfl) ?_
  refine x_get E hw fw_X3_9 0 rfl rfl dX3_copyFrom_46 ?_
  refine lv_iconst (v := 0) hx hb dX3_copyFrom_49 rfl ?_
  refine lv_bipush (v := 6) hx hb dX3_copyFrom_50 rfl ?_
  refine x_copyi (ws' := (tW G a wo1 mi1 bi1 la1 ch1 ki1 se wd hu bt) ++ (tW G b wo1 mi1 bi1 la1 ch1 ki1 se1 wd1 hu1 bt1)) E hw lw_X3_43 kw_acopy hl.1 7 1 rfl rfl rfl rfl rfl (by omega) (Nat.le_of_ble_eq_true rfl) (Nat.le_of_ble_eq_true rfl) dX3_copyFrom_52 rfl (fun H locs hw => ?_)
  refine lv_aload_n hx hb dX3_copyFrom_55 rfl (lv_at hl 1 rfl) ?_
  refine x_get E hw fw_X3_15 6 rfl rfl dX3_copyFrom_56 ?_
  refine lv_iconst (v := 0) hx hb dX3_copyFrom_59 rfl ?_
  refine lv_aload_n hx hb dX3_copyFrom_60 rfl (lv_at hl 0 rfl) ?_
  refine x_get E hw fw_X3_15 0 rfl rfl dX3_copyFrom_61 ?_
  refine lv_iconst (v := 0) hx hb dX3_copyFrom_64 rfl ?_
  refine lv_bipush (v := 6) hx hb dX3_copyFrom_65 rfl ?_
  refine x_copyi (ws' := (tW G a wo1 mi1 bi1 la1 ch1 ki1 se1 wd hu bt) ++ (tW G b wo1 mi1 bi1 la1 ch1 ki1 se1 wd1 hu1 bt1)) E hw lw_X3_43 kw_acopy hl.1 8 2 rfl rfl rfl rfl rfl (by omega) (Nat.le_of_ble_eq_true rfl) (Nat.le_of_ble_eq_true rfl) dX3_copyFrom_67 rfl (fun H locs hw => ?_)
  refine lv_aload_n hx hb dX3_copyFrom_70 rfl (lv_at hl 1 rfl) ?_
  refine x_get E hw fw_X3_18 6 rfl rfl dX3_copyFrom_71 ?_
  refine lv_iconst (v := 0) hx hb dX3_copyFrom_74 rfl ?_
  refine lv_aload_n hx hb dX3_copyFrom_75 rfl (lv_at hl 0 rfl) ?_
  refine x_get E hw fw_X3_18 0 rfl rfl dX3_copyFrom_76 ?_
  refine lv_iconst (v := 0) hx hb dX3_copyFrom_79 rfl ?_
  refine lv_bipush (v := 6) hx hb dX3_copyFrom_80 rfl ?_
  refine x_copyi (ws' := (tW G a wo1 mi1 bi1 la1 ch1 ki1 se1 wd1 hu bt) ++ (tW G b wo1 mi1 bi1 la1 ch1 ki1 se1 wd1 hu1 bt1)) E hw lw_X3_43 kw_acopy hl.1 9 3 rfl rfl rfl rfl rfl (by omega) (Nat.le_of_ble_eq_true rfl) (Nat.le_of_ble_eq_true rfl) dX3_copyFrom_82 rfl (fun H locs hw => ?_)
  refine lv_aload_n hx hb dX3_copyFrom_85 rfl (lv_at hl 1 rfl) ?_
  refine x_get E hw fw_X3_21 6 rfl rfl dX3_copyFrom_86 ?_
  refine lv_iconst (v := 0) hx hb dX3_copyFrom_89 rfl ?_
  refine lv_aload_n hx hb dX3_copyFrom_90 rfl (lv_at hl 0 rfl) ?_
  refine x_get E hw fw_X3_21 0 rfl rfl dX3_copyFrom_91 ?_
  refine lv_iconst (v := 0) hx hb dX3_copyFrom_94 rfl ?_
  refine lv_bipush (v := 6) hx hb dX3_copyFrom_95 rfl ?_
  refine x_copyi (ws' := (tW G a wo1 mi1 bi1 la1 ch1 ki1 se1 wd1 hu1 bt) ++ (tW G b wo1 mi1 bi1 la1 ch1 ki1 se1 wd1 hu1 bt1)) E hw lw_X3_43 kw_acopy hl.1 10 4 rfl rfl rfl rfl rfl (by omega) (Nat.le_of_ble_eq_true rfl) (Nat.le_of_ble_eq_true rfl) dX3_copyFrom_97 rfl (fun H locs hw => ?_)
  refine lv_aload_n hx hb dX3_copyFrom_100 rfl (lv_at hl 1 rfl) ?_
  refine x_get E hw fw_X3_24 6 rfl rfl dX3_copyFrom_101 ?_
  refine lv_iconst (v := 0) hx hb dX3_copyFrom_104 rfl ?_
  refine lv_aload_n hx hb dX3_copyFrom_105 rfl (lv_at hl 0 rfl) ?_
  refine x_get E hw fw_X3_24 0 rfl rfl dX3_copyFrom_106 ?_
  refine lv_iconst (v := 0) hx hb dX3_copyFrom_109 rfl ?_
  refine lv_bipush (v := 6) hx hb dX3_copyFrom_110 rfl ?_
  refine x_copyi (ws' := (tW G a wo1 mi1 bi1 la1 ch1 ki1 se1 wd1 hu1 bt1) ++ (tW G b wo1 mi1 bi1 la1 ch1 ki1 se1 wd1 hu1 bt1)) E hw lw_X3_43 kw_acopy hl.1 11 5 rfl rfl rfl rfl rfl (by omega) (Nat.le_of_ble_eq_true rfl) (Nat.le_of_ble_eq_true rfl) dX3_copyFrom_112 rfl (fun H locs hw => ?_)
  exact x_vret E hA rt hw dX3_copyFrom_115 rfl
set_option maxHeartbeats 1000000 in
set_option maxRecDepth 100000 in
theorem c_X3_passMinute (l : Launch) (G : GG) (a : Nat → Nat) (wo : Int32) (mi : Int32) (bi : Int32) (la : Int32) (n : Nat) (ki : Nat → Int32) (se : Nat → Int32) (wd : Nat → Int32) (hu : Nat → Int32) (bt : Nat → Int32) (hn : n ≤ 6) : CT l G yX3_passMinute cX3_passMinute 3 (some .int) 4 87 [.ref (a 0)] (tW G a wo mi bi la (nI n) ki se wd hu bt) (some (.int (bcI (bitr wo la n ki se wd hu bt)))) (tW G a wo (mi + 1) (bi + bcI (bitr wo la n ki se wd hu bt)) (bcI (bitr wo la n ki se wd hu bt)) (nI n) ki se wd (pre (fH (bitr wo la n ki se wd hu bt) hu) hu n) (pre (fB se n (bitr wo la n ki se wd hu bt) bt) bt n)) := by
  refine CT.mk (own := RX3) (la := [(0, .ref (a 0))]) (by decide) rfl (Nat.le_of_ble_eq_true rfl) rfl ?_
  intro p e s m args below meth c A Q E hA hw rt ls hl
  have hx := E.1
  have hb := E.2.1
  refine lv_aload_n hx hb dX3_passMinute_0 rfl (lv_at hl 0 rfl) ?_
  refine x_callV (is := [0, 1, 2, 3, 4, 5]) (q0 := 0) (As := []) (rest := []) (st1 := [.int (bitr wo la n ki se wd hu bt)]) (ws' := tW G a wo mi bi la (nI n) ki se wd hu bt) E (c_X3_biters l G a wo mi bi la n ki se wd hu bt (by omega)) vw_X3_92 hw [0, 1, 2, 3, 4, 5] rfl rfl rfl rfl rfl rfl rfl hl.1 rfl rfl (Nat.le_of_ble_eq_true rfl) ⟨Nat.le_of_ble_eq_true rfl, Nat.le_of_ble_eq_true rfl⟩ (Nat.zero_le _) (Nat.zero_le _) dX3_passMinute_1 rfl rfl (fun H locs hw => ?_)
  refine lv_istore_n (lv' := [(1, .int (bitr wo la n ki se wd hu bt)), (0, .ref (a 0))]) hx hb dX3_passMinute_4 rfl hl (by decide) rfl (fun ls hl => ?_)
  refine lv_iconst (v := 0) hx hb dX3_passMinute_5 rfl ?_
  refine lv_istore_n (lv' := [(2, .int 0), (1, .int (bitr wo la n ki se wd hu bt)), (0, .ref (a 0))]) hx hb dX3_passMinute_6 rfl hl (by decide) rfl (fun ls hl => ?_)
  have lp7 : ∀ (fuel : Nat), ∀ (k : Nat) (hu' : Nat → Int32) (bt' : Nat → Int32) (hk : k ≤ n) (hh : hu' = pre (fH (bitr wo la n ki se wd hu bt) hu) hu k) (hbt : bt' = pre (fB se n (bitr wo la n ki se wd hu bt) bt) bt k), (n - k) < fuel → ∀ (H : Heap) (locs : List Loc) (ls : Array Slot), Wd G A s H locs (tW G a wo mi bi la (nI n) ki se wd hu' bt') → lv_has ls 3 [(0, .ref (a 0)), (1, .int (bitr wo la n ki se wd hu bt)), (2, .int (nI k))] → W p l e (rmx 4 87) s m args below meth c H locs 0 0 Q (F0 m 7 ls []) := by
    intro fuel
    induction fuel with
    | zero => intro k hu' bt' hk hh hbt hfu; exact absurd hfu (Nat.not_lt_zero _)
    | succ fuel ih7 =>
      intro k hu' bt' hk hh hbt hfu H locs ls hw hl
      refine lv_iload_n hx hb dX3_passMinute_7 rfl (lv_at hl 2 rfl) ?_
      refine lv_aload_n hx hb dX3_passMinute_8 rfl (lv_at hl 0 rfl) ?_
      refine x_get E hw fw_X3_40 0 rfl rfl dX3_passMinute_9 ?_
      refine lv_icmp_ge (tgt := 83) hx hb dX3_passMinute_12 rfl (fun cq12 => ?_) (fun cq12 => ?_)
      · skip
        have cq12 : n ≤ k := (cv_le (a := n) (b := k) rfl rfl (by omega) (by omega)).mp cq12
        have ek : k = n := by omega
        refine lv_aload_n hx hb dX3_passMinute_83 rfl (lv_at hl 0 rfl) ?_
        refine lv_iload_n hx hb dX3_passMinute_84 rfl (lv_at hl 1 rfl) ?_
        refine x_callS (is := []) (As := [.int (bitr wo la n ki se wd hu bt)]) (rest := [.ref (a 0)]) (st1 := [.int (bcI (bitr wo la n ki se wd hu bt)), .ref (a 0)]) (ws' := tW G a wo mi bi la (nI n) ki se wd hu' bt') E (c_bitCount l G (bitr wo la n ki se wd hu bt)) sw_X3_101 hw [] rfl rfl rfl rfl hl.1 rfl rfl (Nat.le_of_ble_eq_true rfl) ⟨Nat.le_of_ble_eq_true rfl, Nat.le_of_ble_eq_true rfl⟩ (Nat.zero_le _) (Nat.zero_le _) dX3_passMinute_85 rfl rfl (fun H locs hw => ?_)
        refine x_put (ws' := tW G a wo mi bi (bcI (bitr wo la n ki se wd hu bt)) (nI n) ki se wd hu' bt') (ty := .int) E hw fw_X3_37 0 rfl rfl rfl (by decide +kernel) rfl rfl (Nat.le_of_ble_eq_true rfl) dX3_passMinute_88 rfl (fun H locs hw => ?_)
        refine lv_aload_n hx hb dX3_passMinute_91 rfl (lv_at hl 0 rfl) ?_
        refine lv_dup hx hb dX3_passMinute_92 rfl ?_
        refine x_get E hw fw_X3_34 0 rfl rfl dX3_passMinute_93 ?_
        refine lv_aload_n hx hb dX3_passMinute_96 rfl (lv_at hl 0 rfl) ?_
        refine x_get E hw fw_X3_37 0 rfl rfl dX3_passMinute_97 ?_
        refine lv_iadd hx hb dX3_passMinute_100 ?_
        refine x_put (ws' := tW G a wo mi (bi + (bcI (bitr wo la n ki se wd hu bt))) (bcI (bitr wo la n ki se wd hu bt)) (nI n) ki se wd hu' bt') (ty := .int) E hw fw_X3_34 0 rfl rfl rfl (by decide +kernel) rfl rfl (Nat.le_of_ble_eq_true rfl) dX3_passMinute_101 rfl (fun H locs hw => ?_)
        refine lv_aload_n hx hb dX3_passMinute_104 rfl (lv_at hl 0 rfl) ?_
        refine lv_dup hx hb dX3_passMinute_105 rfl ?_
        refine x_get E hw fw_X3_31 0 rfl rfl dX3_passMinute_106 ?_
        refine lv_iconst (v := 1) hx hb dX3_passMinute_109 rfl ?_
        refine lv_iadd hx hb dX3_passMinute_110 ?_
        refine x_put (ws' := tW G a wo (mi + 1) (bi + (bcI (bitr wo la n ki se wd hu bt))) (bcI (bitr wo la n ki se wd hu bt)) (nI n) ki se wd hu' bt') (ty := .int) E hw fw_X3_31 0 rfl rfl rfl (by decide +kernel) rfl rfl (Nat.le_of_ble_eq_true rfl) dX3_passMinute_111 rfl (fun H locs hw => ?_)
        refine lv_aload_n hx hb dX3_passMinute_114 rfl (lv_at hl 0 rfl) ?_
        refine x_get E hw fw_X3_37 0 rfl rfl dX3_passMinute_115 ?_
        exact x_iret E hA rt hw dX3_passMinute_118 (rfl) (by rw [hh, hbt, ek])
      · skip
        have cq12 : ¬ n ≤ k := fun h => cq12 ((cv_le (a := n) (b := k) rfl rfl (by omega) (by omega)).mpr h)
        refine lv_aload_n hx hb dX3_passMinute_15 rfl (lv_at hl 0 rfl) ?_
        refine x_get E hw fw_X3_24 0 rfl rfl dX3_passMinute_16 ?_
        refine lv_iload_n hx hb dX3_passMinute_19 rfl (lv_at hl 2 rfl) ?_
        refine lv_dup2_11 hx hb dX3_passMinute_20 rfl rfl ?_
        refine x_iald E hw 5 rfl k (rfl) (by omega) (by omega) dX3_passMinute_21 ?_
        refine lv_aload_n hx hb dX3_passMinute_22 rfl (lv_at hl 0 rfl) ?_
        refine lv_iload_n hx hb dX3_passMinute_23 rfl (lv_at hl 2 rfl) ?_
        refine lv_iload_n hx hb dX3_passMinute_24 rfl (lv_at hl 1 rfl) ?_
        refine x_callV (is := [0, 1, 2, 3, 4, 5]) (q0 := 0) (As := [.int (nI k), .int (bitr wo la n ki se wd hu bt)]) (rest := [.int (bt' k), .int (nI k), .ref (a 5)]) (st1 := [.int (tmS se n (bitr wo la n ki se wd hu bt) (nI k) n), .int (bt' k), .int (nI k), .ref (a 5)]) (ws' := tW G a wo mi bi la (nI n) ki se wd hu' bt') E (c_X3_timesBitten l G a (nI k) (bitr wo la n ki se wd hu bt) wo mi bi la n ki se wd hu' bt' (by omega)) vw_X3_95 hw [0, 1, 2, 3, 4, 5] rfl rfl rfl rfl rfl rfl rfl hl.1 rfl rfl (Nat.le_of_ble_eq_true rfl) ⟨Nat.le_of_ble_eq_true rfl, Nat.le_of_ble_eq_true rfl⟩ (Nat.zero_le _) (Nat.zero_le _) dX3_passMinute_25 rfl rfl (fun H locs hw => ?_)
        refine lv_iadd hx hb dX3_passMinute_28 ?_
        refine x_iast (ws' := tW G a wo mi bi la (nI n) ki se wd hu' (upd bt' k ((bt' k) + (tmS se n (bitr wo la n ki se wd hu bt) (nI k) n)))) E hw 5 rfl k (rfl) (by omega) (by omega) dX3_passMinute_29 rfl (fun H locs hw => ?_)
        refine lv_iload_n hx hb dX3_passMinute_30 rfl (lv_at hl 1 rfl) ?_
        refine lv_iload_n hx hb dX3_passMinute_31 rfl (lv_at hl 2 rfl) ?_
        refine lv_ishr hx hb dX3_passMinute_32 ?_
        refine lv_iconst (v := 1) hx hb dX3_passMinute_33 rfl ?_
        refine lv_iand hx hb dX3_passMinute_34 ?_
        refine lv_iconst (v := 1) hx hb dX3_passMinute_35 rfl ?_
        refine lv_icmp_ne (tgt := 58) hx hb dX3_passMinute_36 rfl (fun cq36 => ?_) (fun cq36 => ?_)
        · skip
          refine lv_aload_n hx hb dX3_passMinute_58 rfl (lv_at hl 0 rfl) ?_
          refine x_get E hw fw_X3_21 0 rfl rfl dX3_passMinute_59 ?_
          refine lv_iload_n hx hb dX3_passMinute_62 rfl (lv_at hl 2 rfl) ?_
          refine lv_bipush (v := 30) hx hb dX3_passMinute_63 rfl ?_
          refine lv_aload_n hx hb dX3_passMinute_65 rfl (lv_at hl 0 rfl) ?_
          refine x_get E hw fw_X3_21 0 rfl rfl dX3_passMinute_66 ?_
          refine lv_iload_n hx hb dX3_passMinute_69 rfl (lv_at hl 2 rfl) ?_
          refine x_iald E hw 4 rfl k (rfl) (by omega) (by omega) dX3_passMinute_70 ?_
          refine lv_iconst (v := 1) hx hb dX3_passMinute_71 rfl ?_
          refine lv_iadd hx hb dX3_passMinute_72 ?_
          refine x_mmin (v := (if ((hu' k) + 1) < 30 then ((hu' k) + 1) else 30)) E lw_X3_98 kw_math_min hl.1 (Nat.le_of_ble_eq_true rfl) (Nat.le_of_ble_eq_true rfl) (Nat.zero_le _) (Nat.zero_le _) dX3_passMinute_73 rfl ?_
          refine x_iast (ws' := tW G a wo mi bi la (nI n) ki se wd (upd hu' k (if ((hu' k) + 1) < 30 then ((hu' k) + 1) else 30)) (upd bt' k ((bt' k) + (tmS se n (bitr wo la n ki se wd hu bt) (nI k) n)))) E hw 4 rfl k (rfl) (by omega) (by omega) dX3_passMinute_76 rfl (fun H locs hw => ?_)
          refine lv_iinc (v := nI (k + 1)) (lv' := [(2, .int (nI (k + 1))), (0, .ref (a 0)), (1, .int (bitr wo la n ki se wd hu bt))]) hx hb dX3_passMinute_77 hl (k := 2) rfl (nI_add _ 1) (by decide) rfl (fun ls hl => ?_)
          refine lv_goto (tgt := 7) hx hb dX3_passMinute_80 rfl ?_
          exact ih7 (k + 1) (upd hu' k (if ((hu' k) + 1) < 30 then ((hu' k) + 1) else 30)) (upd bt' k ((bt' k) + (tmS se n (bitr wo la n ki se wd hu bt) (nI k) n))) (by omega) (fH_s2 hh (by simp [hasB, cq36])) (fB_s hbt) (by omega) _ _ _ hw (lv_sub hl [1, 2, 0] rfl)
        · skip
          refine lv_aload_n hx hb dX3_passMinute_39 rfl (lv_at hl 0 rfl) ?_
          refine x_get E hw fw_X3_21 0 rfl rfl dX3_passMinute_40 ?_
          refine lv_iload_n hx hb dX3_passMinute_43 rfl (lv_at hl 2 rfl) ?_
          refine lv_iconst (v := 0) hx hb dX3_passMinute_44 rfl ?_
          refine lv_aload_n hx hb dX3_passMinute_45 rfl (lv_at hl 0 rfl) ?_
          refine x_get E hw fw_X3_21 0 rfl rfl dX3_passMinute_46 ?_
          refine lv_iload_n hx hb dX3_passMinute_49 rfl (lv_at hl 2 rfl) ?_
          refine x_iald E hw 4 rfl k (rfl) (by omega) (by omega) dX3_passMinute_50 ?_
          refine lv_bipush (v := 8) hx hb dX3_passMinute_51 rfl ?_
          refine lv_isub hx hb dX3_passMinute_53 ?_
          refine x_mmax E lw_X3_84 kw_math_max hl.1 (Nat.le_of_ble_eq_true rfl) (Nat.le_of_ble_eq_true rfl) (Nat.zero_le _) (Nat.zero_le _) dX3_passMinute_54 ?_
          refine x_iast (ws' := tW G a wo mi bi la (nI n) ki se wd (upd hu' k (if 0 < ((hu' k) - 8) then ((hu' k) - 8) else 0)) (upd bt' k ((bt' k) + (tmS se n (bitr wo la n ki se wd hu bt) (nI k) n)))) E hw 4 rfl k (rfl) (by omega) (by omega) dX3_passMinute_57 rfl (fun H locs hw => ?_)
          refine lv_aload_n hx hb dX3_passMinute_58 rfl (lv_at hl 0 rfl) ?_
          refine x_get E hw fw_X3_21 0 rfl rfl dX3_passMinute_59 ?_
          refine lv_iload_n hx hb dX3_passMinute_62 rfl (lv_at hl 2 rfl) ?_
          refine lv_bipush (v := 30) hx hb dX3_passMinute_63 rfl ?_
          refine lv_aload_n hx hb dX3_passMinute_65 rfl (lv_at hl 0 rfl) ?_
          refine x_get E hw fw_X3_21 0 rfl rfl dX3_passMinute_66 ?_
          refine lv_iload_n hx hb dX3_passMinute_69 rfl (lv_at hl 2 rfl) ?_
          refine x_iald E hw 4 rfl k (rfl) (by omega) (by omega) dX3_passMinute_70 ?_
          refine lv_iconst (v := 1) hx hb dX3_passMinute_71 rfl ?_
          refine lv_iadd hx hb dX3_passMinute_72 ?_
          refine x_mmin (v := (if (((upd hu' k (if 0 < ((hu' k) - 8) then ((hu' k) - 8) else 0)) k) + 1) < 30 then (((upd hu' k (if 0 < ((hu' k) - 8) then ((hu' k) - 8) else 0)) k) + 1) else 30)) E lw_X3_98 kw_math_min hl.1 (Nat.le_of_ble_eq_true rfl) (Nat.le_of_ble_eq_true rfl) (Nat.zero_le _) (Nat.zero_le _) dX3_passMinute_73 rfl ?_
          refine x_iast (ws' := tW G a wo mi bi la (nI n) ki se wd (upd (upd hu' k (if 0 < ((hu' k) - 8) then ((hu' k) - 8) else 0)) k (if (((upd hu' k (if 0 < ((hu' k) - 8) then ((hu' k) - 8) else 0)) k) + 1) < 30 then (((upd hu' k (if 0 < ((hu' k) - 8) then ((hu' k) - 8) else 0)) k) + 1) else 30)) (upd bt' k ((bt' k) + (tmS se n (bitr wo la n ki se wd hu bt) (nI k) n)))) E hw 4 rfl k (rfl) (by omega) (by omega) dX3_passMinute_76 rfl (fun H locs hw => ?_)
          refine lv_iinc (v := nI (k + 1)) (lv' := [(2, .int (nI (k + 1))), (0, .ref (a 0)), (1, .int (bitr wo la n ki se wd hu bt))]) hx hb dX3_passMinute_77 hl (k := 2) rfl (nI_add _ 1) (by decide) rfl (fun ls hl => ?_)
          refine lv_goto (tgt := 7) hx hb dX3_passMinute_80 rfl ?_
          exact ih7 (k + 1) (upd (upd hu' k (if 0 < ((hu' k) - 8) then ((hu' k) - 8) else 0)) k (if (((upd hu' k (if 0 < ((hu' k) - 8) then ((hu' k) - 8) else 0)) k) + 1) < 30 then (((upd hu' k (if 0 < ((hu' k) - 8) then ((hu' k) - 8) else 0)) k) + 1) else 30)) (upd bt' k ((bt' k) + (tmS se n (bitr wo la n ki se wd hu bt) (nI k) n))) (by omega) (fH_s1 hh (by simp [hasB, cq36])) (fB_s hbt) (by omega) _ _ _ hw (lv_sub hl [1, 2, 0] rfl)
  exact lp7 (n - 0 + 1) 0 hu bt (by omega) ((pre_0 _ _).symm) ((pre_0 _ _).symm) (by omega) _ _ _ hw (lv_sub hl [2, 1, 0] rfl)
set_option maxHeartbeats 1000000 in
set_option maxRecDepth 100000 in
theorem c_X3_passMinutes (l : Launch) (G : GG) (a : Nat → Nat) (x : Int32) (mm : Nat) (hv_x : x = nI mm) (wo : Int32) (mi : Int32) (bi : Int32) (la : Int32) (n : Nat) (ki : Nat → Int32) (se : Nat → Int32) (wd : Nat → Int32) (hu : Nat → Int32) (bt : Nat → Int32) (hn : n ≤ 6) (hmm : mm < 2147483648) : CT l G yX3_passMinutes cX3_passMinutes 4 (some .int) 5 109 [.ref (a 0), .int x] (tW G a wo mi bi la (nI n) ki se wd hu bt) (some (.int ((pmN wo n ki se wd mm (mi, bi, la, hu, bt)).2.1 - bi))) (tW G a wo ((pmN wo n ki se wd mm (mi, bi, la, hu, bt)).1) ((pmN wo n ki se wd mm (mi, bi, la, hu, bt)).2.1) ((pmN wo n ki se wd mm (mi, bi, la, hu, bt)).2.2.1) (nI n) ki se wd ((pmN wo n ki se wd mm (mi, bi, la, hu, bt)).2.2.2.1) ((pmN wo n ki se wd mm (mi, bi, la, hu, bt)).2.2.2.2)) := by
  refine CT.mk (own := RX3) (la := [(0, .ref (a 0)), (1, .int x)]) (by decide) rfl (Nat.le_of_ble_eq_true rfl) rfl ?_
  intro p e s m args below meth c A Q E hA hw rt ls hl
  have hx := E.1
  have hb := E.2.1
  refine lv_iconst (v := 0) hx hb dX3_passMinutes_0 rfl ?_
  refine lv_istore_n (lv' := [(2, .int 0), (0, .ref (a 0)), (1, .int x)]) hx hb dX3_passMinutes_1 rfl hl (by decide) rfl (fun ls hl => ?_)
  refine lv_iconst (v := 0) hx hb dX3_passMinutes_2 rfl ?_
  refine lv_istore_n (lv' := [(3, .int 0), (2, .int 0), (0, .ref (a 0)), (1, .int x)]) hx hb dX3_passMinutes_3 rfl hl (by decide) rfl (fun ls hl => ?_)
  have lp4 : ∀ (fuel : Nat), ∀ (k : Nat) (acc : Int32) (mi' : Int32) (bi' : Int32) (la' : Int32) (hu' : Nat → Int32) (bt' : Nat → Int32) (hk : k ≤ mm) (hiv : acc = bi' - bi) (hdv : (mi', bi', la', hu', bt') = pmN wo n ki se wd k (mi, bi, la, hu, bt)), (mm - k) < fuel → ∀ (H : Heap) (locs : List Loc) (ls : Array Slot), Wd G A s H locs (tW G a wo mi' bi' la' (nI n) ki se wd hu' bt') → lv_has ls 4 [(0, .ref (a 0)), (1, .int x), (2, .int acc), (3, .int (nI k))] → W p l e (rmx 5 109) s m args below meth c H locs 0 0 Q (F0 m 4 ls []) := by
    intro fuel
    induction fuel with
    | zero => intro k acc mi' bi' la' hu' bt' hk hiv hdv hfu; exact absurd hfu (Nat.not_lt_zero _)
    | succ fuel ih4 =>
      intro k acc mi' bi' la' hu' bt' hk hiv hdv hfu H locs ls hw hl
      refine lv_iload_n hx hb dX3_passMinutes_4 rfl (lv_at hl 3 rfl) ?_
      refine lv_iload_n hx hb dX3_passMinutes_5 rfl (lv_at hl 1 rfl) ?_
      refine lv_icmp_ge (tgt := 22) hx hb dX3_passMinutes_6 rfl (fun cq6 => ?_) (fun cq6 => ?_)
      · skip
        have cq6 : mm ≤ k := (cv_le (a := mm) (b := k) hv_x rfl (by omega) (by omega)).mp cq6
        have ek : k = mm := by omega
        rw [ek] at hdv
        refine lv_iload_n hx hb dX3_passMinutes_22 rfl (lv_at hl 2 rfl) ?_
        exact x_iret E hA rt hw dX3_passMinutes_23 (by rw [hiv, ← hdv]) (by rw [← hdv])
      · skip
        have cq6 : ¬ mm ≤ k := fun h => cq6 ((cv_le (a := mm) (b := k) hv_x rfl (by omega) (by omega)).mpr h)
        refine lv_iload_n hx hb dX3_passMinutes_9 rfl (lv_at hl 2 rfl) ?_
        refine lv_aload_n hx hb dX3_passMinutes_10 rfl (lv_at hl 0 rfl) ?_
        refine x_callV (is := [0, 1, 2, 3, 4, 5]) (q0 := 0) (As := []) (rest := [.int acc]) (st1 := [.int (bcI (bitr wo la' n ki se wd hu' bt')), .int acc]) (ws' := tW G a wo (mi' + 1) (bi' + bcI (bitr wo la' n ki se wd hu' bt')) (bcI (bitr wo la' n ki se wd hu' bt')) (nI n) ki se wd (pre (fH (bitr wo la' n ki se wd hu' bt') hu') hu' n) (pre (fB se n (bitr wo la' n ki se wd hu' bt') bt') bt' n)) E (c_X3_passMinute l G a wo mi' bi' la' n ki se wd hu' bt' (by omega)) vw_X3_89 hw [0, 1, 2, 3, 4, 5] rfl rfl rfl rfl rfl rfl rfl hl.1 rfl rfl (Nat.le_of_ble_eq_true rfl) ⟨Nat.le_of_ble_eq_true rfl, Nat.le_of_ble_eq_true rfl⟩ (Nat.zero_le _) (Nat.zero_le _) dX3_passMinutes_11 rfl rfl (fun H locs hw => ?_)
        refine lv_iadd hx hb dX3_passMinutes_14 ?_
        refine lv_istore_n (lv' := [(2, .int (acc + (bcI (bitr wo la' n ki se wd hu' bt')))), (0, .ref (a 0)), (1, .int x), (3, .int (nI k))]) hx hb dX3_passMinutes_15 rfl hl (by decide) rfl (fun ls hl => ?_)
        refine lv_iinc (v := nI (k + 1)) (lv' := [(3, .int (nI (k + 1))), (2, .int (acc + (bcI (bitr wo la' n ki se wd hu' bt')))), (0, .ref (a 0)), (1, .int x)]) hx hb dX3_passMinutes_16 hl (k := 3) rfl (nI_add _ 1) (by decide) rfl (fun ls hl => ?_)
        refine lv_goto (tgt := 4) hx hb dX3_passMinutes_19 rfl ?_
        exact ih4 (k + 1) (acc + (bcI (bitr wo la' n ki se wd hu' bt'))) (mi' + 1) (bi' + bcI (bitr wo la' n ki se wd hu' bt')) (bcI (bitr wo la' n ki se wd hu' bt')) (pre (fH (bitr wo la' n ki se wd hu' bt') hu') hu' n) (pre (fB se n (bitr wo la' n ki se wd hu' bt') bt') bt' n) (by omega) (by rw [hiv]; grind) (by rw [pmN, ← hdv]; rfl) (by omega) _ _ _ hw (lv_sub hl [2, 3, 1, 0] rfl)
  exact lp4 (mm - 0 + 1) 0 0 mi bi la hu bt (by omega) (by grind) (rfl) (by omega) _ _ _ hw (lv_sub hl [2, 3, 1, 0] rfl)

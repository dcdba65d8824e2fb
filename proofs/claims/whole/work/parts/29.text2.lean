set_option maxHeartbeats 1000000 in
set_option maxRecDepth 100000 in
theorem c_X4_readWoman (K : KA) (l : Launch) (G : GG) (a : Nat → Nat) (b : Nat → Nat) (f : Nat → Int32) (z : Nat) (S : Cs) (wo : Int32) (mi : Int32) (bi : Int32) (la : Int32) (n : Nat) (ki : Nat → Int32) (se : Nat → Int32) (wd : Nat → Int32) (hu : Nat → Int32) (bt : Nat → Int32) (Z : Bool × Cs × Int32) (hp : S.1 ≤ z) (hz : z ≤ 150) (hZ : rwC f z S wo = Z) : CK K l G yX4_readWoman cX4_readWoman 2 (some .boolean) 8 168 [.ref (a 0), .ref (b 0)] ((xT G a f (nI z) (nI S.1) (nI S.2.1) S.2.2.1 S.2.2.2) ++ (tW G b wo mi bi la (nI n) ki se wd hu bt)) (some (.int (bI Z.1))) ((xT G a f (nI z) (nI Z.2.1.1) (nI Z.2.1.2.1) Z.2.1.2.2.1 Z.2.1.2.2.2) ++ (tW G b Z.2.2 mi bi la (nI n) ki se wd hu bt)) := by
  refine CK.mk (own := RX4) (la := [(0, .ref (a 0)), (1, .ref (b 0))]) (by decide) rfl (Nat.le_of_ble_eq_true rfl) rfl ?_
  intro p e s m args below meth c A Q E hA hw rt ls hl hS
  have hx := E.1
  have hb := E.2.1
  obtain ⟨T1, hT1⟩ : ∃ T, nxk f z S = T := ⟨_, rfl⟩
  have s1 := nxk_ok (f := f) hp
  rw [hT1] at s1
  obtain ⟨T2, hT2⟩ : ∃ T, nxk f z T1 = T := ⟨_, rfl⟩
  have s2 := nxk_ok (f := f) s1.2.1
  rw [hT2] at s2
  refine lv_aload_n hx hb dX4_readWoman_0 rfl (lv_at hl 0 rfl) ?_
  refine lv_bipush (v := 7) hx hb dX4_readWoman_1 rfl ?_
  refine k_callV (is := [0, 1]) (q0 := 0) (As := [.int 7]) (rest := []) (st1 := [.int (bI (nbC T1 7))]) (ws' := (xT G a f (nI z) (nI T1.1) (nI T1.2.1) T1.2.2.1 T1.2.2.2) ++ (tW G b wo mi bi la (nI n) ki se wd hu bt)) E hS (c_X4_nextNumber K l G a 7 f z S T1 (hp) (hz) (hT1)) vw_X4_47 hw [0, 1] rfl rfl rfl rfl rfl rfl rfl hl.1 rfl rfl (Nat.le_of_ble_eq_true rfl) ⟨Nat.le_of_ble_eq_true rfl, Nat.le_of_ble_eq_true rfl⟩ (Nat.zero_le _) (Nat.zero_le _) dX4_readWoman_3 rfl rfl (fun H locs hw => ?_)
  refine lv_if_ne (tgt := 11) hx hb dX4_readWoman_6 rfl (fun cq6 => ?_) (fun cq6 => ?_)
  · skip
    have cq6 := bI_n0.mp cq6
    refine lv_aload_n hx hb dX4_readWoman_11 rfl (lv_at hl 1 rfl) ?_
    refine lv_aload_n hx hb dX4_readWoman_12 rfl (lv_at hl 0 rfl) ?_
    refine x_get E hw fw_X4_51 0 rfl rfl dX4_readWoman_13 ?_
    refine x_put (ws' := (xT G a f (nI z) (nI T1.1) (nI T1.2.1) T1.2.2.1 T1.2.2.2) ++ (tW G b T1.2.2.2 mi bi la (nI n) ki se wd hu bt)) (ty := .int) E hw fw_X4_54 2 rfl rfl rfl (by decide +kernel) rfl rfl (Nat.le_of_ble_eq_true rfl) dX4_readWoman_16 rfl (fun H locs hw => ?_)
    refine lv_aload_n hx hb dX4_readWoman_19 rfl (lv_at hl 0 rfl) ?_
    refine k_callV (is := [0, 1]) (q0 := 0) (As := []) (rest := []) (st1 := [.int (bI (mkC T2))]) (ws' := (xT G a f (nI z) (nI T2.1) (nI T2.2.1) T2.2.2.1 T2.2.2.2) ++ (tW G b T1.2.2.2 mi bi la (nI n) ki se wd hu bt)) E hS (c_X4_nextMark K l G a f z T1 T2 (s1.2.1) (hz) (hT2)) vw_X4_57 hw [0, 1] rfl rfl rfl rfl rfl rfl rfl hl.1 rfl rfl (Nat.le_of_ble_eq_true rfl) ⟨Nat.le_of_ble_eq_true rfl, Nat.le_of_ble_eq_true rfl⟩ (Nat.zero_le _) (Nat.zero_le _) dX4_readWoman_20 rfl rfl (fun H locs hw => ?_)
    exact x_zret E hA rt hw (bI_nar _) dX4_readWoman_23 ((congrArg (fun T : Bool × Cs × Int32 => bI T.1) (show Z = (mkC T2, T2, T1.2.2.2) from by rw [← hZ, rwC, hT1, if_pos cq6, hT2])).symm) ((congrArg (fun T : Bool × Cs × Int32 => xT G a f (nI z) (nI T.2.1.1) (nI T.2.1.2.1) T.2.1.2.2.1 T.2.1.2.2.2 ++ tW G b T.2.2 mi bi la (nI n) ki se wd hu bt) (show Z = (mkC T2, T2, T1.2.2.2) from by rw [← hZ, rwC, hT1, if_pos cq6, hT2])).symm)
  · skip
    have cq6 := bI_0.mp cq6
    refine lv_iconst (v := 0) hx hb dX4_readWoman_9 rfl ?_
    exact x_zret E hA rt hw (by decide) dX4_readWoman_10 ((congrArg (fun T : Bool × Cs × Int32 => bI T.1) (show Z = (false, T1, wo) from by rw [← hZ, rwC, hT1, if_neg (by rw [cq6]; decide)])).symm) ((congrArg (fun T : Bool × Cs × Int32 => xT G a f (nI z) (nI T.2.1.1) (nI T.2.1.2.1) T.2.1.2.2.1 T.2.1.2.2.2 ++ tW G b T.2.2 mi bi la (nI n) ki se wd hu bt) (show Z = (false, T1, wo) from by rw [← hZ, rwC, hT1, if_neg (by rw [cq6]; decide)])).symm)
set_option maxHeartbeats 1000000 in
set_option maxRecDepth 100000 in
theorem c_X4_readCarrot (K : KA) (l : Launch) (G : GG) (a : Nat → Nat) (b : Nat → Nat) (f : Nat → Int32) (z : Nat) (S : Cs) (wo : Int32) (mi : Int32) (bi : Int32) (la : Int32) (n : Nat) (ki : Nat → Int32) (se : Nat → Int32) (wd : Nat → Int32) (hu : Nat → Int32) (bt : Nat → Int32) (Z : Bool × Cs × (Nat → Int32)) (hp : S.1 ≤ z) (hz : z ≤ 150) (hn : n ≤ 6) (hZ : crC f z S n hu = Z) : CK K l G yX4_readCarrot cX4_readCarrot 2 (some .boolean) 8 168 [.ref (a 0), .ref (b 0)] ((xT G a f (nI z) (nI S.1) (nI S.2.1) S.2.2.1 S.2.2.2) ++ (tW G b wo mi bi la (nI n) ki se wd hu bt)) (some (.int (bI Z.1))) ((xT G a f (nI z) (nI Z.2.1.1) (nI Z.2.1.2.1) Z.2.1.2.2.1 Z.2.1.2.2.2) ++ (tW G b wo mi bi la (nI n) ki se wd Z.2.2 bt)) := by
  refine CK.mk (own := RX4) (la := [(0, .ref (a 0)), (1, .ref (b 0))]) (by decide) rfl (Nat.le_of_ble_eq_true rfl) rfl ?_
  intro p e s m args below meth c A Q E hA hw rt ls hl hS
  have hx := E.1
  have hb := E.2.1
  obtain ⟨T1, hT1⟩ : ∃ T, nxk f z S = T := ⟨_, rfl⟩
  have s1 := nxk_ok (f := f) hp
  rw [hT1] at s1
  obtain ⟨T2, hT2⟩ : ∃ T, nxk f z T1 = T := ⟨_, rfl⟩
  have s2 := nxk_ok (f := f) s1.2.1
  rw [hT2] at s2
  refine lv_aload_n hx hb dX4_readCarrot_0 rfl (lv_at hl 0 rfl) ?_
  refine lv_aload_n hx hb dX4_readCarrot_1 rfl (lv_at hl 1 rfl) ?_
  refine x_get E hw fw_X4_61 2 rfl rfl dX4_readCarrot_2 ?_
  refine lv_iconst (v := 1) hx hb dX4_readCarrot_5 rfl ?_
  refine lv_isub hx hb dX4_readCarrot_6 ?_
  refine k_callV (is := [0, 1]) (q0 := 0) (As := [.int ((nI n) - 1)]) (rest := []) (st1 := [.int (bI (nbC T1 ((nI n) - 1)))]) (ws' := (xT G a f (nI z) (nI T1.1) (nI T1.2.1) T1.2.2.1 T1.2.2.2) ++ (tW G b wo mi bi la (nI n) ki se wd hu bt)) E hS (c_X4_nextNumber K l G a ((nI n) - 1) f z S T1 (hp) (hz) (hT1)) vw_X4_47 hw [0, 1] rfl rfl rfl rfl rfl rfl rfl hl.1 rfl rfl (Nat.le_of_ble_eq_true rfl) ⟨Nat.le_of_ble_eq_true rfl, Nat.le_of_ble_eq_true rfl⟩ (Nat.zero_le _) (Nat.zero_le _) dX4_readCarrot_7 rfl rfl (fun H locs hw => ?_)
  refine lv_if_ne (tgt := 15) hx hb dX4_readCarrot_10 rfl (fun cq10 => ?_) (fun cq10 => ?_)
  · skip
    have cq10 := bI_n0.mp cq10
    obtain ⟨kv, hk6, hkv⟩ := nbC_lt (f := f) (z := z) (S := S) hn (by rw [hT1]; exact cq10)
    rw [hT1] at hkv
    refine lv_aload_n hx hb dX4_readCarrot_15 rfl (lv_at hl 1 rfl) ?_
    refine lv_aload_n hx hb dX4_readCarrot_16 rfl (lv_at hl 0 rfl) ?_
    refine x_get E hw fw_X4_51 0 rfl rfl dX4_readCarrot_17 ?_
    refine x_callV (is := [2, 3, 4, 5, 6, 7]) (q0 := 2) (As := [.int T1.2.2.2]) (rest := []) (st1 := [.int (mx0 (hu kv - 10))]) (ws' := (xT G a f (nI z) (nI T1.1) (nI T1.2.1) T1.2.2.1 T1.2.2.2) ++ (tW G b wo mi bi la (nI n) ki se wd (upd hu kv (mx0 (hu kv - 10))) bt)) E (c_X3_giveCarrot l G b T1.2.2.2 kv (hkv) wo mi bi la n ki se wd hu bt (by omega)) vw_X4_72 hw [2, 3, 4, 5, 6, 7] rfl rfl rfl rfl rfl rfl rfl hl.1 rfl rfl (Nat.le_of_ble_eq_true rfl) ⟨Nat.le_of_ble_eq_true rfl, Nat.le_of_ble_eq_true rfl⟩ (Nat.zero_le _) (Nat.zero_le _) dX4_readCarrot_20 rfl rfl (fun H locs hw => ?_)
    refine lv_pop hx hb dX4_readCarrot_23 rfl ?_
    refine lv_aload_n hx hb dX4_readCarrot_24 rfl (lv_at hl 0 rfl) ?_
    refine k_callV (is := [0, 1]) (q0 := 0) (As := []) (rest := []) (st1 := [.int (bI (mkC T2))]) (ws' := (xT G a f (nI z) (nI T2.1) (nI T2.2.1) T2.2.2.1 T2.2.2.2) ++ (tW G b wo mi bi la (nI n) ki se wd (upd hu kv (mx0 (hu kv - 10))) bt)) E hS (c_X4_nextMark K l G a f z T1 T2 (s1.2.1) (hz) (hT2)) vw_X4_57 hw [0, 1] rfl rfl rfl rfl rfl rfl rfl hl.1 rfl rfl (Nat.le_of_ble_eq_true rfl) ⟨Nat.le_of_ble_eq_true rfl, Nat.le_of_ble_eq_true rfl⟩ (Nat.zero_le _) (Nat.zero_le _) dX4_readCarrot_25 rfl rfl (fun H locs hw => ?_)
    exact x_zret E hA rt hw (bI_nar _) dX4_readCarrot_28 ((congrArg (fun T : Bool × Cs × (Nat → Int32) => bI T.1) (show Z = (mkC T2, T2, upd hu kv (mx0 (hu kv - 10))) from by rw [← hZ, crC, hT1, if_pos cq10, hT2, hkv, nI_clamp (by omega)])).symm) ((congrArg (fun T : Bool × Cs × (Nat → Int32) => xT G a f (nI z) (nI T.2.1.1) (nI T.2.1.2.1) T.2.1.2.2.1 T.2.1.2.2.2 ++ tW G b wo mi bi la (nI n) ki se wd T.2.2 bt) (show Z = (mkC T2, T2, upd hu kv (mx0 (hu kv - 10))) from by rw [← hZ, crC, hT1, if_pos cq10, hT2, hkv, nI_clamp (by omega)])).symm)
  · skip
    have cq10 := bI_0.mp cq10
    refine lv_iconst (v := 0) hx hb dX4_readCarrot_13 rfl ?_
    exact x_zret E hA rt hw (by decide) dX4_readCarrot_14 ((congrArg (fun T : Bool × Cs × (Nat → Int32) => bI T.1) (show Z = (false, T1, hu) from by rw [← hZ, crC, hT1, if_neg (by rw [cq10]; decide)])).symm) ((congrArg (fun T : Bool × Cs × (Nat → Int32) => xT G a f (nI z) (nI T.2.1.1) (nI T.2.1.2.1) T.2.1.2.2.1 T.2.1.2.2.2 ++ tW G b wo mi bi la (nI n) ki se wd T.2.2 bt) (show Z = (false, T1, hu) from by rw [← hZ, crC, hT1, if_neg (by rw [cq10]; decide)])).symm)
set_option maxHeartbeats 1000000 in
set_option maxRecDepth 100000 in
theorem c_X4_readChild (K : KA) (l : Launch) (G : GG) (a : Nat → Nat) (b : Nat → Nat) (f : Nat → Int32) (z : Nat) (S : Cs) (wo : Int32) (mi : Int32) (bi : Int32) (la : Int32) (n : Nat) (ki : Nat → Int32) (se : Nat → Int32) (wd : Nat → Int32) (hu : Nat → Int32) (bt : Nat → Int32) (Z : Bool × Cs × Tq) (hp : S.1 ≤ z) (hz : z ≤ 150) (hn : n ≤ 6) (hZ : rcC f z S n ki se wd hu bt = Z) : CK K l G yX4_readChild cX4_readChild 5 (some .boolean) 8 168 [.ref (a 0), .ref (b 0)] ((xT G a f (nI z) (nI S.1) (nI S.2.1) S.2.2.1 S.2.2.2) ++ (tW G b wo mi bi la (nI n) ki se wd hu bt)) (some (.int (bI Z.1))) ((xT G a f (nI z) (nI Z.2.1.1) (nI Z.2.1.2.1) Z.2.1.2.2.1 Z.2.1.2.2.2) ++ (tW G b wo mi bi la (nI Z.2.2.1) Z.2.2.2.1 Z.2.2.2.2.1 Z.2.2.2.2.2.1 Z.2.2.2.2.2.2.1 Z.2.2.2.2.2.2.2)) := by
  refine CK.mk (own := RX4) (la := [(0, .ref (a 0)), (1, .ref (b 0))]) (by decide) rfl (Nat.le_of_ble_eq_true rfl) rfl ?_
  intro p e s m args below meth c A Q E hA hw rt ls hl hS
  have hx := E.1
  have hb := E.2.1
  obtain ⟨T1, hT1⟩ : ∃ T, nxk f z S = T := ⟨_, rfl⟩
  have s1 := nxk_ok (f := f) hp
  rw [hT1] at s1
  obtain ⟨T2, hT2⟩ : ∃ T, nxk f z T1 = T := ⟨_, rfl⟩
  have s2 := nxk_ok (f := f) s1.2.1
  rw [hT2] at s2
  obtain ⟨T3, hT3⟩ : ∃ T, nxk f z T2 = T := ⟨_, rfl⟩
  have s3 := nxk_ok (f := f) s2.2.1
  rw [hT3] at s3
  obtain ⟨T4, hT4⟩ : ∃ T, nxk f z T3 = T := ⟨_, rfl⟩
  have s4 := nxk_ok (f := f) s3.2.1
  rw [hT4] at s4
  obtain ⟨T5, hT5⟩ : ∃ T, nxk f z T4 = T := ⟨_, rfl⟩
  have s5 := nxk_ok (f := f) s4.2.1
  rw [hT5] at s5
  refine lv_aload_n hx hb dX4_readChild_0 rfl (lv_at hl 1 rfl) ?_
  refine x_get E hw fw_X4_61 2 rfl rfl dX4_readChild_1 ?_
  refine lv_bipush (v := 6) hx hb dX4_readChild_4 rfl ?_
  refine lv_icmp_ge (tgt := 17) hx hb dX4_readChild_6 rfl (fun cq6 => ?_) (fun cq6 => ?_)
  · skip
    have cq6 : 6 ≤ n := (cv_le (a := 6) (b := n) rfl rfl (by omega) (by omega)).mp cq6
    refine lv_iconst (v := 0) hx hb dX4_readChild_17 rfl ?_
    exact x_zret E hA rt hw (by decide) dX4_readChild_18 ((congrArg (fun T : Bool × Cs × Tq => bI T.1) (show Z = (false, S, n, ki, se, wd, hu, bt) from by rw [← hZ, rcC, if_pos cq6])).symm) ((congrArg (fun T : Bool × Cs × Tq => xT G a f (nI z) (nI T.2.1.1) (nI T.2.1.2.1) T.2.1.2.2.1 T.2.1.2.2.2 ++ tW G b wo mi bi la (nI T.2.2.1) T.2.2.2.1 T.2.2.2.2.1 T.2.2.2.2.2.1 T.2.2.2.2.2.2.1 T.2.2.2.2.2.2.2) (show Z = (false, S, n, ki, se, wd, hu, bt) from by rw [← hZ, rcC, if_pos cq6])).symm)
  · skip
    have cq6 : ¬ 6 ≤ n := fun h => cq6 ((cv_le (a := 6) (b := n) rfl rfl (by omega) (by omega)).mpr h)
    refine lv_aload_n hx hb dX4_readChild_9 rfl (lv_at hl 0 rfl) ?_
    refine lv_iconst (v := 5) hx hb dX4_readChild_10 rfl ?_
    refine k_callV (is := [0, 1]) (q0 := 0) (As := [.int 5]) (rest := []) (st1 := [.int (bI (nbC T1 5))]) (ws' := (xT G a f (nI z) (nI T1.1) (nI T1.2.1) T1.2.2.1 T1.2.2.2) ++ (tW G b wo mi bi la (nI n) ki se wd hu bt)) E hS (c_X4_nextNumber K l G a 5 f z S T1 (hp) (hz) (hT1)) vw_X4_47 hw [0, 1] rfl rfl rfl rfl rfl rfl rfl hl.1 rfl rfl (Nat.le_of_ble_eq_true rfl) ⟨Nat.le_of_ble_eq_true rfl, Nat.le_of_ble_eq_true rfl⟩ (Nat.zero_le _) (Nat.zero_le _) dX4_readChild_11 rfl rfl (fun H locs hw => ?_)
    refine lv_if_ne (tgt := 19) hx hb dX4_readChild_14 rfl (fun cq14 => ?_) (fun cq14 => ?_)
    · skip
      have cq14 := bI_n0.mp cq14
      refine lv_aload_n hx hb dX4_readChild_19 rfl (lv_at hl 0 rfl) ?_
      refine x_get E hw fw_X4_51 0 rfl rfl dX4_readChild_20 ?_
      refine lv_istore_n (lv' := [(2, .int T1.2.2.2), (0, .ref (a 0)), (1, .ref (b 0))]) hx hb dX4_readChild_23 rfl hl (by decide) rfl (fun ls hl => ?_)
      refine lv_aload_n hx hb dX4_readChild_24 rfl (lv_at hl 1 rfl) ?_
      refine lv_bipush (v := 7) hx hb dX4_readChild_25 rfl ?_
      refine k_callV (is := [0, 1]) (q0 := 0) (As := [.int 7]) (rest := []) (st1 := [.int (bI (nbC T2 7))]) (ws' := (xT G a f (nI z) (nI T2.1) (nI T2.2.1) T2.2.2.1 T2.2.2.2) ++ (tW G b wo mi bi la (nI n) ki se wd hu bt)) E hS (c_X4_nextNumber K l G a 7 f z T1 T2 (s1.2.1) (hz) (hT2)) vw_X4_47 hw [0, 1] rfl rfl rfl rfl rfl rfl rfl hl.1 rfl rfl (Nat.le_of_ble_eq_true rfl) ⟨Nat.le_of_ble_eq_true rfl, Nat.le_of_ble_eq_true rfl⟩ (Nat.zero_le _) (Nat.zero_le _) dX4_readChild_27 rfl rfl (fun H locs hw => ?_)
      refine lv_if_eq (tgt := 45) hx hb dX4_readChild_30 rfl (fun cq30 => ?_) (fun cq30 => ?_)
      · skip
        have cq30 := bI_0.mp cq30
        refine lv_iconst (v := 0) hx hb dX4_readChild_45 rfl ?_
        exact x_zret E hA rt hw (by decide) dX4_readChild_46 ((congrArg (fun T : Bool × Cs × Tq => bI T.1) (show Z = (false, T2, n, ki, se, wd, hu, bt) from by rw [← hZ, rcC, if_neg cq6, hT1, if_pos cq14, hT2, if_neg (by rw [cq30]; decide)])).symm) ((congrArg (fun T : Bool × Cs × Tq => xT G a f (nI z) (nI T.2.1.1) (nI T.2.1.2.1) T.2.1.2.2.1 T.2.1.2.2.2 ++ tW G b wo mi bi la (nI T.2.2.1) T.2.2.2.1 T.2.2.2.2.1 T.2.2.2.2.2.1 T.2.2.2.2.2.2.1 T.2.2.2.2.2.2.2) (show Z = (false, T2, n, ki, se, wd, hu, bt) from by rw [← hZ, rcC, if_neg cq6, hT1, if_pos cq14, hT2, if_neg (by rw [cq30]; decide)])).symm)
      · skip
        have cq30 := bI_n0.mp cq30
        refine lv_aload_n hx hb dX4_readChild_33 rfl (lv_at hl 2 rfl) ?_
        refine lv_aload_n hx hb dX4_readChild_34 rfl (lv_at hl 1 rfl) ?_
        refine x_get E hw fw_X4_51 0 rfl rfl dX4_readChild_35 ?_
        refine x_callV (is := [2, 3, 4, 5, 6, 7]) (q0 := 2) (As := [.int T2.2.2.2]) (rest := []) (st1 := [.int (fi se T2.2.2.2 n 0)]) (ws' := (xT G a f (nI z) (nI T2.1) (nI T2.2.1) T2.2.2.1 T2.2.2.2) ++ (tW G b wo mi bi la (nI n) ki se wd hu bt)) E (c_X3_childAt l G b T2.2.2.2 wo mi bi la n ki se wd hu bt (by omega)) vw_X4_64 hw [2, 3, 4, 5, 6, 7] rfl rfl rfl rfl rfl rfl rfl hl.1 rfl rfl (Nat.le_of_ble_eq_true rfl) ⟨Nat.le_of_ble_eq_true rfl, Nat.le_of_ble_eq_true rfl⟩ (Nat.zero_le _) (Nat.zero_le _) dX4_readChild_38 rfl rfl (fun H locs hw => ?_)
        refine lv_iconst (v := -1) hx hb dX4_readChild_41 rfl ?_
        refine lv_icmp_eq (tgt := 47) hx hb dX4_readChild_42 rfl (fun cq42 => ?_) (fun cq42 => ?_)
        · skip
          refine lv_aload_n hx hb dX4_readChild_47 rfl (lv_at hl 1 rfl) ?_
          refine x_get E hw fw_X4_51 0 rfl rfl dX4_readChild_48 ?_
          refine lv_istore_n (lv' := [(3, .int T2.2.2.2), (2, .int T1.2.2.2), (0, .ref (a 0)), (1, .ref (b 0))]) hx hb dX4_readChild_51 rfl hl (by decide) rfl (fun ls hl => ?_)
          refine lv_aload_n hx hb dX4_readChild_52 rfl (lv_at hl 2 rfl) ?_
          refine lv_bipush (v := 20) hx hb dX4_readChild_53 rfl ?_
          refine k_callV (is := [0, 1]) (q0 := 0) (As := [.int 20]) (rest := []) (st1 := [.int (bI (nbC T3 20))]) (ws' := (xT G a f (nI z) (nI T3.1) (nI T3.2.1) T3.2.2.1 T3.2.2.2) ++ (tW G b wo mi bi la (nI n) ki se wd hu bt)) E hS (c_X4_nextNumber K l G a 20 f z T2 T3 (s2.2.1) (hz) (hT3)) vw_X4_47 hw [0, 1] rfl rfl rfl rfl rfl rfl rfl hl.1 rfl rfl (Nat.le_of_ble_eq_true rfl) ⟨Nat.le_of_ble_eq_true rfl, Nat.le_of_ble_eq_true rfl⟩ (Nat.zero_le _) (Nat.zero_le _) dX4_readChild_55 rfl rfl (fun H locs hw => ?_)
          refine lv_if_ne (tgt := 63) hx hb dX4_readChild_58 rfl (fun cq58 => ?_) (fun cq58 => ?_)
          · skip
            have cq58 := bI_n0.mp cq58
            refine lv_aload_n hx hb dX4_readChild_63 rfl (lv_at hl 2 rfl) ?_
            refine x_get E hw fw_X4_51 0 rfl rfl dX4_readChild_64 ?_
            refine lv_istore (lv' := [(4, .int T3.2.2.2), (3, .int T2.2.2.2), (2, .int T1.2.2.2), (0, .ref (a 0)), (1, .ref (b 0))]) hx hb dX4_readChild_67 hl (by decide) rfl (fun ls hl => ?_)
            refine lv_aload_n hx hb dX4_readChild_69 rfl (lv_at hl 3 rfl) ?_
            refine lv_bipush (v := 30) hx hb dX4_readChild_70 rfl ?_
            refine k_callV (is := [0, 1]) (q0 := 0) (As := [.int 30]) (rest := []) (st1 := [.int (bI (nbC T4 30))]) (ws' := (xT G a f (nI z) (nI T4.1) (nI T4.2.1) T4.2.2.1 T4.2.2.2) ++ (tW G b wo mi bi la (nI n) ki se wd hu bt)) E hS (c_X4_nextNumber K l G a 30 f z T3 T4 (s3.2.1) (hz) (hT4)) vw_X4_47 hw [0, 1] rfl rfl rfl rfl rfl rfl rfl hl.1 rfl rfl (Nat.le_of_ble_eq_true rfl) ⟨Nat.le_of_ble_eq_true rfl, Nat.le_of_ble_eq_true rfl⟩ (Nat.zero_le _) (Nat.zero_le _) dX4_readChild_72 rfl rfl (fun H locs hw => ?_)
            refine lv_if_ne (tgt := 80) hx hb dX4_readChild_75 rfl (fun cq75 => ?_) (fun cq75 => ?_)
            · skip
              have cq75 := bI_n0.mp cq75
              refine lv_aload_n hx hb dX4_readChild_80 rfl (lv_at hl 4 rfl) ?_
              refine lv_iload_n hx hb dX4_readChild_81 rfl (lv_at hl 2 rfl) ?_
              refine lv_iload_n hx hb dX4_readChild_82 rfl (lv_at hl 1 rfl) ?_
              refine lv_iload hx hb dX4_readChild_83 (lv_at hl 0 rfl) ?_
              refine lv_aload_n hx hb dX4_readChild_85 rfl (lv_at hl 3 rfl) ?_
              refine x_get E hw fw_X4_51 0 rfl rfl dX4_readChild_86 ?_
              refine x_callV (is := [2, 3, 4, 5, 6, 7]) (q0 := 2) (As := [.int T1.2.2.2, .int T2.2.2.2, .int T3.2.2.2, .int T4.2.2.2]) (rest := []) (st1 := [.int (nI n)]) (ws' := (xT G a f (nI z) (nI T4.1) (nI T4.2.1) T4.2.2.1 T4.2.2.2) ++ (tW G b wo mi bi la (nI (n + 1)) (upd ki n T1.2.2.2) (upd se n T2.2.2.2) (upd wd n T3.2.2.2) (upd hu n T4.2.2.2) (upd bt n 0))) E (c_X3_addChild l G b T1.2.2.2 T2.2.2.2 T3.2.2.2 T4.2.2.2 wo mi bi la n ki se wd hu bt (by omega)) vw_X4_68 hw [2, 3, 4, 5, 6, 7] rfl rfl rfl rfl rfl rfl rfl hl.1 rfl rfl (Nat.le_of_ble_eq_true rfl) ⟨Nat.le_of_ble_eq_true rfl, Nat.le_of_ble_eq_true rfl⟩ (Nat.zero_le _) (Nat.zero_le _) dX4_readChild_89 rfl rfl (fun H locs hw => ?_)
              refine lv_pop hx hb dX4_readChild_92 rfl ?_
              refine lv_aload_n hx hb dX4_readChild_93 rfl (lv_at hl 3 rfl) ?_
              refine k_callV (is := [0, 1]) (q0 := 0) (As := []) (rest := []) (st1 := [.int (bI (mkC T5))]) (ws' := (xT G a f (nI z) (nI T5.1) (nI T5.2.1) T5.2.2.1 T5.2.2.2) ++ (tW G b wo mi bi la (nI (n + 1)) (upd ki n T1.2.2.2) (upd se n T2.2.2.2) (upd wd n T3.2.2.2) (upd hu n T4.2.2.2) (upd bt n 0))) E hS (c_X4_nextMark K l G a f z T4 T5 (s4.2.1) (hz) (hT5)) vw_X4_57 hw [0, 1] rfl rfl rfl rfl rfl rfl rfl hl.1 rfl rfl (Nat.le_of_ble_eq_true rfl) ⟨Nat.le_of_ble_eq_true rfl, Nat.le_of_ble_eq_true rfl⟩ (Nat.zero_le _) (Nat.zero_le _) dX4_readChild_94 rfl rfl (fun H locs hw => ?_)
              exact x_zret E hA rt hw (bI_nar _) dX4_readChild_97 ((congrArg (fun T : Bool × Cs × Tq => bI T.1) (show Z = (mkC T5, T5, n + 1, upd ki n T1.2.2.2, upd se n T2.2.2.2, upd wd n T3.2.2.2, upd hu n T4.2.2.2, upd bt n 0) from by rw [← hZ, rcC, if_neg cq6, hT1, if_pos cq14, hT2, if_pos cq30, if_pos cq42, hT3, if_pos cq58, hT4, if_pos cq75, hT5])).symm) ((congrArg (fun T : Bool × Cs × Tq => xT G a f (nI z) (nI T.2.1.1) (nI T.2.1.2.1) T.2.1.2.2.1 T.2.1.2.2.2 ++ tW G b wo mi bi la (nI T.2.2.1) T.2.2.2.1 T.2.2.2.2.1 T.2.2.2.2.2.1 T.2.2.2.2.2.2.1 T.2.2.2.2.2.2.2) (show Z = (mkC T5, T5, n + 1, upd ki n T1.2.2.2, upd se n T2.2.2.2, upd wd n T3.2.2.2, upd hu n T4.2.2.2, upd bt n 0) from by rw [← hZ, rcC, if_neg cq6, hT1, if_pos cq14, hT2, if_pos cq30, if_pos cq42, hT3, if_pos cq58, hT4, if_pos cq75, hT5])).symm)
            · skip
              have cq75 := bI_0.mp cq75
              refine lv_iconst (v := 0) hx hb dX4_readChild_78 rfl ?_
              exact x_zret E hA rt hw (by decide) dX4_readChild_79 ((congrArg (fun T : Bool × Cs × Tq => bI T.1) (show Z = (false, T4, n, ki, se, wd, hu, bt) from by rw [← hZ, rcC, if_neg cq6, hT1, if_pos cq14, hT2, if_pos cq30, if_pos cq42, hT3, if_pos cq58, hT4, if_neg (by rw [cq75]; decide)])).symm) ((congrArg (fun T : Bool × Cs × Tq => xT G a f (nI z) (nI T.2.1.1) (nI T.2.1.2.1) T.2.1.2.2.1 T.2.1.2.2.2 ++ tW G b wo mi bi la (nI T.2.2.1) T.2.2.2.1 T.2.2.2.2.1 T.2.2.2.2.2.1 T.2.2.2.2.2.2.1 T.2.2.2.2.2.2.2) (show Z = (false, T4, n, ki, se, wd, hu, bt) from by rw [← hZ, rcC, if_neg cq6, hT1, if_pos cq14, hT2, if_pos cq30, if_pos cq42, hT3, if_pos cq58, hT4, if_neg (by rw [cq75]; decide)])).symm)
          · skip
            have cq58 := bI_0.mp cq58
            refine lv_iconst (v := 0) hx hb dX4_readChild_61 rfl ?_
            exact x_zret E hA rt hw (by decide) dX4_readChild_62 ((congrArg (fun T : Bool × Cs × Tq => bI T.1) (show Z = (false, T3, n, ki, se, wd, hu, bt) from by rw [← hZ, rcC, if_neg cq6, hT1, if_pos cq14, hT2, if_pos cq30, if_pos cq42, hT3, if_neg (by rw [cq58]; decide)])).symm) ((congrArg (fun T : Bool × Cs × Tq => xT G a f (nI z) (nI T.2.1.1) (nI T.2.1.2.1) T.2.1.2.2.1 T.2.1.2.2.2 ++ tW G b wo mi bi la (nI T.2.2.1) T.2.2.2.1 T.2.2.2.2.1 T.2.2.2.2.2.1 T.2.2.2.2.2.2.1 T.2.2.2.2.2.2.2) (show Z = (false, T3, n, ki, se, wd, hu, bt) from by rw [← hZ, rcC, if_neg cq6, hT1, if_pos cq14, hT2, if_pos cq30, if_pos cq42, hT3, if_neg (by rw [cq58]; decide)])).symm)
        · skip
          refine lv_iconst (v := 0) hx hb dX4_readChild_45 rfl ?_
          exact x_zret E hA rt hw (by decide) dX4_readChild_46 ((congrArg (fun T : Bool × Cs × Tq => bI T.1) (show Z = (false, T2, n, ki, se, wd, hu, bt) from by rw [← hZ, rcC, if_neg cq6, hT1, if_pos cq14, hT2, if_pos cq30, if_neg cq42])).symm) ((congrArg (fun T : Bool × Cs × Tq => xT G a f (nI z) (nI T.2.1.1) (nI T.2.1.2.1) T.2.1.2.2.1 T.2.1.2.2.2 ++ tW G b wo mi bi la (nI T.2.2.1) T.2.2.2.1 T.2.2.2.2.1 T.2.2.2.2.2.1 T.2.2.2.2.2.2.1 T.2.2.2.2.2.2.2) (show Z = (false, T2, n, ki, se, wd, hu, bt) from by rw [← hZ, rcC, if_neg cq6, hT1, if_pos cq14, hT2, if_pos cq30, if_neg cq42])).symm)
    · skip
      have cq14 := bI_0.mp cq14
      refine lv_iconst (v := 0) hx hb dX4_readChild_17 rfl ?_
      exact x_zret E hA rt hw (by decide) dX4_readChild_18 ((congrArg (fun T : Bool × Cs × Tq => bI T.1) (show Z = (false, T1, n, ki, se, wd, hu, bt) from by rw [← hZ, rcC, if_neg cq6, hT1, if_neg (by rw [cq14]; decide)])).symm) ((congrArg (fun T : Bool × Cs × Tq => xT G a f (nI z) (nI T.2.1.1) (nI T.2.1.2.1) T.2.1.2.2.1 T.2.1.2.2.2 ++ tW G b wo mi bi la (nI T.2.2.1) T.2.2.2.1 T.2.2.2.2.1 T.2.2.2.2.2.1 T.2.2.2.2.2.2.1 T.2.2.2.2.2.2.2) (show Z = (false, T1, n, ki, se, wd, hu, bt) from by rw [← hZ, rcC, if_neg cq6, hT1, if_neg (by rw [cq14]; decide)])).symm)
set_option maxHeartbeats 1000000 in
set_option maxRecDepth 100000 in
theorem c_X4_readInto (K : KA) (l : Launch) (G : GG) (a : Nat → Nat) (b : Nat → Nat) (f : Nat → Int32) (z : Nat) (S : Cs) (wo : Int32) (mi : Int32) (bi : Int32) (la : Int32) (ch : Int32) (ki : Nat → Int32) (se : Nat → Int32) (wd : Nat → Int32) (hu : Nat → Int32) (bt : Nat → Int32) (Z : (Int32 × Cs × Tq) × Int32) (hz : z ≤ 150) (hZ : rdC f z (0, S.2.1, S.2.2.1, S.2.2.2) (0, ki, se, wd, hu, bt) = Z) : CK K l G yX4_readInto cX4_readInto 4 (some .int) 9 192 [.ref (a 0), .ref (b 0)] ((xT G a f (nI z) (nI S.1) (nI S.2.1) S.2.2.1 S.2.2.2) ++ (tW G b wo mi bi la ch ki se wd hu bt)) (some (.int Z.1.1)) ((xT G a f (nI z) (nI Z.1.2.1.1) (nI Z.1.2.1.2.1) Z.1.2.1.2.2.1 Z.1.2.1.2.2.2) ++ (tW G b Z.2 0 0 0 (nI Z.1.2.2.1) Z.1.2.2.2.1 Z.1.2.2.2.2.1 Z.1.2.2.2.2.2.1 Z.1.2.2.2.2.2.2.1 Z.1.2.2.2.2.2.2.2)) := by
  refine CK.mk (own := RX4) (la := [(0, .ref (a 0)), (1, .ref (b 0))]) (by decide) rfl (Nat.le_of_ble_eq_true rfl) rfl ?_
  intro p e s m args below meth c A Q E hA hw rt ls hl hS
  have hx := E.1
  have hb := E.2.1
  obtain ⟨T0, hT0⟩ : ∃ T, nxk f z (0, S.2.1, S.2.2.1, S.2.2.2) = T := ⟨_, rfl⟩
  have s0 := nxk_ok (f := f) (z := z) (S := (0, S.2.1, S.2.2.1, S.2.2.2)) (Nat.zero_le z)
  rw [hT0] at s0
  obtain ⟨Z0, hZ0⟩ : ∃ T, rwC f z T0 0 = T := ⟨_, rfl⟩
  have w0 := rwC_ok (f := f) (wo := 0) s0.2.1
  rw [hZ0] at w0
  refine lv_aload_n hx hb dX4_readInto_0 rfl (lv_at hl 1 rfl) ?_
  refine lv_iconst (v := 0) hx hb dX4_readInto_1 rfl ?_
  refine x_callV (is := [2, 3, 4, 5, 6, 7]) (q0 := 2) (As := [.int 0]) (rest := []) (st1 := []) (ws' := (xT G a f (nI z) (nI S.1) (nI S.2.1) S.2.2.1 S.2.2.2) ++ (tW G b 0 0 0 0 0 ki se wd hu bt)) E (c_X3_layAnew l G b 0 wo mi bi la ch ki se wd hu bt) vw_X4_19 hw [2, 3, 4, 5, 6, 7] rfl rfl rfl rfl rfl rfl rfl hl.1 rfl rfl (Nat.le_of_ble_eq_true rfl) ⟨Nat.le_of_ble_eq_true rfl, Nat.le_of_ble_eq_true rfl⟩ (Nat.zero_le _) (Nat.zero_le _) dX4_readInto_2 rfl rfl (fun H locs hw => ?_)
  refine lv_aload_n hx hb dX4_readInto_5 rfl (lv_at hl 0 rfl) ?_
  refine lv_iconst (v := 0) hx hb dX4_readInto_6 rfl ?_
  refine x_put (ws' := (xT G a f (nI z) 0 (nI S.2.1) S.2.2.1 S.2.2.2) ++ (tW G b 0 0 0 0 0 ki se wd hu bt)) (ty := .int) E hw fw_X4_25 0 rfl rfl rfl (by decide +kernel) rfl rfl (Nat.le_of_ble_eq_true rfl) dX4_readInto_7 rfl (fun H locs hw => ?_)
  refine lv_iconst (v := 0) hx hb dX4_readInto_10 rfl ?_
  refine lv_istore_n (lv' := [(2, .int 0), (0, .ref (a 0)), (1, .ref (b 0))]) hx hb dX4_readInto_11 rfl hl (by decide) rfl (fun ls hl => ?_)
  refine lv_aload_n hx hb dX4_readInto_12 rfl (lv_at hl 1 rfl) ?_
  refine k_callV (is := [0, 1]) (q0 := 0) (As := []) (rest := []) (st1 := []) (ws' := (xT G a f (nI z) (nI T0.1) (nI T0.2.1) T0.2.2.1 T0.2.2.2) ++ (tW G b 0 0 0 0 0 ki se wd hu bt)) E hS (c_X4_nextToken K l G a f z (0, S.2.1, S.2.2.1, S.2.2.2) T0 (Nat.zero_le z) (hz) (hT0)) vw_X4_28 hw [0, 1] rfl rfl rfl rfl rfl rfl rfl hl.1 rfl rfl (Nat.le_of_ble_eq_true rfl) ⟨Nat.le_of_ble_eq_true rfl, Nat.le_of_ble_eq_true rfl⟩ (Nat.zero_le _) (Nat.zero_le _) dX4_readInto_13 rfl rfl (fun H locs hw => ?_)
  refine lv_aload_n hx hb dX4_readInto_16 rfl (lv_at hl 1 rfl) ?_
  refine x_get E hw fw_X4_31 0 rfl rfl dX4_readInto_17 ?_
  refine lv_iconst (v := 3) hx hb dX4_readInto_20 rfl ?_
  refine lv_icmp_ne (tgt := 36) hx hb dX4_readInto_21 rfl (fun cq21 => ?_) (fun cq21 => ?_)
  · skip
    refine lv_iconst (v := 0) hx hb dX4_readInto_36 rfl ?_
    refine lv_istore_n (lv' := [(3, .int 0), (2, .int 0), (0, .ref (a 0)), (1, .ref (b 0))]) hx hb dX4_readInto_37 rfl hl (by decide) rfl (fun ls hl => ?_)
    have lp38 : ∀ (fuel : Nat), ∀ (i : Nat) (ft : Bool) (Sv : Cs) (wv0 : Int32) (nv : Nat) (kv : Nat → Int32) (sv : Nat → Int32) (wv : Nat → Int32) (hv : Nat → Int32) (bv : Nat → Int32) (hi : i ≤ 150) (hSv : Sv.1 ≤ z) (hnv : nv ≤ 6) (hL : Z = (rlC f z (151 - i) i ft Sv (nv, kv, sv, wv, hv, bv), wv0)), (150 - i) < fuel → ∀ (H : Heap) (locs : List Loc) (ls : Array Slot), Wd G A s H locs ((xT G a f (nI z) (nI Sv.1) (nI Sv.2.1) Sv.2.2.1 Sv.2.2.2) ++ (tW G b wv0 0 0 0 (nI nv) kv sv wv hv bv)) → lv_has ls 4 [(0, .ref (a 0)), (1, .ref (b 0)), (2, .int (nI i)), (3, .int (bI ft))] → W p l e (rmx 9 192) s m args below meth c H locs 0 0 Q (F0 m 38 ls []) := by
      intro fuel
      induction fuel with
      | zero => intro i ft Sv wv0 nv kv sv wv hv bv hi hSv hnv hL hfu; exact absurd hfu (Nat.not_lt_zero _)
      | succ fuel ih38 =>
        intro i ft Sv wv0 nv kv sv wv hv bv hi hSv hnv hL hfu H locs ls hw hl
        refine lv_iload_n hx hb dX4_readInto_38 rfl (lv_at hl 3 rfl) ?_
        refine lv_if_eq (tgt := 111) hx hb dX4_readInto_39 rfl (fun cq39 => ?_) (fun cq39 => ?_)
        · skip
          have cq39 := bI_0.mp cq39
          refine lv_iload_n hx hb dX4_readInto_111 rfl (lv_at hl 3 rfl) ?_
          refine lv_if_eq (tgt := 119) hx hb dX4_readInto_112 rfl (fun cq112 => ?_) (fun cq112 => ?_)
          · skip
            have cq112 := bI_0.mp cq112
            refine lv_bipush (v := -10) hx hb dX4_readInto_119 rfl ?_
            refine lv_aload_n hx hb dX4_readInto_121 rfl (lv_at hl 0 rfl) ?_
            refine x_get E hw fw_X4_44 0 rfl rfl dX4_readInto_122 ?_
            refine lv_isub hx hb dX4_readInto_125 ?_
            exact x_iret E hA rt hw dX4_readInto_126 ((congrArg (fun T : (Int32 × Cs × Tq) × Int32 => T.1.1) (show Z = ((-10 - nI Sv.2.1, Sv, (nv, kv, sv, wv, hv, bv)), wv0) from by rw [hL, show 151 - i = (150 - i) + 1 by omega, rlC, if_neg (fun h9 => absurd h9.1 (by rw [cq39]; decide)), if_neg (by rw [cq112]; decide)])).symm) ((congrArg (fun T : (Int32 × Cs × Tq) × Int32 => xT G a f (nI z) (nI T.1.2.1.1) (nI T.1.2.1.2.1) T.1.2.1.2.2.1 T.1.2.1.2.2.2 ++ tW G b T.2 0 0 0 (nI T.1.2.2.1) T.1.2.2.2.1 T.1.2.2.2.2.1 T.1.2.2.2.2.2.1 T.1.2.2.2.2.2.2.1 T.1.2.2.2.2.2.2.2) (show Z = ((-10 - nI Sv.2.1, Sv, (nv, kv, sv, wv, hv, bv)), wv0) from by rw [hL, show 151 - i = (150 - i) + 1 by omega, rlC, if_neg (fun h9 => absurd h9.1 (by rw [cq39]; decide)), if_neg (by rw [cq112]; decide)])).symm)
          · skip
            have cq112 := bI_n0.mp cq112
            refine lv_iload_n hx hb dX4_readInto_115 rfl (lv_at hl 2 rfl) ?_
            refine lv_goto (tgt := 126) hx hb dX4_readInto_116 rfl ?_
            exact x_iret E hA rt hw dX4_readInto_126 ((congrArg (fun T : (Int32 × Cs × Tq) × Int32 => T.1.1) (show Z = ((nI i, Sv, (nv, kv, sv, wv, hv, bv)), wv0) from by rw [hL, show 151 - i = (150 - i) + 1 by omega, rlC, if_neg (fun h9 => absurd h9.1 (by rw [cq39]; decide)), if_pos cq112])).symm) ((congrArg (fun T : (Int32 × Cs × Tq) × Int32 => xT G a f (nI z) (nI T.1.2.1.1) (nI T.1.2.1.2.1) T.1.2.1.2.2.1 T.1.2.1.2.2.2 ++ tW G b T.2 0 0 0 (nI T.1.2.2.1) T.1.2.2.2.1 T.1.2.2.2.2.1 T.1.2.2.2.2.2.1 T.1.2.2.2.2.2.2.1 T.1.2.2.2.2.2.2.2) (show Z = ((nI i, Sv, (nv, kv, sv, wv, hv, bv)), wv0) from by rw [hL, show 151 - i = (150 - i) + 1 by omega, rlC, if_neg (fun h9 => absurd h9.1 (by rw [cq39]; decide)), if_pos cq112])).symm)
        · skip
          have cq39 := bI_n0.mp cq39
          refine lv_aload_n hx hb dX4_readInto_42 rfl (lv_at hl 0 rfl) ?_
          refine x_get E hw fw_X4_31 0 rfl rfl dX4_readInto_43 ?_
          refine lv_if_eq (tgt := 111) hx hb dX4_readInto_46 rfl (fun cq46 => ?_) (fun cq46 => ?_)
          · skip
            refine lv_iload_n hx hb dX4_readInto_111 rfl (lv_at hl 3 rfl) ?_
            refine lv_if_eq (tgt := 119) hx hb dX4_readInto_112 rfl (fun cq112 => ?_) (fun cq112 => ?_)
            · skip
              have cq112 := bI_0.mp cq112
              refine lv_bipush (v := -10) hx hb dX4_readInto_119 rfl ?_
              refine lv_aload_n hx hb dX4_readInto_121 rfl (lv_at hl 0 rfl) ?_
              refine x_get E hw fw_X4_44 0 rfl rfl dX4_readInto_122 ?_
              refine lv_isub hx hb dX4_readInto_125 ?_
              exact x_iret E hA rt hw dX4_readInto_126 ((congrArg (fun T : (Int32 × Cs × Tq) × Int32 => T.1.1) (show Z = ((-10 - nI Sv.2.1, Sv, (nv, kv, sv, wv, hv, bv)), wv0) from by rw [hL, show 151 - i = (150 - i) + 1 by omega, rlC, if_neg (fun h9 => h9.2.1 cq46), if_neg (by rw [cq112]; decide)])).symm) ((congrArg (fun T : (Int32 × Cs × Tq) × Int32 => xT G a f (nI z) (nI T.1.2.1.1) (nI T.1.2.1.2.1) T.1.2.1.2.2.1 T.1.2.1.2.2.2 ++ tW G b T.2 0 0 0 (nI T.1.2.2.1) T.1.2.2.2.1 T.1.2.2.2.2.1 T.1.2.2.2.2.2.1 T.1.2.2.2.2.2.2.1 T.1.2.2.2.2.2.2.2) (show Z = ((-10 - nI Sv.2.1, Sv, (nv, kv, sv, wv, hv, bv)), wv0) from by rw [hL, show 151 - i = (150 - i) + 1 by omega, rlC, if_neg (fun h9 => h9.2.1 cq46), if_neg (by rw [cq112]; decide)])).symm)
            · skip
              have cq112 := bI_n0.mp cq112
              refine lv_iload_n hx hb dX4_readInto_115 rfl (lv_at hl 2 rfl) ?_
              refine lv_goto (tgt := 126) hx hb dX4_readInto_116 rfl ?_
              exact x_iret E hA rt hw dX4_readInto_126 ((congrArg (fun T : (Int32 × Cs × Tq) × Int32 => T.1.1) (show Z = ((nI i, Sv, (nv, kv, sv, wv, hv, bv)), wv0) from by rw [hL, show 151 - i = (150 - i) + 1 by omega, rlC, if_neg (fun h9 => h9.2.1 cq46), if_pos cq112])).symm) ((congrArg (fun T : (Int32 × Cs × Tq) × Int32 => xT G a f (nI z) (nI T.1.2.1.1) (nI T.1.2.1.2.1) T.1.2.1.2.2.1 T.1.2.1.2.2.2 ++ tW G b T.2 0 0 0 (nI T.1.2.2.1) T.1.2.2.2.1 T.1.2.2.2.2.1 T.1.2.2.2.2.2.1 T.1.2.2.2.2.2.2.1 T.1.2.2.2.2.2.2.2) (show Z = ((nI i, Sv, (nv, kv, sv, wv, hv, bv)), wv0) from by rw [hL, show 151 - i = (150 - i) + 1 by omega, rlC, if_neg (fun h9 => h9.2.1 cq46), if_pos cq112])).symm)
          · skip
            refine lv_iload_n hx hb dX4_readInto_49 rfl (lv_at hl 2 rfl) ?_
            refine lv_sipush (v := 150) hx hb dX4_readInto_50 rfl ?_
            refine lv_icmp_ge (tgt := 111) hx hb dX4_readInto_53 rfl (fun cq53 => ?_) (fun cq53 => ?_)
            · skip
              have cq53 : 150 ≤ i := (cv_le (a := 150) (b := i) rfl rfl (by omega) (by omega)).mp cq53
              refine lv_iload_n hx hb dX4_readInto_111 rfl (lv_at hl 3 rfl) ?_
              refine lv_if_eq (tgt := 119) hx hb dX4_readInto_112 rfl (fun cq112 => ?_) (fun cq112 => ?_)
              · skip
                have cq112 := bI_0.mp cq112
                refine lv_bipush (v := -10) hx hb dX4_readInto_119 rfl ?_
                refine lv_aload_n hx hb dX4_readInto_121 rfl (lv_at hl 0 rfl) ?_
                refine x_get E hw fw_X4_44 0 rfl rfl dX4_readInto_122 ?_
                refine lv_isub hx hb dX4_readInto_125 ?_
                exact x_iret E hA rt hw dX4_readInto_126 ((congrArg (fun T : (Int32 × Cs × Tq) × Int32 => T.1.1) (show Z = ((-10 - nI Sv.2.1, Sv, (nv, kv, sv, wv, hv, bv)), wv0) from by rw [hL, show 151 - i = (150 - i) + 1 by omega, rlC, if_neg (fun h9 => absurd h9.2.2 (by omega)), if_neg (by rw [cq112]; decide)])).symm) ((congrArg (fun T : (Int32 × Cs × Tq) × Int32 => xT G a f (nI z) (nI T.1.2.1.1) (nI T.1.2.1.2.1) T.1.2.1.2.2.1 T.1.2.1.2.2.2 ++ tW G b T.2 0 0 0 (nI T.1.2.2.1) T.1.2.2.2.1 T.1.2.2.2.2.1 T.1.2.2.2.2.2.1 T.1.2.2.2.2.2.2.1 T.1.2.2.2.2.2.2.2) (show Z = ((-10 - nI Sv.2.1, Sv, (nv, kv, sv, wv, hv, bv)), wv0) from by rw [hL, show 151 - i = (150 - i) + 1 by omega, rlC, if_neg (fun h9 => absurd h9.2.2 (by omega)), if_neg (by rw [cq112]; decide)])).symm)
              · skip
                have cq112 := bI_n0.mp cq112
                refine lv_iload_n hx hb dX4_readInto_115 rfl (lv_at hl 2 rfl) ?_
                refine lv_goto (tgt := 126) hx hb dX4_readInto_116 rfl ?_
                exact x_iret E hA rt hw dX4_readInto_126 ((congrArg (fun T : (Int32 × Cs × Tq) × Int32 => T.1.1) (show Z = ((nI i, Sv, (nv, kv, sv, wv, hv, bv)), wv0) from by rw [hL, show 151 - i = (150 - i) + 1 by omega, rlC, if_neg (fun h9 => absurd h9.2.2 (by omega)), if_pos cq112])).symm) ((congrArg (fun T : (Int32 × Cs × Tq) × Int32 => xT G a f (nI z) (nI T.1.2.1.1) (nI T.1.2.1.2.1) T.1.2.1.2.2.1 T.1.2.1.2.2.2 ++ tW G b T.2 0 0 0 (nI T.1.2.2.1) T.1.2.2.2.1 T.1.2.2.2.2.1 T.1.2.2.2.2.2.1 T.1.2.2.2.2.2.2.1 T.1.2.2.2.2.2.2.2) (show Z = ((nI i, Sv, (nv, kv, sv, wv, hv, bv)), wv0) from by rw [hL, show 151 - i = (150 - i) + 1 by omega, rlC, if_neg (fun h9 => absurd h9.2.2 (by omega)), if_pos cq112])).symm)
            · skip
              have cq53 : ¬ 150 ≤ i := fun h => cq53 ((cv_le (a := 150) (b := i) rfl rfl (by omega) (by omega)).mpr h)
              refine lv_iinc (v := nI (i + 1)) (lv' := [(2, .int (nI (i + 1))), (0, .ref (a 0)), (1, .ref (b 0)), (3, .int (bI ft))]) hx hb dX4_readInto_56 hl (k := 2) rfl (nI_add _ 1) (by decide) rfl (fun ls hl => ?_)
              refine lv_aload_n hx hb dX4_readInto_59 rfl (lv_at hl 1 rfl) ?_
              obtain ⟨T1, hT1⟩ : ∃ T, nxk f z Sv = T := ⟨_, rfl⟩
              have s1 := nxk_ok (f := f) hSv
              rw [hT1] at s1
              obtain ⟨Z1, hZ1⟩ : ∃ T, rcC f z T1 nv kv sv wv hv bv = T := ⟨_, rfl⟩
              have r1 := rcC_ok (f := f) (ki := kv) (se := sv) (wd := wv) (hu := hv) (bt := bv) s1.2.1 hnv
              rw [hZ1] at r1
              obtain ⟨Z2, hZ2⟩ : ∃ T, crC f z T1 nv hv = T := ⟨_, rfl⟩
              have r2 := crC_ok (f := f) (n := nv) (hu := hv) s1.2.1
              rw [hZ2] at r2
              refine k_callV (is := [0, 1]) (q0 := 0) (As := []) (rest := []) (st1 := []) (ws' := (xT G a f (nI z) (nI T1.1) (nI T1.2.1) T1.2.2.1 T1.2.2.2) ++ (tW G b wv0 0 0 0 (nI nv) kv sv wv hv bv)) E hS (c_X4_nextToken K l G a f z Sv T1 (hSv) (hz) (hT1)) vw_X4_28 hw [0, 1] rfl rfl rfl rfl rfl rfl rfl hl.1 rfl rfl (Nat.le_of_ble_eq_true rfl) ⟨Nat.le_of_ble_eq_true rfl, Nat.le_of_ble_eq_true rfl⟩ (Nat.zero_le _) (Nat.zero_le _) dX4_readInto_60 rfl rfl (fun H locs hw => ?_)
              refine lv_aload_n hx hb dX4_readInto_63 rfl (lv_at hl 1 rfl) ?_
              refine x_get E hw fw_X4_31 0 rfl rfl dX4_readInto_64 ?_
              refine lv_iconst (v := 4) hx hb dX4_readInto_67 rfl ?_
              refine lv_icmp_ne (tgt := 79) hx hb dX4_readInto_68 rfl (fun cq68 => ?_) (fun cq68 => ?_)
              · skip
                refine lv_aload_n hx hb dX4_readInto_79 rfl (lv_at hl 1 rfl) ?_
                refine x_get E hw fw_X4_31 0 rfl rfl dX4_readInto_80 ?_
                refine lv_iconst (v := 5) hx hb dX4_readInto_83 rfl ?_
                refine lv_icmp_ne (tgt := 95) hx hb dX4_readInto_84 rfl (fun cq84 => ?_) (fun cq84 => ?_)
                · skip
                  refine lv_aload_n hx hb dX4_readInto_95 rfl (lv_at hl 1 rfl) ?_
                  refine x_get E hw fw_X4_31 0 rfl rfl dX4_readInto_96 ?_
                  refine lv_if_ne (tgt := 106) hx hb dX4_readInto_99 rfl (fun cq99 => ?_) (fun cq99 => ?_)
                  · skip
                    refine lv_iconst (v := 0) hx hb dX4_readInto_106 rfl ?_
                    refine lv_istore_n (lv' := [(3, .int 0), (2, .int (nI (i + 1))), (0, .ref (a 0)), (1, .ref (b 0))]) hx hb dX4_readInto_107 rfl hl (by decide) rfl (fun ls hl => ?_)
                    refine lv_goto (tgt := 38) hx hb dX4_readInto_108 rfl ?_
                    exact ih38 (i + 1) false T1 wv0 nv kv sv wv hv bv (by omega) (s1.2.1) (hnv) (by rw [hL, show 151 - i = (151 - (i + 1)) + 1 by omega, rlC, if_pos ⟨cq39, cq46, by omega⟩, hT1, if_neg cq68, if_neg cq84, decide_eq_false cq99]) (by omega) _ _ _ hw (lv_sub hl [2, 3, 1, 0] rfl)
                  · skip
                    refine lv_iconst (v := 1) hx hb dX4_readInto_102 rfl ?_
                    refine lv_goto (tgt := 107) hx hb dX4_readInto_103 rfl ?_
                    refine lv_istore_n (lv' := [(3, .int 1), (2, .int (nI (i + 1))), (0, .ref (a 0)), (1, .ref (b 0))]) hx hb dX4_readInto_107 rfl hl (by decide) rfl (fun ls hl => ?_)
                    refine lv_goto (tgt := 38) hx hb dX4_readInto_108 rfl ?_
                    exact ih38 (i + 1) true T1 wv0 nv kv sv wv hv bv (by omega) (s1.2.1) (hnv) (by rw [hL, show 151 - i = (151 - (i + 1)) + 1 by omega, rlC, if_pos ⟨cq39, cq46, by omega⟩, hT1, if_neg cq68, if_neg cq84, decide_eq_true cq99]) (by omega) _ _ _ hw (lv_sub hl [2, 3, 1, 0] rfl)
                · skip
                  refine lv_aload_n hx hb dX4_readInto_87 rfl (lv_at hl 1 rfl) ?_
                  refine lv_aload_n hx hb dX4_readInto_88 rfl (lv_at hl 2 rfl) ?_
                  refine k_callV (is := [0, 1, 2, 3, 4, 5, 6, 7]) (q0 := 0) (As := [.ref (b 0)]) (rest := []) (st1 := [.int (bI Z2.1)]) (ws' := (xT G a f (nI z) (nI Z2.2.1.1) (nI Z2.2.1.2.1) Z2.2.1.2.2.1 Z2.2.1.2.2.2) ++ (tW G b wv0 0 0 0 (nI nv) kv sv wv Z2.2.2 bv)) E hS (c_X4_readCarrot K l G a b f z T1 wv0 0 0 0 nv kv sv wv hv bv Z2 (s1.2.1) (hz) (by omega) (hZ2)) vw_X4_41 hw [0, 1, 2, 3, 4, 5, 6, 7] rfl rfl rfl rfl rfl rfl rfl hl.1 rfl rfl (Nat.le_of_ble_eq_true rfl) ⟨Nat.le_of_ble_eq_true rfl, Nat.le_of_ble_eq_true rfl⟩ (Nat.zero_le _) (Nat.zero_le _) dX4_readInto_89 rfl rfl (fun H locs hw => ?_)
                  refine lv_goto (tgt := 107) hx hb dX4_readInto_92 rfl ?_
                  refine lv_istore_n (lv' := [(3, .int (bI Z2.1)), (2, .int (nI (i + 1))), (0, .ref (a 0)), (1, .ref (b 0))]) hx hb dX4_readInto_107 rfl hl (by decide) rfl (fun ls hl => ?_)
                  refine lv_goto (tgt := 38) hx hb dX4_readInto_108 rfl ?_
                  exact ih38 (i + 1) Z2.1 Z2.2.1 wv0 nv kv sv wv Z2.2.2 bv (by omega) (r2) (hnv) (by rw [hL, show 151 - i = (151 - (i + 1)) + 1 by omega, rlC, if_pos ⟨cq39, cq46, by omega⟩, hT1, if_neg cq68, if_pos cq84]; show (rlC f z (151 - (i + 1)) (i + 1) (crC f z T1 nv hv).1 (crC f z T1 nv hv).2.1 (nv, kv, sv, wv, (crC f z T1 nv hv).2.2, bv), wv0) = _; rw [hZ2]) (by omega) _ _ _ hw (lv_sub hl [2, 3, 1, 0] rfl)
              · skip
                refine lv_aload_n hx hb dX4_readInto_71 rfl (lv_at hl 1 rfl) ?_
                refine lv_aload_n hx hb dX4_readInto_72 rfl (lv_at hl 2 rfl) ?_
                refine k_callV (is := [0, 1, 2, 3, 4, 5, 6, 7]) (q0 := 0) (As := [.ref (b 0)]) (rest := []) (st1 := [.int (bI Z1.1)]) (ws' := (xT G a f (nI z) (nI Z1.2.1.1) (nI Z1.2.1.2.1) Z1.2.1.2.2.1 Z1.2.1.2.2.2) ++ (tW G b wv0 0 0 0 (nI Z1.2.2.1) Z1.2.2.2.1 Z1.2.2.2.2.1 Z1.2.2.2.2.2.1 Z1.2.2.2.2.2.2.1 Z1.2.2.2.2.2.2.2)) E hS (c_X4_readChild K l G a b f z T1 wv0 0 0 0 nv kv sv wv hv bv Z1 (s1.2.1) (hz) (by omega) (hZ1)) vw_X4_38 hw [0, 1, 2, 3, 4, 5, 6, 7] rfl rfl rfl rfl rfl rfl rfl hl.1 rfl rfl (Nat.le_of_ble_eq_true rfl) ⟨Nat.le_of_ble_eq_true rfl, Nat.le_of_ble_eq_true rfl⟩ (Nat.zero_le _) (Nat.zero_le _) dX4_readInto_73 rfl rfl (fun H locs hw => ?_)
                refine lv_goto (tgt := 107) hx hb dX4_readInto_76 rfl ?_
                refine lv_istore_n (lv' := [(3, .int (bI Z1.1)), (2, .int (nI (i + 1))), (0, .ref (a 0)), (1, .ref (b 0))]) hx hb dX4_readInto_107 rfl hl (by decide) rfl (fun ls hl => ?_)
                refine lv_goto (tgt := 38) hx hb dX4_readInto_108 rfl ?_
                exact ih38 (i + 1) Z1.1 Z1.2.1 wv0 Z1.2.2.1 Z1.2.2.2.1 Z1.2.2.2.2.1 Z1.2.2.2.2.2.1 Z1.2.2.2.2.2.2.1 Z1.2.2.2.2.2.2.2 (by omega) (r1.2.1) (r1.2.2) (by rw [hL, show 151 - i = (151 - (i + 1)) + 1 by omega, rlC, if_pos ⟨cq39, cq46, by omega⟩, hT1, if_pos cq68]; show (rlC f z (151 - (i + 1)) (i + 1) (rcC f z T1 nv kv sv wv hv bv).1 (rcC f z T1 nv kv sv wv hv bv).2.1 (rcC f z T1 nv kv sv wv hv bv).2.2, wv0) = _; rw [hZ1]) (by omega) _ _ _ hw (lv_sub hl [2, 3, 1, 0] rfl)
    exact lp38 (150 - 0 + 1) 0 false T0 0 0 ki se wd hu bt (Nat.zero_le _) (s0.2.1) (Nat.zero_le _) (by rw [← hZ, rdC, hT0, if_neg cq21]) (by omega) _ _ _ hw (lv_sub hl [2, 3, 1, 0] rfl)
  · skip
    refine lv_aload_n hx hb dX4_readInto_24 rfl (lv_at hl 1 rfl) ?_
    refine lv_aload_n hx hb dX4_readInto_25 rfl (lv_at hl 2 rfl) ?_
    refine k_callV (is := [0, 1, 2, 3, 4, 5, 6, 7]) (q0 := 0) (As := [.ref (b 0)]) (rest := []) (st1 := [.int (bI Z0.1)]) (ws' := (xT G a f (nI z) (nI Z0.2.1.1) (nI Z0.2.1.2.1) Z0.2.1.2.2.1 Z0.2.1.2.2.2) ++ (tW G b Z0.2.2 0 0 0 0 ki se wd hu bt)) E hS (c_X4_readWoman K l G a b f z T0 0 0 0 0 0 ki se wd hu bt Z0 (s0.2.1) (hz) (hZ0)) vw_X4_34 hw [0, 1, 2, 3, 4, 5, 6, 7] rfl rfl rfl rfl rfl rfl rfl hl.1 rfl rfl (Nat.le_of_ble_eq_true rfl) ⟨Nat.le_of_ble_eq_true rfl, Nat.le_of_ble_eq_true rfl⟩ (Nat.zero_le _) (Nat.zero_le _) dX4_readInto_26 rfl rfl (fun H locs hw => ?_)
    refine lv_if_eq (tgt := 36) hx hb dX4_readInto_29 rfl (fun cq29 => ?_) (fun cq29 => ?_)
    · skip
      have cq29 := bI_0.mp cq29
      refine lv_iconst (v := 0) hx hb dX4_readInto_36 rfl ?_
      refine lv_istore_n (lv' := [(3, .int 0), (2, .int 0), (0, .ref (a 0)), (1, .ref (b 0))]) hx hb dX4_readInto_37 rfl hl (by decide) rfl (fun ls hl => ?_)
      have lp38 : ∀ (fuel : Nat), ∀ (i : Nat) (ft : Bool) (Sv : Cs) (wv0 : Int32) (nv : Nat) (kv : Nat → Int32) (sv : Nat → Int32) (wv : Nat → Int32) (hv : Nat → Int32) (bv : Nat → Int32) (hi : i ≤ 150) (hSv : Sv.1 ≤ z) (hnv : nv ≤ 6) (hL : Z = (rlC f z (151 - i) i ft Sv (nv, kv, sv, wv, hv, bv), wv0)), (150 - i) < fuel → ∀ (H : Heap) (locs : List Loc) (ls : Array Slot), Wd G A s H locs ((xT G a f (nI z) (nI Sv.1) (nI Sv.2.1) Sv.2.2.1 Sv.2.2.2) ++ (tW G b wv0 0 0 0 (nI nv) kv sv wv hv bv)) → lv_has ls 4 [(0, .ref (a 0)), (1, .ref (b 0)), (2, .int (nI i)), (3, .int (bI ft))] → W p l e (rmx 9 192) s m args below meth c H locs 0 0 Q (F0 m 38 ls []) := by
        intro fuel
        induction fuel with
        | zero => intro i ft Sv wv0 nv kv sv wv hv bv hi hSv hnv hL hfu; exact absurd hfu (Nat.not_lt_zero _)
        | succ fuel ih38 =>
          intro i ft Sv wv0 nv kv sv wv hv bv hi hSv hnv hL hfu H locs ls hw hl
          refine lv_iload_n hx hb dX4_readInto_38 rfl (lv_at hl 3 rfl) ?_
          refine lv_if_eq (tgt := 111) hx hb dX4_readInto_39 rfl (fun cq39 => ?_) (fun cq39 => ?_)
          · skip
            have cq39 := bI_0.mp cq39
            refine lv_iload_n hx hb dX4_readInto_111 rfl (lv_at hl 3 rfl) ?_
            refine lv_if_eq (tgt := 119) hx hb dX4_readInto_112 rfl (fun cq112 => ?_) (fun cq112 => ?_)
            · skip
              have cq112 := bI_0.mp cq112
              refine lv_bipush (v := -10) hx hb dX4_readInto_119 rfl ?_
              refine lv_aload_n hx hb dX4_readInto_121 rfl (lv_at hl 0 rfl) ?_
              refine x_get E hw fw_X4_44 0 rfl rfl dX4_readInto_122 ?_
              refine lv_isub hx hb dX4_readInto_125 ?_
              exact x_iret E hA rt hw dX4_readInto_126 ((congrArg (fun T : (Int32 × Cs × Tq) × Int32 => T.1.1) (show Z = ((-10 - nI Sv.2.1, Sv, (nv, kv, sv, wv, hv, bv)), wv0) from by rw [hL, show 151 - i = (150 - i) + 1 by omega, rlC, if_neg (fun h9 => absurd h9.1 (by rw [cq39]; decide)), if_neg (by rw [cq112]; decide)])).symm) ((congrArg (fun T : (Int32 × Cs × Tq) × Int32 => xT G a f (nI z) (nI T.1.2.1.1) (nI T.1.2.1.2.1) T.1.2.1.2.2.1 T.1.2.1.2.2.2 ++ tW G b T.2 0 0 0 (nI T.1.2.2.1) T.1.2.2.2.1 T.1.2.2.2.2.1 T.1.2.2.2.2.2.1 T.1.2.2.2.2.2.2.1 T.1.2.2.2.2.2.2.2) (show Z = ((-10 - nI Sv.2.1, Sv, (nv, kv, sv, wv, hv, bv)), wv0) from by rw [hL, show 151 - i = (150 - i) + 1 by omega, rlC, if_neg (fun h9 => absurd h9.1 (by rw [cq39]; decide)), if_neg (by rw [cq112]; decide)])).symm)
            · skip
              have cq112 := bI_n0.mp cq112
              refine lv_iload_n hx hb dX4_readInto_115 rfl (lv_at hl 2 rfl) ?_
              refine lv_goto (tgt := 126) hx hb dX4_readInto_116 rfl ?_
              exact x_iret E hA rt hw dX4_readInto_126 ((congrArg (fun T : (Int32 × Cs × Tq) × Int32 => T.1.1) (show Z = ((nI i, Sv, (nv, kv, sv, wv, hv, bv)), wv0) from by rw [hL, show 151 - i = (150 - i) + 1 by omega, rlC, if_neg (fun h9 => absurd h9.1 (by rw [cq39]; decide)), if_pos cq112])).symm) ((congrArg (fun T : (Int32 × Cs × Tq) × Int32 => xT G a f (nI z) (nI T.1.2.1.1) (nI T.1.2.1.2.1) T.1.2.1.2.2.1 T.1.2.1.2.2.2 ++ tW G b T.2 0 0 0 (nI T.1.2.2.1) T.1.2.2.2.1 T.1.2.2.2.2.1 T.1.2.2.2.2.2.1 T.1.2.2.2.2.2.2.1 T.1.2.2.2.2.2.2.2) (show Z = ((nI i, Sv, (nv, kv, sv, wv, hv, bv)), wv0) from by rw [hL, show 151 - i = (150 - i) + 1 by omega, rlC, if_neg (fun h9 => absurd h9.1 (by rw [cq39]; decide)), if_pos cq112])).symm)
          · skip
            have cq39 := bI_n0.mp cq39
            refine lv_aload_n hx hb dX4_readInto_42 rfl (lv_at hl 0 rfl) ?_
            refine x_get E hw fw_X4_31 0 rfl rfl dX4_readInto_43 ?_
            refine lv_if_eq (tgt := 111) hx hb dX4_readInto_46 rfl (fun cq46 => ?_) (fun cq46 => ?_)
            · skip
              refine lv_iload_n hx hb dX4_readInto_111 rfl (lv_at hl 3 rfl) ?_
              refine lv_if_eq (tgt := 119) hx hb dX4_readInto_112 rfl (fun cq112 => ?_) (fun cq112 => ?_)
              · skip
                have cq112 := bI_0.mp cq112
                refine lv_bipush (v := -10) hx hb dX4_readInto_119 rfl ?_
                refine lv_aload_n hx hb dX4_readInto_121 rfl (lv_at hl 0 rfl) ?_
                refine x_get E hw fw_X4_44 0 rfl rfl dX4_readInto_122 ?_
                refine lv_isub hx hb dX4_readInto_125 ?_
                exact x_iret E hA rt hw dX4_readInto_126 ((congrArg (fun T : (Int32 × Cs × Tq) × Int32 => T.1.1) (show Z = ((-10 - nI Sv.2.1, Sv, (nv, kv, sv, wv, hv, bv)), wv0) from by rw [hL, show 151 - i = (150 - i) + 1 by omega, rlC, if_neg (fun h9 => h9.2.1 cq46), if_neg (by rw [cq112]; decide)])).symm) ((congrArg (fun T : (Int32 × Cs × Tq) × Int32 => xT G a f (nI z) (nI T.1.2.1.1) (nI T.1.2.1.2.1) T.1.2.1.2.2.1 T.1.2.1.2.2.2 ++ tW G b T.2 0 0 0 (nI T.1.2.2.1) T.1.2.2.2.1 T.1.2.2.2.2.1 T.1.2.2.2.2.2.1 T.1.2.2.2.2.2.2.1 T.1.2.2.2.2.2.2.2) (show Z = ((-10 - nI Sv.2.1, Sv, (nv, kv, sv, wv, hv, bv)), wv0) from by rw [hL, show 151 - i = (150 - i) + 1 by omega, rlC, if_neg (fun h9 => h9.2.1 cq46), if_neg (by rw [cq112]; decide)])).symm)
              · skip
                have cq112 := bI_n0.mp cq112
                refine lv_iload_n hx hb dX4_readInto_115 rfl (lv_at hl 2 rfl) ?_
                refine lv_goto (tgt := 126) hx hb dX4_readInto_116 rfl ?_
                exact x_iret E hA rt hw dX4_readInto_126 ((congrArg (fun T : (Int32 × Cs × Tq) × Int32 => T.1.1) (show Z = ((nI i, Sv, (nv, kv, sv, wv, hv, bv)), wv0) from by rw [hL, show 151 - i = (150 - i) + 1 by omega, rlC, if_neg (fun h9 => h9.2.1 cq46), if_pos cq112])).symm) ((congrArg (fun T : (Int32 × Cs × Tq) × Int32 => xT G a f (nI z) (nI T.1.2.1.1) (nI T.1.2.1.2.1) T.1.2.1.2.2.1 T.1.2.1.2.2.2 ++ tW G b T.2 0 0 0 (nI T.1.2.2.1) T.1.2.2.2.1 T.1.2.2.2.2.1 T.1.2.2.2.2.2.1 T.1.2.2.2.2.2.2.1 T.1.2.2.2.2.2.2.2) (show Z = ((nI i, Sv, (nv, kv, sv, wv, hv, bv)), wv0) from by rw [hL, show 151 - i = (150 - i) + 1 by omega, rlC, if_neg (fun h9 => h9.2.1 cq46), if_pos cq112])).symm)
            · skip
              refine lv_iload_n hx hb dX4_readInto_49 rfl (lv_at hl 2 rfl) ?_
              refine lv_sipush (v := 150) hx hb dX4_readInto_50 rfl ?_
              refine lv_icmp_ge (tgt := 111) hx hb dX4_readInto_53 rfl (fun cq53 => ?_) (fun cq53 => ?_)
              · skip
                have cq53 : 150 ≤ i := (cv_le (a := 150) (b := i) rfl rfl (by omega) (by omega)).mp cq53
                refine lv_iload_n hx hb dX4_readInto_111 rfl (lv_at hl 3 rfl) ?_
                refine lv_if_eq (tgt := 119) hx hb dX4_readInto_112 rfl (fun cq112 => ?_) (fun cq112 => ?_)
                · skip
                  have cq112 := bI_0.mp cq112
                  refine lv_bipush (v := -10) hx hb dX4_readInto_119 rfl ?_
                  refine lv_aload_n hx hb dX4_readInto_121 rfl (lv_at hl 0 rfl) ?_
                  refine x_get E hw fw_X4_44 0 rfl rfl dX4_readInto_122 ?_
                  refine lv_isub hx hb dX4_readInto_125 ?_
                  exact x_iret E hA rt hw dX4_readInto_126 ((congrArg (fun T : (Int32 × Cs × Tq) × Int32 => T.1.1) (show Z = ((-10 - nI Sv.2.1, Sv, (nv, kv, sv, wv, hv, bv)), wv0) from by rw [hL, show 151 - i = (150 - i) + 1 by omega, rlC, if_neg (fun h9 => absurd h9.2.2 (by omega)), if_neg (by rw [cq112]; decide)])).symm) ((congrArg (fun T : (Int32 × Cs × Tq) × Int32 => xT G a f (nI z) (nI T.1.2.1.1) (nI T.1.2.1.2.1) T.1.2.1.2.2.1 T.1.2.1.2.2.2 ++ tW G b T.2 0 0 0 (nI T.1.2.2.1) T.1.2.2.2.1 T.1.2.2.2.2.1 T.1.2.2.2.2.2.1 T.1.2.2.2.2.2.2.1 T.1.2.2.2.2.2.2.2) (show Z = ((-10 - nI Sv.2.1, Sv, (nv, kv, sv, wv, hv, bv)), wv0) from by rw [hL, show 151 - i = (150 - i) + 1 by omega, rlC, if_neg (fun h9 => absurd h9.2.2 (by omega)), if_neg (by rw [cq112]; decide)])).symm)
                · skip
                  have cq112 := bI_n0.mp cq112
                  refine lv_iload_n hx hb dX4_readInto_115 rfl (lv_at hl 2 rfl) ?_
                  refine lv_goto (tgt := 126) hx hb dX4_readInto_116 rfl ?_
                  exact x_iret E hA rt hw dX4_readInto_126 ((congrArg (fun T : (Int32 × Cs × Tq) × Int32 => T.1.1) (show Z = ((nI i, Sv, (nv, kv, sv, wv, hv, bv)), wv0) from by rw [hL, show 151 - i = (150 - i) + 1 by omega, rlC, if_neg (fun h9 => absurd h9.2.2 (by omega)), if_pos cq112])).symm) ((congrArg (fun T : (Int32 × Cs × Tq) × Int32 => xT G a f (nI z) (nI T.1.2.1.1) (nI T.1.2.1.2.1) T.1.2.1.2.2.1 T.1.2.1.2.2.2 ++ tW G b T.2 0 0 0 (nI T.1.2.2.1) T.1.2.2.2.1 T.1.2.2.2.2.1 T.1.2.2.2.2.2.1 T.1.2.2.2.2.2.2.1 T.1.2.2.2.2.2.2.2) (show Z = ((nI i, Sv, (nv, kv, sv, wv, hv, bv)), wv0) from by rw [hL, show 151 - i = (150 - i) + 1 by omega, rlC, if_neg (fun h9 => absurd h9.2.2 (by omega)), if_pos cq112])).symm)
              · skip
                have cq53 : ¬ 150 ≤ i := fun h => cq53 ((cv_le (a := 150) (b := i) rfl rfl (by omega) (by omega)).mpr h)
                refine lv_iinc (v := nI (i + 1)) (lv' := [(2, .int (nI (i + 1))), (0, .ref (a 0)), (1, .ref (b 0)), (3, .int (bI ft))]) hx hb dX4_readInto_56 hl (k := 2) rfl (nI_add _ 1) (by decide) rfl (fun ls hl => ?_)
                refine lv_aload_n hx hb dX4_readInto_59 rfl (lv_at hl 1 rfl) ?_
                obtain ⟨T1, hT1⟩ : ∃ T, nxk f z Sv = T := ⟨_, rfl⟩
                have s1 := nxk_ok (f := f) hSv
                rw [hT1] at s1
                obtain ⟨Z1, hZ1⟩ : ∃ T, rcC f z T1 nv kv sv wv hv bv = T := ⟨_, rfl⟩
                have r1 := rcC_ok (f := f) (ki := kv) (se := sv) (wd := wv) (hu := hv) (bt := bv) s1.2.1 hnv
                rw [hZ1] at r1
                obtain ⟨Z2, hZ2⟩ : ∃ T, crC f z T1 nv hv = T := ⟨_, rfl⟩
                have r2 := crC_ok (f := f) (n := nv) (hu := hv) s1.2.1
                rw [hZ2] at r2
                refine k_callV (is := [0, 1]) (q0 := 0) (As := []) (rest := []) (st1 := []) (ws' := (xT G a f (nI z) (nI T1.1) (nI T1.2.1) T1.2.2.1 T1.2.2.2) ++ (tW G b wv0 0 0 0 (nI nv) kv sv wv hv bv)) E hS (c_X4_nextToken K l G a f z Sv T1 (hSv) (hz) (hT1)) vw_X4_28 hw [0, 1] rfl rfl rfl rfl rfl rfl rfl hl.1 rfl rfl (Nat.le_of_ble_eq_true rfl) ⟨Nat.le_of_ble_eq_true rfl, Nat.le_of_ble_eq_true rfl⟩ (Nat.zero_le _) (Nat.zero_le _) dX4_readInto_60 rfl rfl (fun H locs hw => ?_)
                refine lv_aload_n hx hb dX4_readInto_63 rfl (lv_at hl 1 rfl) ?_
                refine x_get E hw fw_X4_31 0 rfl rfl dX4_readInto_64 ?_
                refine lv_iconst (v := 4) hx hb dX4_readInto_67 rfl ?_
                refine lv_icmp_ne (tgt := 79) hx hb dX4_readInto_68 rfl (fun cq68 => ?_) (fun cq68 => ?_)
                · skip
                  refine lv_aload_n hx hb dX4_readInto_79 rfl (lv_at hl 1 rfl) ?_
                  refine x_get E hw fw_X4_31 0 rfl rfl dX4_readInto_80 ?_
                  refine lv_iconst (v := 5) hx hb dX4_readInto_83 rfl ?_
                  refine lv_icmp_ne (tgt := 95) hx hb dX4_readInto_84 rfl (fun cq84 => ?_) (fun cq84 => ?_)
                  · skip
                    refine lv_aload_n hx hb dX4_readInto_95 rfl (lv_at hl 1 rfl) ?_
                    refine x_get E hw fw_X4_31 0 rfl rfl dX4_readInto_96 ?_
                    refine lv_if_ne (tgt := 106) hx hb dX4_readInto_99 rfl (fun cq99 => ?_) (fun cq99 => ?_)
                    · skip
                      refine lv_iconst (v := 0) hx hb dX4_readInto_106 rfl ?_
                      refine lv_istore_n (lv' := [(3, .int 0), (2, .int (nI (i + 1))), (0, .ref (a 0)), (1, .ref (b 0))]) hx hb dX4_readInto_107 rfl hl (by decide) rfl (fun ls hl => ?_)
                      refine lv_goto (tgt := 38) hx hb dX4_readInto_108 rfl ?_
                      exact ih38 (i + 1) false T1 wv0 nv kv sv wv hv bv (by omega) (s1.2.1) (hnv) (by rw [hL, show 151 - i = (151 - (i + 1)) + 1 by omega, rlC, if_pos ⟨cq39, cq46, by omega⟩, hT1, if_neg cq68, if_neg cq84, decide_eq_false cq99]) (by omega) _ _ _ hw (lv_sub hl [2, 3, 1, 0] rfl)
                    · skip
                      refine lv_iconst (v := 1) hx hb dX4_readInto_102 rfl ?_
                      refine lv_goto (tgt := 107) hx hb dX4_readInto_103 rfl ?_
                      refine lv_istore_n (lv' := [(3, .int 1), (2, .int (nI (i + 1))), (0, .ref (a 0)), (1, .ref (b 0))]) hx hb dX4_readInto_107 rfl hl (by decide) rfl (fun ls hl => ?_)
                      refine lv_goto (tgt := 38) hx hb dX4_readInto_108 rfl ?_
                      exact ih38 (i + 1) true T1 wv0 nv kv sv wv hv bv (by omega) (s1.2.1) (hnv) (by rw [hL, show 151 - i = (151 - (i + 1)) + 1 by omega, rlC, if_pos ⟨cq39, cq46, by omega⟩, hT1, if_neg cq68, if_neg cq84, decide_eq_true cq99]) (by omega) _ _ _ hw (lv_sub hl [2, 3, 1, 0] rfl)
                  · skip
                    refine lv_aload_n hx hb dX4_readInto_87 rfl (lv_at hl 1 rfl) ?_
                    refine lv_aload_n hx hb dX4_readInto_88 rfl (lv_at hl 2 rfl) ?_
                    refine k_callV (is := [0, 1, 2, 3, 4, 5, 6, 7]) (q0 := 0) (As := [.ref (b 0)]) (rest := []) (st1 := [.int (bI Z2.1)]) (ws' := (xT G a f (nI z) (nI Z2.2.1.1) (nI Z2.2.1.2.1) Z2.2.1.2.2.1 Z2.2.1.2.2.2) ++ (tW G b wv0 0 0 0 (nI nv) kv sv wv Z2.2.2 bv)) E hS (c_X4_readCarrot K l G a b f z T1 wv0 0 0 0 nv kv sv wv hv bv Z2 (s1.2.1) (hz) (by omega) (hZ2)) vw_X4_41 hw [0, 1, 2, 3, 4, 5, 6, 7] rfl rfl rfl rfl rfl rfl rfl hl.1 rfl rfl (Nat.le_of_ble_eq_true rfl) ⟨Nat.le_of_ble_eq_true rfl, Nat.le_of_ble_eq_true rfl⟩ (Nat.zero_le _) (Nat.zero_le _) dX4_readInto_89 rfl rfl (fun H locs hw => ?_)
                    refine lv_goto (tgt := 107) hx hb dX4_readInto_92 rfl ?_
                    refine lv_istore_n (lv' := [(3, .int (bI Z2.1)), (2, .int (nI (i + 1))), (0, .ref (a 0)), (1, .ref (b 0))]) hx hb dX4_readInto_107 rfl hl (by decide) rfl (fun ls hl => ?_)
                    refine lv_goto (tgt := 38) hx hb dX4_readInto_108 rfl ?_
                    exact ih38 (i + 1) Z2.1 Z2.2.1 wv0 nv kv sv wv Z2.2.2 bv (by omega) (r2) (hnv) (by rw [hL, show 151 - i = (151 - (i + 1)) + 1 by omega, rlC, if_pos ⟨cq39, cq46, by omega⟩, hT1, if_neg cq68, if_pos cq84]; show (rlC f z (151 - (i + 1)) (i + 1) (crC f z T1 nv hv).1 (crC f z T1 nv hv).2.1 (nv, kv, sv, wv, (crC f z T1 nv hv).2.2, bv), wv0) = _; rw [hZ2]) (by omega) _ _ _ hw (lv_sub hl [2, 3, 1, 0] rfl)
                · skip
                  refine lv_aload_n hx hb dX4_readInto_71 rfl (lv_at hl 1 rfl) ?_
                  refine lv_aload_n hx hb dX4_readInto_72 rfl (lv_at hl 2 rfl) ?_
                  refine k_callV (is := [0, 1, 2, 3, 4, 5, 6, 7]) (q0 := 0) (As := [.ref (b 0)]) (rest := []) (st1 := [.int (bI Z1.1)]) (ws' := (xT G a f (nI z) (nI Z1.2.1.1) (nI Z1.2.1.2.1) Z1.2.1.2.2.1 Z1.2.1.2.2.2) ++ (tW G b wv0 0 0 0 (nI Z1.2.2.1) Z1.2.2.2.1 Z1.2.2.2.2.1 Z1.2.2.2.2.2.1 Z1.2.2.2.2.2.2.1 Z1.2.2.2.2.2.2.2)) E hS (c_X4_readChild K l G a b f z T1 wv0 0 0 0 nv kv sv wv hv bv Z1 (s1.2.1) (hz) (by omega) (hZ1)) vw_X4_38 hw [0, 1, 2, 3, 4, 5, 6, 7] rfl rfl rfl rfl rfl rfl rfl hl.1 rfl rfl (Nat.le_of_ble_eq_true rfl) ⟨Nat.le_of_ble_eq_true rfl, Nat.le_of_ble_eq_true rfl⟩ (Nat.zero_le _) (Nat.zero_le _) dX4_readInto_73 rfl rfl (fun H locs hw => ?_)
                  refine lv_goto (tgt := 107) hx hb dX4_readInto_76 rfl ?_
                  refine lv_istore_n (lv' := [(3, .int (bI Z1.1)), (2, .int (nI (i + 1))), (0, .ref (a 0)), (1, .ref (b 0))]) hx hb dX4_readInto_107 rfl hl (by decide) rfl (fun ls hl => ?_)
                  refine lv_goto (tgt := 38) hx hb dX4_readInto_108 rfl ?_
                  exact ih38 (i + 1) Z1.1 Z1.2.1 wv0 Z1.2.2.1 Z1.2.2.2.1 Z1.2.2.2.2.1 Z1.2.2.2.2.2.1 Z1.2.2.2.2.2.2.1 Z1.2.2.2.2.2.2.2 (by omega) (r1.2.1) (r1.2.2) (by rw [hL, show 151 - i = (151 - (i + 1)) + 1 by omega, rlC, if_pos ⟨cq39, cq46, by omega⟩, hT1, if_pos cq68]; show (rlC f z (151 - (i + 1)) (i + 1) (rcC f z T1 nv kv sv wv hv bv).1 (rcC f z T1 nv kv sv wv hv bv).2.1 (rcC f z T1 nv kv sv wv hv bv).2.2, wv0) = _; rw [hZ1]) (by omega) _ _ _ hw (lv_sub hl [2, 3, 1, 0] rfl)
      exact lp38 (150 - 0 + 1) 0 false Z0.2.1 Z0.2.2 0 ki se wd hu bt (Nat.zero_le _) (w0) (Nat.zero_le _) (by rw [← hZ, rdC, hT0, if_pos cq21, hZ0, cq29]) (by omega) _ _ _ hw (lv_sub hl [2, 3, 1, 0] rfl)
    · skip
      have cq29 := bI_n0.mp cq29
      refine lv_iconst (v := 1) hx hb dX4_readInto_32 rfl ?_
      refine lv_goto (tgt := 37) hx hb dX4_readInto_33 rfl ?_
      refine lv_istore_n (lv' := [(3, .int 1), (2, .int 0), (0, .ref (a 0)), (1, .ref (b 0))]) hx hb dX4_readInto_37 rfl hl (by decide) rfl (fun ls hl => ?_)
      have lp38 : ∀ (fuel : Nat), ∀ (i : Nat) (ft : Bool) (Sv : Cs) (wv0 : Int32) (nv : Nat) (kv : Nat → Int32) (sv : Nat → Int32) (wv : Nat → Int32) (hv : Nat → Int32) (bv : Nat → Int32) (hi : i ≤ 150) (hSv : Sv.1 ≤ z) (hnv : nv ≤ 6) (hL : Z = (rlC f z (151 - i) i ft Sv (nv, kv, sv, wv, hv, bv), wv0)), (150 - i) < fuel → ∀ (H : Heap) (locs : List Loc) (ls : Array Slot), Wd G A s H locs ((xT G a f (nI z) (nI Sv.1) (nI Sv.2.1) Sv.2.2.1 Sv.2.2.2) ++ (tW G b wv0 0 0 0 (nI nv) kv sv wv hv bv)) → lv_has ls 4 [(0, .ref (a 0)), (1, .ref (b 0)), (2, .int (nI i)), (3, .int (bI ft))] → W p l e (rmx 9 192) s m args below meth c H locs 0 0 Q (F0 m 38 ls []) := by
        intro fuel
        induction fuel with
        | zero => intro i ft Sv wv0 nv kv sv wv hv bv hi hSv hnv hL hfu; exact absurd hfu (Nat.not_lt_zero _)
        | succ fuel ih38 =>
          intro i ft Sv wv0 nv kv sv wv hv bv hi hSv hnv hL hfu H locs ls hw hl
          refine lv_iload_n hx hb dX4_readInto_38 rfl (lv_at hl 3 rfl) ?_
          refine lv_if_eq (tgt := 111) hx hb dX4_readInto_39 rfl (fun cq39 => ?_) (fun cq39 => ?_)
          · skip
            have cq39 := bI_0.mp cq39
            refine lv_iload_n hx hb dX4_readInto_111 rfl (lv_at hl 3 rfl) ?_
            refine lv_if_eq (tgt := 119) hx hb dX4_readInto_112 rfl (fun cq112 => ?_) (fun cq112 => ?_)
            · skip
              have cq112 := bI_0.mp cq112
              refine lv_bipush (v := -10) hx hb dX4_readInto_119 rfl ?_
              refine lv_aload_n hx hb dX4_readInto_121 rfl (lv_at hl 0 rfl) ?_
              refine x_get E hw fw_X4_44 0 rfl rfl dX4_readInto_122 ?_
              refine lv_isub hx hb dX4_readInto_125 ?_
              exact x_iret E hA rt hw dX4_readInto_126 ((congrArg (fun T : (Int32 × Cs × Tq) × Int32 => T.1.1) (show Z = ((-10 - nI Sv.2.1, Sv, (nv, kv, sv, wv, hv, bv)), wv0) from by rw [hL, show 151 - i = (150 - i) + 1 by omega, rlC, if_neg (fun h9 => absurd h9.1 (by rw [cq39]; decide)), if_neg (by rw [cq112]; decide)])).symm) ((congrArg (fun T : (Int32 × Cs × Tq) × Int32 => xT G a f (nI z) (nI T.1.2.1.1) (nI T.1.2.1.2.1) T.1.2.1.2.2.1 T.1.2.1.2.2.2 ++ tW G b T.2 0 0 0 (nI T.1.2.2.1) T.1.2.2.2.1 T.1.2.2.2.2.1 T.1.2.2.2.2.2.1 T.1.2.2.2.2.2.2.1 T.1.2.2.2.2.2.2.2) (show Z = ((-10 - nI Sv.2.1, Sv, (nv, kv, sv, wv, hv, bv)), wv0) from by rw [hL, show 151 - i = (150 - i) + 1 by omega, rlC, if_neg (fun h9 => absurd h9.1 (by rw [cq39]; decide)), if_neg (by rw [cq112]; decide)])).symm)
            · skip
              have cq112 := bI_n0.mp cq112
              refine lv_iload_n hx hb dX4_readInto_115 rfl (lv_at hl 2 rfl) ?_
              refine lv_goto (tgt := 126) hx hb dX4_readInto_116 rfl ?_
              exact x_iret E hA rt hw dX4_readInto_126 ((congrArg (fun T : (Int32 × Cs × Tq) × Int32 => T.1.1) (show Z = ((nI i, Sv, (nv, kv, sv, wv, hv, bv)), wv0) from by rw [hL, show 151 - i = (150 - i) + 1 by omega, rlC, if_neg (fun h9 => absurd h9.1 (by rw [cq39]; decide)), if_pos cq112])).symm) ((congrArg (fun T : (Int32 × Cs × Tq) × Int32 => xT G a f (nI z) (nI T.1.2.1.1) (nI T.1.2.1.2.1) T.1.2.1.2.2.1 T.1.2.1.2.2.2 ++ tW G b T.2 0 0 0 (nI T.1.2.2.1) T.1.2.2.2.1 T.1.2.2.2.2.1 T.1.2.2.2.2.2.1 T.1.2.2.2.2.2.2.1 T.1.2.2.2.2.2.2.2) (show Z = ((nI i, Sv, (nv, kv, sv, wv, hv, bv)), wv0) from by rw [hL, show 151 - i = (150 - i) + 1 by omega, rlC, if_neg (fun h9 => absurd h9.1 (by rw [cq39]; decide)), if_pos cq112])).symm)
          · skip
            have cq39 := bI_n0.mp cq39
            refine lv_aload_n hx hb dX4_readInto_42 rfl (lv_at hl 0 rfl) ?_
            refine x_get E hw fw_X4_31 0 rfl rfl dX4_readInto_43 ?_
            refine lv_if_eq (tgt := 111) hx hb dX4_readInto_46 rfl (fun cq46 => ?_) (fun cq46 => ?_)
            · skip
              refine lv_iload_n hx hb dX4_readInto_111 rfl (lv_at hl 3 rfl) ?_
              refine lv_if_eq (tgt := 119) hx hb dX4_readInto_112 rfl (fun cq112 => ?_) (fun cq112 => ?_)
              · skip
                have cq112 := bI_0.mp cq112
                refine lv_bipush (v := -10) hx hb dX4_readInto_119 rfl ?_
                refine lv_aload_n hx hb dX4_readInto_121 rfl (lv_at hl 0 rfl) ?_
                refine x_get E hw fw_X4_44 0 rfl rfl dX4_readInto_122 ?_
                refine lv_isub hx hb dX4_readInto_125 ?_
                exact x_iret E hA rt hw dX4_readInto_126 ((congrArg (fun T : (Int32 × Cs × Tq) × Int32 => T.1.1) (show Z = ((-10 - nI Sv.2.1, Sv, (nv, kv, sv, wv, hv, bv)), wv0) from by rw [hL, show 151 - i = (150 - i) + 1 by omega, rlC, if_neg (fun h9 => h9.2.1 cq46), if_neg (by rw [cq112]; decide)])).symm) ((congrArg (fun T : (Int32 × Cs × Tq) × Int32 => xT G a f (nI z) (nI T.1.2.1.1) (nI T.1.2.1.2.1) T.1.2.1.2.2.1 T.1.2.1.2.2.2 ++ tW G b T.2 0 0 0 (nI T.1.2.2.1) T.1.2.2.2.1 T.1.2.2.2.2.1 T.1.2.2.2.2.2.1 T.1.2.2.2.2.2.2.1 T.1.2.2.2.2.2.2.2) (show Z = ((-10 - nI Sv.2.1, Sv, (nv, kv, sv, wv, hv, bv)), wv0) from by rw [hL, show 151 - i = (150 - i) + 1 by omega, rlC, if_neg (fun h9 => h9.2.1 cq46), if_neg (by rw [cq112]; decide)])).symm)
              · skip
                have cq112 := bI_n0.mp cq112
                refine lv_iload_n hx hb dX4_readInto_115 rfl (lv_at hl 2 rfl) ?_
                refine lv_goto (tgt := 126) hx hb dX4_readInto_116 rfl ?_
                exact x_iret E hA rt hw dX4_readInto_126 ((congrArg (fun T : (Int32 × Cs × Tq) × Int32 => T.1.1) (show Z = ((nI i, Sv, (nv, kv, sv, wv, hv, bv)), wv0) from by rw [hL, show 151 - i = (150 - i) + 1 by omega, rlC, if_neg (fun h9 => h9.2.1 cq46), if_pos cq112])).symm) ((congrArg (fun T : (Int32 × Cs × Tq) × Int32 => xT G a f (nI z) (nI T.1.2.1.1) (nI T.1.2.1.2.1) T.1.2.1.2.2.1 T.1.2.1.2.2.2 ++ tW G b T.2 0 0 0 (nI T.1.2.2.1) T.1.2.2.2.1 T.1.2.2.2.2.1 T.1.2.2.2.2.2.1 T.1.2.2.2.2.2.2.1 T.1.2.2.2.2.2.2.2) (show Z = ((nI i, Sv, (nv, kv, sv, wv, hv, bv)), wv0) from by rw [hL, show 151 - i = (150 - i) + 1 by omega, rlC, if_neg (fun h9 => h9.2.1 cq46), if_pos cq112])).symm)
            · skip
              refine lv_iload_n hx hb dX4_readInto_49 rfl (lv_at hl 2 rfl) ?_
              refine lv_sipush (v := 150) hx hb dX4_readInto_50 rfl ?_
              refine lv_icmp_ge (tgt := 111) hx hb dX4_readInto_53 rfl (fun cq53 => ?_) (fun cq53 => ?_)
              · skip
                have cq53 : 150 ≤ i := (cv_le (a := 150) (b := i) rfl rfl (by omega) (by omega)).mp cq53
                refine lv_iload_n hx hb dX4_readInto_111 rfl (lv_at hl 3 rfl) ?_
                refine lv_if_eq (tgt := 119) hx hb dX4_readInto_112 rfl (fun cq112 => ?_) (fun cq112 => ?_)
                · skip
                  have cq112 := bI_0.mp cq112
                  refine lv_bipush (v := -10) hx hb dX4_readInto_119 rfl ?_
                  refine lv_aload_n hx hb dX4_readInto_121 rfl (lv_at hl 0 rfl) ?_
                  refine x_get E hw fw_X4_44 0 rfl rfl dX4_readInto_122 ?_
                  refine lv_isub hx hb dX4_readInto_125 ?_
                  exact x_iret E hA rt hw dX4_readInto_126 ((congrArg (fun T : (Int32 × Cs × Tq) × Int32 => T.1.1) (show Z = ((-10 - nI Sv.2.1, Sv, (nv, kv, sv, wv, hv, bv)), wv0) from by rw [hL, show 151 - i = (150 - i) + 1 by omega, rlC, if_neg (fun h9 => absurd h9.2.2 (by omega)), if_neg (by rw [cq112]; decide)])).symm) ((congrArg (fun T : (Int32 × Cs × Tq) × Int32 => xT G a f (nI z) (nI T.1.2.1.1) (nI T.1.2.1.2.1) T.1.2.1.2.2.1 T.1.2.1.2.2.2 ++ tW G b T.2 0 0 0 (nI T.1.2.2.1) T.1.2.2.2.1 T.1.2.2.2.2.1 T.1.2.2.2.2.2.1 T.1.2.2.2.2.2.2.1 T.1.2.2.2.2.2.2.2) (show Z = ((-10 - nI Sv.2.1, Sv, (nv, kv, sv, wv, hv, bv)), wv0) from by rw [hL, show 151 - i = (150 - i) + 1 by omega, rlC, if_neg (fun h9 => absurd h9.2.2 (by omega)), if_neg (by rw [cq112]; decide)])).symm)
                · skip
                  have cq112 := bI_n0.mp cq112
                  refine lv_iload_n hx hb dX4_readInto_115 rfl (lv_at hl 2 rfl) ?_
                  refine lv_goto (tgt := 126) hx hb dX4_readInto_116 rfl ?_
                  exact x_iret E hA rt hw dX4_readInto_126 ((congrArg (fun T : (Int32 × Cs × Tq) × Int32 => T.1.1) (show Z = ((nI i, Sv, (nv, kv, sv, wv, hv, bv)), wv0) from by rw [hL, show 151 - i = (150 - i) + 1 by omega, rlC, if_neg (fun h9 => absurd h9.2.2 (by omega)), if_pos cq112])).symm) ((congrArg (fun T : (Int32 × Cs × Tq) × Int32 => xT G a f (nI z) (nI T.1.2.1.1) (nI T.1.2.1.2.1) T.1.2.1.2.2.1 T.1.2.1.2.2.2 ++ tW G b T.2 0 0 0 (nI T.1.2.2.1) T.1.2.2.2.1 T.1.2.2.2.2.1 T.1.2.2.2.2.2.1 T.1.2.2.2.2.2.2.1 T.1.2.2.2.2.2.2.2) (show Z = ((nI i, Sv, (nv, kv, sv, wv, hv, bv)), wv0) from by rw [hL, show 151 - i = (150 - i) + 1 by omega, rlC, if_neg (fun h9 => absurd h9.2.2 (by omega)), if_pos cq112])).symm)
              · skip
                have cq53 : ¬ 150 ≤ i := fun h => cq53 ((cv_le (a := 150) (b := i) rfl rfl (by omega) (by omega)).mpr h)
                refine lv_iinc (v := nI (i + 1)) (lv' := [(2, .int (nI (i + 1))), (0, .ref (a 0)), (1, .ref (b 0)), (3, .int (bI ft))]) hx hb dX4_readInto_56 hl (k := 2) rfl (nI_add _ 1) (by decide) rfl (fun ls hl => ?_)
                refine lv_aload_n hx hb dX4_readInto_59 rfl (lv_at hl 1 rfl) ?_
                obtain ⟨T1, hT1⟩ : ∃ T, nxk f z Sv = T := ⟨_, rfl⟩
                have s1 := nxk_ok (f := f) hSv
                rw [hT1] at s1
                obtain ⟨Z1, hZ1⟩ : ∃ T, rcC f z T1 nv kv sv wv hv bv = T := ⟨_, rfl⟩
                have r1 := rcC_ok (f := f) (ki := kv) (se := sv) (wd := wv) (hu := hv) (bt := bv) s1.2.1 hnv
                rw [hZ1] at r1
                obtain ⟨Z2, hZ2⟩ : ∃ T, crC f z T1 nv hv = T := ⟨_, rfl⟩
                have r2 := crC_ok (f := f) (n := nv) (hu := hv) s1.2.1
                rw [hZ2] at r2
                refine k_callV (is := [0, 1]) (q0 := 0) (As := []) (rest := []) (st1 := []) (ws' := (xT G a f (nI z) (nI T1.1) (nI T1.2.1) T1.2.2.1 T1.2.2.2) ++ (tW G b wv0 0 0 0 (nI nv) kv sv wv hv bv)) E hS (c_X4_nextToken K l G a f z Sv T1 (hSv) (hz) (hT1)) vw_X4_28 hw [0, 1] rfl rfl rfl rfl rfl rfl rfl hl.1 rfl rfl (Nat.le_of_ble_eq_true rfl) ⟨Nat.le_of_ble_eq_true rfl, Nat.le_of_ble_eq_true rfl⟩ (Nat.zero_le _) (Nat.zero_le _) dX4_readInto_60 rfl rfl (fun H locs hw => ?_)
                refine lv_aload_n hx hb dX4_readInto_63 rfl (lv_at hl 1 rfl) ?_
                refine x_get E hw fw_X4_31 0 rfl rfl dX4_readInto_64 ?_
                refine lv_iconst (v := 4) hx hb dX4_readInto_67 rfl ?_
                refine lv_icmp_ne (tgt := 79) hx hb dX4_readInto_68 rfl (fun cq68 => ?_) (fun cq68 => ?_)
                · skip
                  refine lv_aload_n hx hb dX4_readInto_79 rfl (lv_at hl 1 rfl) ?_
                  refine x_get E hw fw_X4_31 0 rfl rfl dX4_readInto_80 ?_
                  refine lv_iconst (v := 5) hx hb dX4_readInto_83 rfl ?_
                  refine lv_icmp_ne (tgt := 95) hx hb dX4_readInto_84 rfl (fun cq84 => ?_) (fun cq84 => ?_)
                  · skip
                    refine lv_aload_n hx hb dX4_readInto_95 rfl (lv_at hl 1 rfl) ?_
                    refine x_get E hw fw_X4_31 0 rfl rfl dX4_readInto_96 ?_
                    refine lv_if_ne (tgt := 106) hx hb dX4_readInto_99 rfl (fun cq99 => ?_) (fun cq99 => ?_)
                    · skip
                      refine lv_iconst (v := 0) hx hb dX4_readInto_106 rfl ?_
                      refine lv_istore_n (lv' := [(3, .int 0), (2, .int (nI (i + 1))), (0, .ref (a 0)), (1, .ref (b 0))]) hx hb dX4_readInto_107 rfl hl (by decide) rfl (fun ls hl => ?_)
                      refine lv_goto (tgt := 38) hx hb dX4_readInto_108 rfl ?_
                      exact ih38 (i + 1) false T1 wv0 nv kv sv wv hv bv (by omega) (s1.2.1) (hnv) (by rw [hL, show 151 - i = (151 - (i + 1)) + 1 by omega, rlC, if_pos ⟨cq39, cq46, by omega⟩, hT1, if_neg cq68, if_neg cq84, decide_eq_false cq99]) (by omega) _ _ _ hw (lv_sub hl [2, 3, 1, 0] rfl)
                    · skip
                      refine lv_iconst (v := 1) hx hb dX4_readInto_102 rfl ?_
                      refine lv_goto (tgt := 107) hx hb dX4_readInto_103 rfl ?_
                      refine lv_istore_n (lv' := [(3, .int 1), (2, .int (nI (i + 1))), (0, .ref (a 0)), (1, .ref (b 0))]) hx hb dX4_readInto_107 rfl hl (by decide) rfl (fun ls hl => ?_)
                      refine lv_goto (tgt := 38) hx hb dX4_readInto_108 rfl ?_
                      exact ih38 (i + 1) true T1 wv0 nv kv sv wv hv bv (by omega) (s1.2.1) (hnv) (by rw [hL, show 151 - i = (151 - (i + 1)) + 1 by omega, rlC, if_pos ⟨cq39, cq46, by omega⟩, hT1, if_neg cq68, if_neg cq84, decide_eq_true cq99]) (by omega) _ _ _ hw (lv_sub hl [2, 3, 1, 0] rfl)
                  · skip
                    refine lv_aload_n hx hb dX4_readInto_87 rfl (lv_at hl 1 rfl) ?_
                    refine lv_aload_n hx hb dX4_readInto_88 rfl (lv_at hl 2 rfl) ?_
                    refine k_callV (is := [0, 1, 2, 3, 4, 5, 6, 7]) (q0 := 0) (As := [.ref (b 0)]) (rest := []) (st1 := [.int (bI Z2.1)]) (ws' := (xT G a f (nI z) (nI Z2.2.1.1) (nI Z2.2.1.2.1) Z2.2.1.2.2.1 Z2.2.1.2.2.2) ++ (tW G b wv0 0 0 0 (nI nv) kv sv wv Z2.2.2 bv)) E hS (c_X4_readCarrot K l G a b f z T1 wv0 0 0 0 nv kv sv wv hv bv Z2 (s1.2.1) (hz) (by omega) (hZ2)) vw_X4_41 hw [0, 1, 2, 3, 4, 5, 6, 7] rfl rfl rfl rfl rfl rfl rfl hl.1 rfl rfl (Nat.le_of_ble_eq_true rfl) ⟨Nat.le_of_ble_eq_true rfl, Nat.le_of_ble_eq_true rfl⟩ (Nat.zero_le _) (Nat.zero_le _) dX4_readInto_89 rfl rfl (fun H locs hw => ?_)
                    refine lv_goto (tgt := 107) hx hb dX4_readInto_92 rfl ?_
                    refine lv_istore_n (lv' := [(3, .int (bI Z2.1)), (2, .int (nI (i + 1))), (0, .ref (a 0)), (1, .ref (b 0))]) hx hb dX4_readInto_107 rfl hl (by decide) rfl (fun ls hl => ?_)
                    refine lv_goto (tgt := 38) hx hb dX4_readInto_108 rfl ?_
                    exact ih38 (i + 1) Z2.1 Z2.2.1 wv0 nv kv sv wv Z2.2.2 bv (by omega) (r2) (hnv) (by rw [hL, show 151 - i = (151 - (i + 1)) + 1 by omega, rlC, if_pos ⟨cq39, cq46, by omega⟩, hT1, if_neg cq68, if_pos cq84]; show (rlC f z (151 - (i + 1)) (i + 1) (crC f z T1 nv hv).1 (crC f z T1 nv hv).2.1 (nv, kv, sv, wv, (crC f z T1 nv hv).2.2, bv), wv0) = _; rw [hZ2]) (by omega) _ _ _ hw (lv_sub hl [2, 3, 1, 0] rfl)
                · skip
                  refine lv_aload_n hx hb dX4_readInto_71 rfl (lv_at hl 1 rfl) ?_
                  refine lv_aload_n hx hb dX4_readInto_72 rfl (lv_at hl 2 rfl) ?_
                  refine k_callV (is := [0, 1, 2, 3, 4, 5, 6, 7]) (q0 := 0) (As := [.ref (b 0)]) (rest := []) (st1 := [.int (bI Z1.1)]) (ws' := (xT G a f (nI z) (nI Z1.2.1.1) (nI Z1.2.1.2.1) Z1.2.1.2.2.1 Z1.2.1.2.2.2) ++ (tW G b wv0 0 0 0 (nI Z1.2.2.1) Z1.2.2.2.1 Z1.2.2.2.2.1 Z1.2.2.2.2.2.1 Z1.2.2.2.2.2.2.1 Z1.2.2.2.2.2.2.2)) E hS (c_X4_readChild K l G a b f z T1 wv0 0 0 0 nv kv sv wv hv bv Z1 (s1.2.1) (hz) (by omega) (hZ1)) vw_X4_38 hw [0, 1, 2, 3, 4, 5, 6, 7] rfl rfl rfl rfl rfl rfl rfl hl.1 rfl rfl (Nat.le_of_ble_eq_true rfl) ⟨Nat.le_of_ble_eq_true rfl, Nat.le_of_ble_eq_true rfl⟩ (Nat.zero_le _) (Nat.zero_le _) dX4_readInto_73 rfl rfl (fun H locs hw => ?_)
                  refine lv_goto (tgt := 107) hx hb dX4_readInto_76 rfl ?_
                  refine lv_istore_n (lv' := [(3, .int (bI Z1.1)), (2, .int (nI (i + 1))), (0, .ref (a 0)), (1, .ref (b 0))]) hx hb dX4_readInto_107 rfl hl (by decide) rfl (fun ls hl => ?_)
                  refine lv_goto (tgt := 38) hx hb dX4_readInto_108 rfl ?_
                  exact ih38 (i + 1) Z1.1 Z1.2.1 wv0 Z1.2.2.1 Z1.2.2.2.1 Z1.2.2.2.2.1 Z1.2.2.2.2.2.1 Z1.2.2.2.2.2.2.1 Z1.2.2.2.2.2.2.2 (by omega) (r1.2.1) (r1.2.2) (by rw [hL, show 151 - i = (151 - (i + 1)) + 1 by omega, rlC, if_pos ⟨cq39, cq46, by omega⟩, hT1, if_pos cq68]; show (rlC f z (151 - (i + 1)) (i + 1) (rcC f z T1 nv kv sv wv hv bv).1 (rcC f z T1 nv kv sv wv hv bv).2.1 (rcC f z T1 nv kv sv wv hv bv).2.2, wv0) = _; rw [hZ1]) (by omega) _ _ _ hw (lv_sub hl [2, 3, 1, 0] rfl)
      exact lp38 (150 - 0 + 1) 0 true Z0.2.1 Z0.2.2 0 ki se wd hu bt (Nat.zero_le _) (w0) (Nat.zero_le _) (by rw [← hZ, rdC, hT0, if_pos cq21, hZ0, cq29]) (by omega) _ _ _ hw (lv_sub hl [2, 3, 1, 0] rfl)

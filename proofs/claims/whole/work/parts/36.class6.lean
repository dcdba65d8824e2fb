set_option maxHeartbeats 1000000 in
set_option maxRecDepth 100000 in
theorem c_X5_seatRest_0 (l : Launch) (G : GG) (a : Nat → Nat) (g : Nat) (x : Int32) (kk : Nat) (hv_x : x = nI kk) (y : Int32) (all : Nat) (hv_y : y = nI all) (few : Int32) (wo : Int32) (mi : Int32) (bi : Int32) (la : Int32) (ch : Int32) (ki : Nat → Int32) (se : Nat → Int32) (wd : Nat → Int32) (hu : Nat → Int32) (bt : Nat → Int32) (sgf : Nat → Int32) (Z : Ss) (hk : kk ≤ 6) (hd : 6 ≤ kk + 0) (hall : all ≤ 6) (hZ : srC wo la all ki wd hu bt 1 kk few se sgf = Z) : CT l G yX5_seatRest cX5_seatRest 8 (some .int) 4 87 [.ref (a 0), .int x, .int y, .int few, .ref g] ((tW G a wo mi bi la ch ki se wd hu bt) ++ (aW G g 6 sgf)) (some (.int Z.1)) ((tW G a wo mi bi la Z.2.1 ki Z.2.2.1 wd hu bt) ++ (aW G g 6 Z.2.2.2)) := by
  refine CT.mk (own := RX5) (la := [(0, .ref (a 0)), (1, .int x), (2, .int y), (3, .int few), (4, .ref g)]) (by decide) rfl (Nat.le_of_ble_eq_true rfl) rfl ?_
  intro p e s m args below meth c A Q E hA hw rt ls hl
  have hx := E.1
  have hb := E.2.1
  refine lv_aload_n hx hb dX5_seatRest_0 rfl (lv_at hl 0 rfl) ?_
  refine lv_iload_n hx hb dX5_seatRest_1 rfl (lv_at hl 1 rfl) ?_
  refine x_topi (y := nI kk) (hv_x) ?_
  refine x_put (ws' := (tW G a wo mi bi la (nI kk) ki se wd hu bt) ++ (aW G g 6 sgf)) (ty := .int) E hw fw_X5_63 0 rfl rfl rfl (by decide +kernel) rfl rfl (Nat.le_of_ble_eq_true rfl) dX5_seatRest_2 rfl (fun H locs hw => ?_)
  refine lv_aload_n hx hb dX5_seatRest_5 rfl (lv_at hl 0 rfl) ?_
  refine x_callV (is := [0, 1, 2, 3, 4, 5]) (q0 := 0) (As := []) (rest := []) (st1 := [.int (bitr wo la kk ki se wd hu bt)]) (ws' := (tW G a wo mi bi la (nI kk) ki se wd hu bt) ++ (aW G g 6 sgf)) E (c_X3_biters l G a wo mi bi la kk ki se wd hu bt (by omega)) vw_X5_150 hw [0, 1, 2, 3, 4, 5] rfl rfl rfl rfl rfl rfl rfl hl.1 rfl rfl (Nat.le_of_ble_eq_true rfl) ⟨Nat.le_of_ble_eq_true rfl, Nat.le_of_ble_eq_true rfl⟩ (Nat.zero_le _) (Nat.zero_le _) dX5_seatRest_6 rfl rfl (fun H locs hw => ?_)
  refine x_callS (is := []) (As := [.int (bitr wo la kk ki se wd hu bt)]) (rest := []) (st1 := [.int (bcI (bitr wo la kk ki se wd hu bt))]) (ws' := (tW G a wo mi bi la (nI kk) ki se wd hu bt) ++ (aW G g 6 sgf)) E (c_bitCount l G (bitr wo la kk ki se wd hu bt)) sw_X5_200 hw [] rfl rfl rfl rfl hl.1 rfl rfl (Nat.le_of_ble_eq_true rfl) ⟨Nat.le_of_ble_eq_true rfl, Nat.le_of_ble_eq_true rfl⟩ (Nat.zero_le _) (Nat.zero_le _) dX5_seatRest_9 rfl rfl (fun H locs hw => ?_)
  refine lv_istore (lv' := [(5, .int (bcI (bitr wo la kk ki se wd hu bt))), (0, .ref (a 0)), (1, .int x), (2, .int y), (3, .int few), (4, .ref g)]) hx hb dX5_seatRest_12 hl (by decide) rfl (fun ls hl => ?_)
  refine lv_iload hx hb dX5_seatRest_14 (lv_at hl 0 rfl) ?_
  refine lv_iload_n hx hb dX5_seatRest_16 rfl (lv_at hl 4 rfl) ?_
  refine lv_icmp_lt (tgt := 22) hx hb dX5_seatRest_17 rfl (fun cq17 => ?_) (fun cq17 => ?_)
  · skip
    refine lv_iload_n hx hb dX5_seatRest_22 rfl (lv_at hl 2 rfl) ?_
    refine lv_iload_n hx hb dX5_seatRest_23 rfl (lv_at hl 3 rfl) ?_
    refine lv_icmp_ge (tgt := 33) hx hb dX5_seatRest_24 rfl (fun cq24 => ?_) (fun cq24 => ?_)
    · skip
      have cq24 : all ≤ kk := (cv_le (a := all) (b := kk) hv_y hv_x (by omega) (by omega)).mp cq24
      refine lv_aload_n hx hb dX5_seatRest_33 rfl (lv_at hl 1 rfl) ?_
      refine x_get E hw fw_X5_126 0 rfl rfl dX5_seatRest_34 ?_
      refine lv_iconst (v := 0) hx hb dX5_seatRest_37 rfl ?_
      refine lv_aload hx hb dX5_seatRest_38 (lv_at hl 5 rfl) ?_
      refine lv_iconst (v := 0) hx hb dX5_seatRest_40 rfl ?_
      refine lv_bipush (v := 6) hx hb dX5_seatRest_41 rfl ?_
      refine x_copyi (ws' := (tW G a wo mi bi la (nI kk) ki se wd hu bt) ++ (aW G g 6 se)) E hw lw_X5_230 kw_acopy hl.1 2 6 rfl rfl rfl rfl rfl (by omega) (Nat.le_of_ble_eq_true rfl) (Nat.le_of_ble_eq_true rfl) dX5_seatRest_43 rfl (fun H locs hw => ?_)
      refine lv_iload hx hb dX5_seatRest_46 (lv_at hl 0 rfl) ?_
      exact x_iret E hA rt hw dX5_seatRest_48 ((congrArg (fun T : Ss => T.1) (show Z = (bcI (bitr wo la kk ki se wd hu bt), nI kk, se, se) from by rw [← hZ, srC, if_neg (Int32.not_le.mpr cq17), if_pos (Or.inl cq24)])).symm) ((congrArg (fun T : Ss => tW G a wo mi bi la T.2.1 ki T.2.2.1 wd hu bt ++ aW G g 6 T.2.2.2) (show Z = (bcI (bitr wo la kk ki se wd hu bt), nI kk, se, se) from by rw [← hZ, srC, if_neg (Int32.not_le.mpr cq17), if_pos (Or.inl cq24)])).symm)
    · skip
      have cq24 : ¬ all ≤ kk := fun h => cq24 ((cv_le (a := all) (b := kk) hv_y hv_x (by omega) (by omega)).mpr h)
      refine lv_iload_n hx hb dX5_seatRest_27 rfl (lv_at hl 2 rfl) ?_
      refine lv_bipush (v := 6) hx hb dX5_seatRest_28 rfl ?_
      refine lv_icmp_lt (tgt := 49) hx hb dX5_seatRest_30 rfl (fun cq30 => ?_) (fun cq30 => ?_)
      · skip
        have cq30 : kk < 6 := (cv_lt (a := kk) (b := 6) hv_x rfl (by omega) (by omega)).mp cq30
        exact absurd cq30 (by omega)
      · skip
        have cq30 : ¬ kk < 6 := fun h => cq30 ((cv_lt (a := kk) (b := 6) hv_x rfl (by omega) (by omega)).mpr h)
        refine lv_aload_n hx hb dX5_seatRest_33 rfl (lv_at hl 1 rfl) ?_
        refine x_get E hw fw_X5_126 0 rfl rfl dX5_seatRest_34 ?_
        refine lv_iconst (v := 0) hx hb dX5_seatRest_37 rfl ?_
        refine lv_aload hx hb dX5_seatRest_38 (lv_at hl 5 rfl) ?_
        refine lv_iconst (v := 0) hx hb dX5_seatRest_40 rfl ?_
        refine lv_bipush (v := 6) hx hb dX5_seatRest_41 rfl ?_
        refine x_copyi (ws' := (tW G a wo mi bi la (nI kk) ki se wd hu bt) ++ (aW G g 6 se)) E hw lw_X5_230 kw_acopy hl.1 2 6 rfl rfl rfl rfl rfl (by omega) (Nat.le_of_ble_eq_true rfl) (Nat.le_of_ble_eq_true rfl) dX5_seatRest_43 rfl (fun H locs hw => ?_)
        refine lv_iload hx hb dX5_seatRest_46 (lv_at hl 0 rfl) ?_
        exact x_iret E hA rt hw dX5_seatRest_48 ((congrArg (fun T : Ss => T.1) (show Z = (bcI (bitr wo la kk ki se wd hu bt), nI kk, se, se) from by rw [← hZ, srC, if_neg (Int32.not_le.mpr cq17), if_pos (Or.inr (by omega))])).symm) ((congrArg (fun T : Ss => tW G a wo mi bi la T.2.1 ki T.2.2.1 wd hu bt ++ aW G g 6 T.2.2.2) (show Z = (bcI (bitr wo la kk ki se wd hu bt), nI kk, se, se) from by rw [← hZ, srC, if_neg (Int32.not_le.mpr cq17), if_pos (Or.inr (by omega))])).symm)
  · skip
    refine lv_iload_n hx hb dX5_seatRest_20 rfl (lv_at hl 4 rfl) ?_
    exact x_iret E hA rt hw dX5_seatRest_21 ((congrArg (fun T : Ss => T.1) (show Z = (few, nI kk, se, sgf) from by rw [← hZ, srC, if_pos (Int32.not_lt.mp cq17)])).symm) ((congrArg (fun T : Ss => tW G a wo mi bi la T.2.1 ki T.2.2.1 wd hu bt ++ aW G g 6 T.2.2.2) (show Z = (few, nI kk, se, sgf) from by rw [← hZ, srC, if_pos (Int32.not_lt.mp cq17)])).symm)
set_option maxHeartbeats 1000000 in
set_option maxRecDepth 100000 in
theorem c_X5_seatRest_1 (l : Launch) (G : GG) (a : Nat → Nat) (g : Nat) (x : Int32) (kk : Nat) (hv_x : x = nI kk) (y : Int32) (all : Nat) (hv_y : y = nI all) (few : Int32) (wo : Int32) (mi : Int32) (bi : Int32) (la : Int32) (ch : Int32) (ki : Nat → Int32) (se : Nat → Int32) (wd : Nat → Int32) (hu : Nat → Int32) (bt : Nat → Int32) (sgf : Nat → Int32) (Z : Ss) (hk : kk ≤ 6) (hd : 6 ≤ kk + 1) (hall : all ≤ 6) (hZ : srC wo la all ki wd hu bt 2 kk few se sgf = Z) : CT l G yX5_seatRest cX5_seatRest 8 (some .int) 5 114 [.ref (a 0), .int x, .int y, .int few, .ref g] ((tW G a wo mi bi la ch ki se wd hu bt) ++ (aW G g 6 sgf)) (some (.int Z.1)) ((tW G a wo mi bi la Z.2.1 ki Z.2.2.1 wd hu bt) ++ (aW G g 6 Z.2.2.2)) := by
  refine CT.mk (own := RX5) (la := [(0, .ref (a 0)), (1, .int x), (2, .int y), (3, .int few), (4, .ref g)]) (by decide) rfl (Nat.le_of_ble_eq_true rfl) rfl ?_
  intro p e s m args below meth c A Q E hA hw rt ls hl
  have hx := E.1
  have hb := E.2.1
  refine lv_aload_n hx hb dX5_seatRest_0 rfl (lv_at hl 0 rfl) ?_
  refine lv_iload_n hx hb dX5_seatRest_1 rfl (lv_at hl 1 rfl) ?_
  refine x_topi (y := nI kk) (hv_x) ?_
  refine x_put (ws' := (tW G a wo mi bi la (nI kk) ki se wd hu bt) ++ (aW G g 6 sgf)) (ty := .int) E hw fw_X5_63 0 rfl rfl rfl (by decide +kernel) rfl rfl (Nat.le_of_ble_eq_true rfl) dX5_seatRest_2 rfl (fun H locs hw => ?_)
  refine lv_aload_n hx hb dX5_seatRest_5 rfl (lv_at hl 0 rfl) ?_
  refine x_callV (is := [0, 1, 2, 3, 4, 5]) (q0 := 0) (As := []) (rest := []) (st1 := [.int (bitr wo la kk ki se wd hu bt)]) (ws' := (tW G a wo mi bi la (nI kk) ki se wd hu bt) ++ (aW G g 6 sgf)) E (c_X3_biters l G a wo mi bi la kk ki se wd hu bt (by omega)) vw_X5_150 hw [0, 1, 2, 3, 4, 5] rfl rfl rfl rfl rfl rfl rfl hl.1 rfl rfl (Nat.le_of_ble_eq_true rfl) ⟨Nat.le_of_ble_eq_true rfl, Nat.le_of_ble_eq_true rfl⟩ (Nat.zero_le _) (Nat.zero_le _) dX5_seatRest_6 rfl rfl (fun H locs hw => ?_)
  refine x_callS (is := []) (As := [.int (bitr wo la kk ki se wd hu bt)]) (rest := []) (st1 := [.int (bcI (bitr wo la kk ki se wd hu bt))]) (ws' := (tW G a wo mi bi la (nI kk) ki se wd hu bt) ++ (aW G g 6 sgf)) E (c_bitCount l G (bitr wo la kk ki se wd hu bt)) sw_X5_200 hw [] rfl rfl rfl rfl hl.1 rfl rfl (Nat.le_of_ble_eq_true rfl) ⟨Nat.le_of_ble_eq_true rfl, Nat.le_of_ble_eq_true rfl⟩ (Nat.zero_le _) (Nat.zero_le _) dX5_seatRest_9 rfl rfl (fun H locs hw => ?_)
  refine lv_istore (lv' := [(5, .int (bcI (bitr wo la kk ki se wd hu bt))), (0, .ref (a 0)), (1, .int x), (2, .int y), (3, .int few), (4, .ref g)]) hx hb dX5_seatRest_12 hl (by decide) rfl (fun ls hl => ?_)
  refine lv_iload hx hb dX5_seatRest_14 (lv_at hl 0 rfl) ?_
  refine lv_iload_n hx hb dX5_seatRest_16 rfl (lv_at hl 4 rfl) ?_
  refine lv_icmp_lt (tgt := 22) hx hb dX5_seatRest_17 rfl (fun cq17 => ?_) (fun cq17 => ?_)
  · skip
    refine lv_iload_n hx hb dX5_seatRest_22 rfl (lv_at hl 2 rfl) ?_
    refine lv_iload_n hx hb dX5_seatRest_23 rfl (lv_at hl 3 rfl) ?_
    refine lv_icmp_ge (tgt := 33) hx hb dX5_seatRest_24 rfl (fun cq24 => ?_) (fun cq24 => ?_)
    · skip
      have cq24 : all ≤ kk := (cv_le (a := all) (b := kk) hv_y hv_x (by omega) (by omega)).mp cq24
      refine lv_aload_n hx hb dX5_seatRest_33 rfl (lv_at hl 1 rfl) ?_
      refine x_get E hw fw_X5_126 0 rfl rfl dX5_seatRest_34 ?_
      refine lv_iconst (v := 0) hx hb dX5_seatRest_37 rfl ?_
      refine lv_aload hx hb dX5_seatRest_38 (lv_at hl 5 rfl) ?_
      refine lv_iconst (v := 0) hx hb dX5_seatRest_40 rfl ?_
      refine lv_bipush (v := 6) hx hb dX5_seatRest_41 rfl ?_
      refine x_copyi (ws' := (tW G a wo mi bi la (nI kk) ki se wd hu bt) ++ (aW G g 6 se)) E hw lw_X5_230 kw_acopy hl.1 2 6 rfl rfl rfl rfl rfl (by omega) (Nat.le_of_ble_eq_true rfl) (Nat.le_of_ble_eq_true rfl) dX5_seatRest_43 rfl (fun H locs hw => ?_)
      refine lv_iload hx hb dX5_seatRest_46 (lv_at hl 0 rfl) ?_
      exact x_iret E hA rt hw dX5_seatRest_48 ((congrArg (fun T : Ss => T.1) (show Z = (bcI (bitr wo la kk ki se wd hu bt), nI kk, se, se) from by rw [← hZ, srC, if_neg (Int32.not_le.mpr cq17), if_pos (Or.inl cq24)])).symm) ((congrArg (fun T : Ss => tW G a wo mi bi la T.2.1 ki T.2.2.1 wd hu bt ++ aW G g 6 T.2.2.2) (show Z = (bcI (bitr wo la kk ki se wd hu bt), nI kk, se, se) from by rw [← hZ, srC, if_neg (Int32.not_le.mpr cq17), if_pos (Or.inl cq24)])).symm)
    · skip
      have cq24 : ¬ all ≤ kk := fun h => cq24 ((cv_le (a := all) (b := kk) hv_y hv_x (by omega) (by omega)).mpr h)
      refine lv_iload_n hx hb dX5_seatRest_27 rfl (lv_at hl 2 rfl) ?_
      refine lv_bipush (v := 6) hx hb dX5_seatRest_28 rfl ?_
      refine lv_icmp_lt (tgt := 49) hx hb dX5_seatRest_30 rfl (fun cq30 => ?_) (fun cq30 => ?_)
      · skip
        have cq30 : kk < 6 := (cv_lt (a := kk) (b := 6) hv_x rfl (by omega) (by omega)).mp cq30
        refine lv_iload_n hx hb dX5_seatRest_49 rfl (lv_at hl 4 rfl) ?_
        refine lv_istore (lv' := [(6, .int few), (5, .int (bcI (bitr wo la kk ki se wd hu bt))), (0, .ref (a 0)), (1, .int x), (2, .int y), (3, .int few), (4, .ref g)]) hx hb dX5_seatRest_50 hl (by decide) rfl (fun ls hl => ?_)
        refine lv_iconst (v := 0) hx hb dX5_seatRest_52 rfl ?_
        refine lv_istore (lv' := [(7, .int 0), (6, .int few), (5, .int (bcI (bitr wo la kk ki se wd hu bt))), (0, .ref (a 0)), (1, .int x), (2, .int y), (3, .int few), (4, .ref g)]) hx hb dX5_seatRest_53 hl (by decide) rfl (fun ls hl => ?_)
        have lp55 : ∀ (fuel : Nat), ∀ (q : Nat) (Y : Ss) (hq : q ≤ 8) (hY : fold8 (fun q x => if fi x.2.2.1 (nI q) kk 0 = -1 then srC wo la all ki wd hu bt 1 (kk + 1) x.1 (upd x.2.2.1 kk (nI q)) x.2.2.2 else (x.1, nI kk, x.2.2.1, x.2.2.2)) q (few, nI kk, se, sgf) = Y), (8 - q) < fuel → ∀ (H : Heap) (locs : List Loc) (ls : Array Slot), Wd G A s H locs ((tW G a wo mi bi la Y.2.1 ki Y.2.2.1 wd hu bt) ++ (aW G g 6 Y.2.2.2)) → lv_has ls 8 [(0, .ref (a 0)), (1, .int x), (2, .int y), (3, .int few), (4, .ref g), (5, .int (bcI (bitr wo la kk ki se wd hu bt))), (6, .int Y.1), (7, .int (nI q))] → W p l e (rmx 5 114) s m args below meth c H locs 0 0 Q (F0 m 55 ls []) := by
          intro fuel
          induction fuel with
          | zero => intro q Y hq hY hfu; exact absurd hfu (Nat.not_lt_zero _)
          | succ fuel ih55 =>
            intro q Y hq hY hfu H locs ls hw hl
            refine lv_iload hx hb dX5_seatRest_55 (lv_at hl 7 rfl) ?_
            refine lv_bipush (v := 8) hx hb dX5_seatRest_57 rfl ?_
            refine lv_icmp_ge (tgt := 105) hx hb dX5_seatRest_59 rfl (fun cq59 => ?_) (fun cq59 => ?_)
            · skip
              have cq59 : 8 ≤ q := (cv_le (a := 8) (b := q) rfl rfl (by omega) (by omega)).mp cq59
              refine lv_iload hx hb dX5_seatRest_105 (lv_at hl 6 rfl) ?_
              exact x_iret E hA rt hw dX5_seatRest_107 ((congrArg (fun T : Ss => T.1) (show Z = Y from by rw [← hZ, srC, if_neg (Int32.not_le.mpr cq17), if_neg (fun h9 => h9.elim (fun h8 => cq24 h8) (fun h8 => by omega)), ← hY, show q = 8 by omega])).symm) ((congrArg (fun T : Ss => tW G a wo mi bi la T.2.1 ki T.2.2.1 wd hu bt ++ aW G g 6 T.2.2.2) (show Z = Y from by rw [← hZ, srC, if_neg (Int32.not_le.mpr cq17), if_neg (fun h9 => h9.elim (fun h8 => cq24 h8) (fun h8 => by omega)), ← hY, show q = 8 by omega])).symm)
            · skip
              have cq59 : ¬ 8 ≤ q := fun h => cq59 ((cv_le (a := 8) (b := q) rfl rfl (by omega) (by omega)).mpr h)
              refine lv_aload_n hx hb dX5_seatRest_62 rfl (lv_at hl 0 rfl) ?_
              refine lv_iload_n hx hb dX5_seatRest_63 rfl (lv_at hl 1 rfl) ?_
              refine x_topi (y := nI kk) (hv_x) ?_
              refine x_put (ws' := (tW G a wo mi bi la (nI kk) ki Y.2.2.1 wd hu bt) ++ (aW G g 6 Y.2.2.2)) (ty := .int) E hw fw_X5_63 0 rfl rfl rfl (by decide +kernel) rfl rfl (Nat.le_of_ble_eq_true rfl) dX5_seatRest_64 rfl (fun H locs hw => ?_)
              refine lv_aload_n hx hb dX5_seatRest_67 rfl (lv_at hl 0 rfl) ?_
              refine lv_iload hx hb dX5_seatRest_68 (lv_at hl 7 rfl) ?_
              refine x_callV (is := [0, 1, 2, 3, 4, 5]) (q0 := 0) (As := [.int (nI q)]) (rest := []) (st1 := [.int (fi Y.2.2.1 (nI q) kk 0)]) (ws' := (tW G a wo mi bi la (nI kk) ki Y.2.2.1 wd hu bt) ++ (aW G g 6 Y.2.2.2)) E (c_X3_childAt l G a (nI q) wo mi bi la kk ki Y.2.2.1 wd hu bt (by omega)) vw_X5_79 hw [0, 1, 2, 3, 4, 5] rfl rfl rfl rfl rfl rfl rfl hl.1 rfl rfl (Nat.le_of_ble_eq_true rfl) ⟨Nat.le_of_ble_eq_true rfl, Nat.le_of_ble_eq_true rfl⟩ (Nat.zero_le _) (Nat.zero_le _) dX5_seatRest_70 rfl rfl (fun H locs hw => ?_)
              refine lv_iconst (v := -1) hx hb dX5_seatRest_73 rfl ?_
              refine lv_icmp_ne (tgt := 99) hx hb dX5_seatRest_74 rfl (fun cq74 => ?_) (fun cq74 => ?_)
              · skip
                refine lv_iinc (v := nI (q + 1)) (lv' := [(7, .int (nI (q + 1))), (0, .ref (a 0)), (1, .int x), (2, .int y), (3, .int few), (4, .ref g), (5, .int (bcI (bitr wo la kk ki se wd hu bt))), (6, .int Y.1)]) hx hb dX5_seatRest_99 hl (k := 7) rfl (nI_add _ 1) (by decide) rfl (fun ls hl => ?_)
                refine lv_goto (tgt := 55) hx hb dX5_seatRest_102 rfl ?_
                exact ih55 (q + 1) (Y.1, nI kk, Y.2.2.1, Y.2.2.2) (by omega) (by rw [fold8, hY]; exact if_neg cq74) (by omega) _ _ _ hw (lv_sub hl [1, 2, 3, 4, 5, 6, 7, 0] rfl)
              · skip
                refine lv_aload_n hx hb dX5_seatRest_77 rfl (lv_at hl 0 rfl) ?_
                refine x_get E hw fw_X5_126 0 rfl rfl dX5_seatRest_78 ?_
                refine lv_iload_n hx hb dX5_seatRest_81 rfl (lv_at hl 1 rfl) ?_
                refine lv_iload hx hb dX5_seatRest_82 (lv_at hl 7 rfl) ?_
                refine x_iast (ws' := (tW G a wo mi bi la (nI kk) ki (upd Y.2.2.1 kk (nI q)) wd hu bt) ++ (aW G g 6 Y.2.2.2)) E hw 2 rfl kk (hv_x) (by omega) (by omega) dX5_seatRest_84 rfl (fun H locs hw => ?_)
                obtain ⟨Z1, hZ1⟩ : ∃ T, srC wo la all ki wd hu bt 1 (kk + 1) Y.1 (upd Y.2.2.1 kk (nI q)) Y.2.2.2 = T := ⟨_, rfl⟩
                refine lv_aload_n hx hb dX5_seatRest_85 rfl (lv_at hl 0 rfl) ?_
                refine lv_iload_n hx hb dX5_seatRest_86 rfl (lv_at hl 1 rfl) ?_
                refine lv_iconst (v := 1) hx hb dX5_seatRest_87 rfl ?_
                refine lv_iadd hx hb dX5_seatRest_88 ?_
                refine lv_iload_n hx hb dX5_seatRest_89 rfl (lv_at hl 2 rfl) ?_
                refine lv_iload hx hb dX5_seatRest_90 (lv_at hl 6 rfl) ?_
                refine lv_aload hx hb dX5_seatRest_92 (lv_at hl 4 rfl) ?_
                refine x_callS (is := [0, 1, 2, 3, 4, 5, 6]) (As := [.ref (a 0), .int (x + 1), .int y, .int Y.1, .ref g]) (rest := []) (st1 := [.int Z1.1]) (ws' := (tW G a wo mi bi la Z1.2.1 ki Z1.2.2.1 wd hu bt) ++ (aW G g 6 Z1.2.2.2)) E (c_X5_seatRest_0 l G a g (x + 1) (kk + 1) ((ix_add (a := kk) (b := 1) hv_x rfl)) y all (hv_y) Y.1 wo mi bi la (nI kk) ki (upd Y.2.2.1 kk (nI q)) wd hu bt Y.2.2.2 Z1 (by omega) (by omega) (by omega) (hZ1)) sw_X5_169 hw [0, 1, 2, 3, 4, 5, 6] rfl rfl rfl rfl hl.1 rfl rfl (Nat.le_of_ble_eq_true rfl) ⟨Nat.le_of_ble_eq_true rfl, Nat.le_of_ble_eq_true rfl⟩ (Nat.zero_le _) (Nat.zero_le _) dX5_seatRest_94 rfl rfl (fun H locs hw => ?_)
                refine lv_istore (lv' := [(6, .int Z1.1), (0, .ref (a 0)), (1, .int x), (2, .int y), (3, .int few), (4, .ref g), (5, .int (bcI (bitr wo la kk ki se wd hu bt))), (7, .int (nI q))]) hx hb dX5_seatRest_97 hl (by decide) rfl (fun ls hl => ?_)
                refine lv_iinc (v := nI (q + 1)) (lv' := [(7, .int (nI (q + 1))), (6, .int Z1.1), (0, .ref (a 0)), (1, .int x), (2, .int y), (3, .int few), (4, .ref g), (5, .int (bcI (bitr wo la kk ki se wd hu bt)))]) hx hb dX5_seatRest_99 hl (k := 7) rfl (nI_add _ 1) (by decide) rfl (fun ls hl => ?_)
                refine lv_goto (tgt := 55) hx hb dX5_seatRest_102 rfl ?_
                exact ih55 (q + 1) Z1 (by omega) (by rw [fold8, hY]; exact (if_pos cq74).trans hZ1) (by omega) _ _ _ hw (lv_sub hl [2, 3, 4, 5, 6, 7, 1, 0] rfl)
        exact lp55 (8 - 0 + 1) 0 (few, nI kk, se, sgf) (by omega) (rfl) (by omega) _ _ _ hw (lv_sub hl [3, 4, 5, 6, 7, 2, 1, 0] rfl)
      · skip
        have cq30 : ¬ kk < 6 := fun h => cq30 ((cv_lt (a := kk) (b := 6) hv_x rfl (by omega) (by omega)).mpr h)
        refine lv_aload_n hx hb dX5_seatRest_33 rfl (lv_at hl 1 rfl) ?_
        refine x_get E hw fw_X5_126 0 rfl rfl dX5_seatRest_34 ?_
        refine lv_iconst (v := 0) hx hb dX5_seatRest_37 rfl ?_
        refine lv_aload hx hb dX5_seatRest_38 (lv_at hl 5 rfl) ?_
        refine lv_iconst (v := 0) hx hb dX5_seatRest_40 rfl ?_
        refine lv_bipush (v := 6) hx hb dX5_seatRest_41 rfl ?_
        refine x_copyi (ws' := (tW G a wo mi bi la (nI kk) ki se wd hu bt) ++ (aW G g 6 se)) E hw lw_X5_230 kw_acopy hl.1 2 6 rfl rfl rfl rfl rfl (by omega) (Nat.le_of_ble_eq_true rfl) (Nat.le_of_ble_eq_true rfl) dX5_seatRest_43 rfl (fun H locs hw => ?_)
        refine lv_iload hx hb dX5_seatRest_46 (lv_at hl 0 rfl) ?_
        exact x_iret E hA rt hw dX5_seatRest_48 ((congrArg (fun T : Ss => T.1) (show Z = (bcI (bitr wo la kk ki se wd hu bt), nI kk, se, se) from by rw [← hZ, srC, if_neg (Int32.not_le.mpr cq17), if_pos (Or.inr (by omega))])).symm) ((congrArg (fun T : Ss => tW G a wo mi bi la T.2.1 ki T.2.2.1 wd hu bt ++ aW G g 6 T.2.2.2) (show Z = (bcI (bitr wo la kk ki se wd hu bt), nI kk, se, se) from by rw [← hZ, srC, if_neg (Int32.not_le.mpr cq17), if_pos (Or.inr (by omega))])).symm)
  · skip
    refine lv_iload_n hx hb dX5_seatRest_20 rfl (lv_at hl 4 rfl) ?_
    exact x_iret E hA rt hw dX5_seatRest_21 ((congrArg (fun T : Ss => T.1) (show Z = (few, nI kk, se, sgf) from by rw [← hZ, srC, if_pos (Int32.not_lt.mp cq17)])).symm) ((congrArg (fun T : Ss => tW G a wo mi bi la T.2.1 ki T.2.2.1 wd hu bt ++ aW G g 6 T.2.2.2) (show Z = (few, nI kk, se, sgf) from by rw [← hZ, srC, if_pos (Int32.not_lt.mp cq17)])).symm)
set_option maxHeartbeats 1000000 in
set_option maxRecDepth 100000 in
theorem c_X5_seatRest_2 (l : Launch) (G : GG) (a : Nat → Nat) (g : Nat) (x : Int32) (kk : Nat) (hv_x : x = nI kk) (y : Int32) (all : Nat) (hv_y : y = nI all) (few : Int32) (wo : Int32) (mi : Int32) (bi : Int32) (la : Int32) (ch : Int32) (ki : Nat → Int32) (se : Nat → Int32) (wd : Nat → Int32) (hu : Nat → Int32) (bt : Nat → Int32) (sgf : Nat → Int32) (Z : Ss) (hk : kk ≤ 6) (hd : 6 ≤ kk + 2) (hall : all ≤ 6) (hZ : srC wo la all ki wd hu bt 3 kk few se sgf = Z) : CT l G yX5_seatRest cX5_seatRest 8 (some .int) 6 141 [.ref (a 0), .int x, .int y, .int few, .ref g] ((tW G a wo mi bi la ch ki se wd hu bt) ++ (aW G g 6 sgf)) (some (.int Z.1)) ((tW G a wo mi bi la Z.2.1 ki Z.2.2.1 wd hu bt) ++ (aW G g 6 Z.2.2.2)) := by
  refine CT.mk (own := RX5) (la := [(0, .ref (a 0)), (1, .int x), (2, .int y), (3, .int few), (4, .ref g)]) (by decide) rfl (Nat.le_of_ble_eq_true rfl) rfl ?_
  intro p e s m args below meth c A Q E hA hw rt ls hl
  have hx := E.1
  have hb := E.2.1
  refine lv_aload_n hx hb dX5_seatRest_0 rfl (lv_at hl 0 rfl) ?_
  refine lv_iload_n hx hb dX5_seatRest_1 rfl (lv_at hl 1 rfl) ?_
  refine x_topi (y := nI kk) (hv_x) ?_
  refine x_put (ws' := (tW G a wo mi bi la (nI kk) ki se wd hu bt) ++ (aW G g 6 sgf)) (ty := .int) E hw fw_X5_63 0 rfl rfl rfl (by decide +kernel) rfl rfl (Nat.le_of_ble_eq_true rfl) dX5_seatRest_2 rfl (fun H locs hw => ?_)
  refine lv_aload_n hx hb dX5_seatRest_5 rfl (lv_at hl 0 rfl) ?_
  refine x_callV (is := [0, 1, 2, 3, 4, 5]) (q0 := 0) (As := []) (rest := []) (st1 := [.int (bitr wo la kk ki se wd hu bt)]) (ws' := (tW G a wo mi bi la (nI kk) ki se wd hu bt) ++ (aW G g 6 sgf)) E (c_X3_biters l G a wo mi bi la kk ki se wd hu bt (by omega)) vw_X5_150 hw [0, 1, 2, 3, 4, 5] rfl rfl rfl rfl rfl rfl rfl hl.1 rfl rfl (Nat.le_of_ble_eq_true rfl) ⟨Nat.le_of_ble_eq_true rfl, Nat.le_of_ble_eq_true rfl⟩ (Nat.zero_le _) (Nat.zero_le _) dX5_seatRest_6 rfl rfl (fun H locs hw => ?_)
  refine x_callS (is := []) (As := [.int (bitr wo la kk ki se wd hu bt)]) (rest := []) (st1 := [.int (bcI (bitr wo la kk ki se wd hu bt))]) (ws' := (tW G a wo mi bi la (nI kk) ki se wd hu bt) ++ (aW G g 6 sgf)) E (c_bitCount l G (bitr wo la kk ki se wd hu bt)) sw_X5_200 hw [] rfl rfl rfl rfl hl.1 rfl rfl (Nat.le_of_ble_eq_true rfl) ⟨Nat.le_of_ble_eq_true rfl, Nat.le_of_ble_eq_true rfl⟩ (Nat.zero_le _) (Nat.zero_le _) dX5_seatRest_9 rfl rfl (fun H locs hw => ?_)
  refine lv_istore (lv' := [(5, .int (bcI (bitr wo la kk ki se wd hu bt))), (0, .ref (a 0)), (1, .int x), (2, .int y), (3, .int few), (4, .ref g)]) hx hb dX5_seatRest_12 hl (by decide) rfl (fun ls hl => ?_)
  refine lv_iload hx hb dX5_seatRest_14 (lv_at hl 0 rfl) ?_
  refine lv_iload_n hx hb dX5_seatRest_16 rfl (lv_at hl 4 rfl) ?_
  refine lv_icmp_lt (tgt := 22) hx hb dX5_seatRest_17 rfl (fun cq17 => ?_) (fun cq17 => ?_)
  · skip
    refine lv_iload_n hx hb dX5_seatRest_22 rfl (lv_at hl 2 rfl) ?_
    refine lv_iload_n hx hb dX5_seatRest_23 rfl (lv_at hl 3 rfl) ?_
    refine lv_icmp_ge (tgt := 33) hx hb dX5_seatRest_24 rfl (fun cq24 => ?_) (fun cq24 => ?_)
    · skip
      have cq24 : all ≤ kk := (cv_le (a := all) (b := kk) hv_y hv_x (by omega) (by omega)).mp cq24
      refine lv_aload_n hx hb dX5_seatRest_33 rfl (lv_at hl 1 rfl) ?_
      refine x_get E hw fw_X5_126 0 rfl rfl dX5_seatRest_34 ?_
      refine lv_iconst (v := 0) hx hb dX5_seatRest_37 rfl ?_
      refine lv_aload hx hb dX5_seatRest_38 (lv_at hl 5 rfl) ?_
      refine lv_iconst (v := 0) hx hb dX5_seatRest_40 rfl ?_
      refine lv_bipush (v := 6) hx hb dX5_seatRest_41 rfl ?_
      refine x_copyi (ws' := (tW G a wo mi bi la (nI kk) ki se wd hu bt) ++ (aW G g 6 se)) E hw lw_X5_230 kw_acopy hl.1 2 6 rfl rfl rfl rfl rfl (by omega) (Nat.le_of_ble_eq_true rfl) (Nat.le_of_ble_eq_true rfl) dX5_seatRest_43 rfl (fun H locs hw => ?_)
      refine lv_iload hx hb dX5_seatRest_46 (lv_at hl 0 rfl) ?_
      exact x_iret E hA rt hw dX5_seatRest_48 ((congrArg (fun T : Ss => T.1) (show Z = (bcI (bitr wo la kk ki se wd hu bt), nI kk, se, se) from by rw [← hZ, srC, if_neg (Int32.not_le.mpr cq17), if_pos (Or.inl cq24)])).symm) ((congrArg (fun T : Ss => tW G a wo mi bi la T.2.1 ki T.2.2.1 wd hu bt ++ aW G g 6 T.2.2.2) (show Z = (bcI (bitr wo la kk ki se wd hu bt), nI kk, se, se) from by rw [← hZ, srC, if_neg (Int32.not_le.mpr cq17), if_pos (Or.inl cq24)])).symm)
    · skip
      have cq24 : ¬ all ≤ kk := fun h => cq24 ((cv_le (a := all) (b := kk) hv_y hv_x (by omega) (by omega)).mpr h)
      refine lv_iload_n hx hb dX5_seatRest_27 rfl (lv_at hl 2 rfl) ?_
      refine lv_bipush (v := 6) hx hb dX5_seatRest_28 rfl ?_
      refine lv_icmp_lt (tgt := 49) hx hb dX5_seatRest_30 rfl (fun cq30 => ?_) (fun cq30 => ?_)
      · skip
        have cq30 : kk < 6 := (cv_lt (a := kk) (b := 6) hv_x rfl (by omega) (by omega)).mp cq30
        refine lv_iload_n hx hb dX5_seatRest_49 rfl (lv_at hl 4 rfl) ?_
        refine lv_istore (lv' := [(6, .int few), (5, .int (bcI (bitr wo la kk ki se wd hu bt))), (0, .ref (a 0)), (1, .int x), (2, .int y), (3, .int few), (4, .ref g)]) hx hb dX5_seatRest_50 hl (by decide) rfl (fun ls hl => ?_)
        refine lv_iconst (v := 0) hx hb dX5_seatRest_52 rfl ?_
        refine lv_istore (lv' := [(7, .int 0), (6, .int few), (5, .int (bcI (bitr wo la kk ki se wd hu bt))), (0, .ref (a 0)), (1, .int x), (2, .int y), (3, .int few), (4, .ref g)]) hx hb dX5_seatRest_53 hl (by decide) rfl (fun ls hl => ?_)
        have lp55 : ∀ (fuel : Nat), ∀ (q : Nat) (Y : Ss) (hq : q ≤ 8) (hY : fold8 (fun q x => if fi x.2.2.1 (nI q) kk 0 = -1 then srC wo la all ki wd hu bt 2 (kk + 1) x.1 (upd x.2.2.1 kk (nI q)) x.2.2.2 else (x.1, nI kk, x.2.2.1, x.2.2.2)) q (few, nI kk, se, sgf) = Y), (8 - q) < fuel → ∀ (H : Heap) (locs : List Loc) (ls : Array Slot), Wd G A s H locs ((tW G a wo mi bi la Y.2.1 ki Y.2.2.1 wd hu bt) ++ (aW G g 6 Y.2.2.2)) → lv_has ls 8 [(0, .ref (a 0)), (1, .int x), (2, .int y), (3, .int few), (4, .ref g), (5, .int (bcI (bitr wo la kk ki se wd hu bt))), (6, .int Y.1), (7, .int (nI q))] → W p l e (rmx 6 141) s m args below meth c H locs 0 0 Q (F0 m 55 ls []) := by
          intro fuel
          induction fuel with
          | zero => intro q Y hq hY hfu; exact absurd hfu (Nat.not_lt_zero _)
          | succ fuel ih55 =>
            intro q Y hq hY hfu H locs ls hw hl
            refine lv_iload hx hb dX5_seatRest_55 (lv_at hl 7 rfl) ?_
            refine lv_bipush (v := 8) hx hb dX5_seatRest_57 rfl ?_
            refine lv_icmp_ge (tgt := 105) hx hb dX5_seatRest_59 rfl (fun cq59 => ?_) (fun cq59 => ?_)
            · skip
              have cq59 : 8 ≤ q := (cv_le (a := 8) (b := q) rfl rfl (by omega) (by omega)).mp cq59
              refine lv_iload hx hb dX5_seatRest_105 (lv_at hl 6 rfl) ?_
              exact x_iret E hA rt hw dX5_seatRest_107 ((congrArg (fun T : Ss => T.1) (show Z = Y from by rw [← hZ, srC, if_neg (Int32.not_le.mpr cq17), if_neg (fun h9 => h9.elim (fun h8 => cq24 h8) (fun h8 => by omega)), ← hY, show q = 8 by omega])).symm) ((congrArg (fun T : Ss => tW G a wo mi bi la T.2.1 ki T.2.2.1 wd hu bt ++ aW G g 6 T.2.2.2) (show Z = Y from by rw [← hZ, srC, if_neg (Int32.not_le.mpr cq17), if_neg (fun h9 => h9.elim (fun h8 => cq24 h8) (fun h8 => by omega)), ← hY, show q = 8 by omega])).symm)
            · skip
              have cq59 : ¬ 8 ≤ q := fun h => cq59 ((cv_le (a := 8) (b := q) rfl rfl (by omega) (by omega)).mpr h)
              refine lv_aload_n hx hb dX5_seatRest_62 rfl (lv_at hl 0 rfl) ?_
              refine lv_iload_n hx hb dX5_seatRest_63 rfl (lv_at hl 1 rfl) ?_
              refine x_topi (y := nI kk) (hv_x) ?_
              refine x_put (ws' := (tW G a wo mi bi la (nI kk) ki Y.2.2.1 wd hu bt) ++ (aW G g 6 Y.2.2.2)) (ty := .int) E hw fw_X5_63 0 rfl rfl rfl (by decide +kernel) rfl rfl (Nat.le_of_ble_eq_true rfl) dX5_seatRest_64 rfl (fun H locs hw => ?_)
              refine lv_aload_n hx hb dX5_seatRest_67 rfl (lv_at hl 0 rfl) ?_
              refine lv_iload hx hb dX5_seatRest_68 (lv_at hl 7 rfl) ?_
              refine x_callV (is := [0, 1, 2, 3, 4, 5]) (q0 := 0) (As := [.int (nI q)]) (rest := []) (st1 := [.int (fi Y.2.2.1 (nI q) kk 0)]) (ws' := (tW G a wo mi bi la (nI kk) ki Y.2.2.1 wd hu bt) ++ (aW G g 6 Y.2.2.2)) E (c_X3_childAt l G a (nI q) wo mi bi la kk ki Y.2.2.1 wd hu bt (by omega)) vw_X5_79 hw [0, 1, 2, 3, 4, 5] rfl rfl rfl rfl rfl rfl rfl hl.1 rfl rfl (Nat.le_of_ble_eq_true rfl) ⟨Nat.le_of_ble_eq_true rfl, Nat.le_of_ble_eq_true rfl⟩ (Nat.zero_le _) (Nat.zero_le _) dX5_seatRest_70 rfl rfl (fun H locs hw => ?_)
              refine lv_iconst (v := -1) hx hb dX5_seatRest_73 rfl ?_
              refine lv_icmp_ne (tgt := 99) hx hb dX5_seatRest_74 rfl (fun cq74 => ?_) (fun cq74 => ?_)
              · skip
                refine lv_iinc (v := nI (q + 1)) (lv' := [(7, .int (nI (q + 1))), (0, .ref (a 0)), (1, .int x), (2, .int y), (3, .int few), (4, .ref g), (5, .int (bcI (bitr wo la kk ki se wd hu bt))), (6, .int Y.1)]) hx hb dX5_seatRest_99 hl (k := 7) rfl (nI_add _ 1) (by decide) rfl (fun ls hl => ?_)
                refine lv_goto (tgt := 55) hx hb dX5_seatRest_102 rfl ?_
                exact ih55 (q + 1) (Y.1, nI kk, Y.2.2.1, Y.2.2.2) (by omega) (by rw [fold8, hY]; exact if_neg cq74) (by omega) _ _ _ hw (lv_sub hl [1, 2, 3, 4, 5, 6, 7, 0] rfl)
              · skip
                refine lv_aload_n hx hb dX5_seatRest_77 rfl (lv_at hl 0 rfl) ?_
                refine x_get E hw fw_X5_126 0 rfl rfl dX5_seatRest_78 ?_
                refine lv_iload_n hx hb dX5_seatRest_81 rfl (lv_at hl 1 rfl) ?_
                refine lv_iload hx hb dX5_seatRest_82 (lv_at hl 7 rfl) ?_
                refine x_iast (ws' := (tW G a wo mi bi la (nI kk) ki (upd Y.2.2.1 kk (nI q)) wd hu bt) ++ (aW G g 6 Y.2.2.2)) E hw 2 rfl kk (hv_x) (by omega) (by omega) dX5_seatRest_84 rfl (fun H locs hw => ?_)
                obtain ⟨Z1, hZ1⟩ : ∃ T, srC wo la all ki wd hu bt 2 (kk + 1) Y.1 (upd Y.2.2.1 kk (nI q)) Y.2.2.2 = T := ⟨_, rfl⟩
                refine lv_aload_n hx hb dX5_seatRest_85 rfl (lv_at hl 0 rfl) ?_
                refine lv_iload_n hx hb dX5_seatRest_86 rfl (lv_at hl 1 rfl) ?_
                refine lv_iconst (v := 1) hx hb dX5_seatRest_87 rfl ?_
                refine lv_iadd hx hb dX5_seatRest_88 ?_
                refine lv_iload_n hx hb dX5_seatRest_89 rfl (lv_at hl 2 rfl) ?_
                refine lv_iload hx hb dX5_seatRest_90 (lv_at hl 6 rfl) ?_
                refine lv_aload hx hb dX5_seatRest_92 (lv_at hl 4 rfl) ?_
                refine x_callS (is := [0, 1, 2, 3, 4, 5, 6]) (As := [.ref (a 0), .int (x + 1), .int y, .int Y.1, .ref g]) (rest := []) (st1 := [.int Z1.1]) (ws' := (tW G a wo mi bi la Z1.2.1 ki Z1.2.2.1 wd hu bt) ++ (aW G g 6 Z1.2.2.2)) E (c_X5_seatRest_1 l G a g (x + 1) (kk + 1) ((ix_add (a := kk) (b := 1) hv_x rfl)) y all (hv_y) Y.1 wo mi bi la (nI kk) ki (upd Y.2.2.1 kk (nI q)) wd hu bt Y.2.2.2 Z1 (by omega) (by omega) (by omega) (hZ1)) sw_X5_169 hw [0, 1, 2, 3, 4, 5, 6] rfl rfl rfl rfl hl.1 rfl rfl (Nat.le_of_ble_eq_true rfl) ⟨Nat.le_of_ble_eq_true rfl, Nat.le_of_ble_eq_true rfl⟩ (Nat.zero_le _) (Nat.zero_le _) dX5_seatRest_94 rfl rfl (fun H locs hw => ?_)
                refine lv_istore (lv' := [(6, .int Z1.1), (0, .ref (a 0)), (1, .int x), (2, .int y), (3, .int few), (4, .ref g), (5, .int (bcI (bitr wo la kk ki se wd hu bt))), (7, .int (nI q))]) hx hb dX5_seatRest_97 hl (by decide) rfl (fun ls hl => ?_)
                refine lv_iinc (v := nI (q + 1)) (lv' := [(7, .int (nI (q + 1))), (6, .int Z1.1), (0, .ref (a 0)), (1, .int x), (2, .int y), (3, .int few), (4, .ref g), (5, .int (bcI (bitr wo la kk ki se wd hu bt)))]) hx hb dX5_seatRest_99 hl (k := 7) rfl (nI_add _ 1) (by decide) rfl (fun ls hl => ?_)
                refine lv_goto (tgt := 55) hx hb dX5_seatRest_102 rfl ?_
                exact ih55 (q + 1) Z1 (by omega) (by rw [fold8, hY]; exact (if_pos cq74).trans hZ1) (by omega) _ _ _ hw (lv_sub hl [2, 3, 4, 5, 6, 7, 1, 0] rfl)
        exact lp55 (8 - 0 + 1) 0 (few, nI kk, se, sgf) (by omega) (rfl) (by omega) _ _ _ hw (lv_sub hl [3, 4, 5, 6, 7, 2, 1, 0] rfl)
      · skip
        have cq30 : ¬ kk < 6 := fun h => cq30 ((cv_lt (a := kk) (b := 6) hv_x rfl (by omega) (by omega)).mpr h)
        refine lv_aload_n hx hb dX5_seatRest_33 rfl (lv_at hl 1 rfl) ?_
        refine x_get E hw fw_X5_126 0 rfl rfl dX5_seatRest_34 ?_
        refine lv_iconst (v := 0) hx hb dX5_seatRest_37 rfl ?_
        refine lv_aload hx hb dX5_seatRest_38 (lv_at hl 5 rfl) ?_
        refine lv_iconst (v := 0) hx hb dX5_seatRest_40 rfl ?_
        refine lv_bipush (v := 6) hx hb dX5_seatRest_41 rfl ?_
        refine x_copyi (ws' := (tW G a wo mi bi la (nI kk) ki se wd hu bt) ++ (aW G g 6 se)) E hw lw_X5_230 kw_acopy hl.1 2 6 rfl rfl rfl rfl rfl (by omega) (Nat.le_of_ble_eq_true rfl) (Nat.le_of_ble_eq_true rfl) dX5_seatRest_43 rfl (fun H locs hw => ?_)
        refine lv_iload hx hb dX5_seatRest_46 (lv_at hl 0 rfl) ?_
        exact x_iret E hA rt hw dX5_seatRest_48 ((congrArg (fun T : Ss => T.1) (show Z = (bcI (bitr wo la kk ki se wd hu bt), nI kk, se, se) from by rw [← hZ, srC, if_neg (Int32.not_le.mpr cq17), if_pos (Or.inr (by omega))])).symm) ((congrArg (fun T : Ss => tW G a wo mi bi la T.2.1 ki T.2.2.1 wd hu bt ++ aW G g 6 T.2.2.2) (show Z = (bcI (bitr wo la kk ki se wd hu bt), nI kk, se, se) from by rw [← hZ, srC, if_neg (Int32.not_le.mpr cq17), if_pos (Or.inr (by omega))])).symm)
  · skip
    refine lv_iload_n hx hb dX5_seatRest_20 rfl (lv_at hl 4 rfl) ?_
    exact x_iret E hA rt hw dX5_seatRest_21 ((congrArg (fun T : Ss => T.1) (show Z = (few, nI kk, se, sgf) from by rw [← hZ, srC, if_pos (Int32.not_lt.mp cq17)])).symm) ((congrArg (fun T : Ss => tW G a wo mi bi la T.2.1 ki T.2.2.1 wd hu bt ++ aW G g 6 T.2.2.2) (show Z = (few, nI kk, se, sgf) from by rw [← hZ, srC, if_pos (Int32.not_lt.mp cq17)])).symm)
set_option maxHeartbeats 1000000 in
set_option maxRecDepth 100000 in
theorem c_X5_seatRest_3 (l : Launch) (G : GG) (a : Nat → Nat) (g : Nat) (x : Int32) (kk : Nat) (hv_x : x = nI kk) (y : Int32) (all : Nat) (hv_y : y = nI all) (few : Int32) (wo : Int32) (mi : Int32) (bi : Int32) (la : Int32) (ch : Int32) (ki : Nat → Int32) (se : Nat → Int32) (wd : Nat → Int32) (hu : Nat → Int32) (bt : Nat → Int32) (sgf : Nat → Int32) (Z : Ss) (hk : kk ≤ 6) (hd : 6 ≤ kk + 3) (hall : all ≤ 6) (hZ : srC wo la all ki wd hu bt 4 kk few se sgf = Z) : CT l G yX5_seatRest cX5_seatRest 8 (some .int) 7 168 [.ref (a 0), .int x, .int y, .int few, .ref g] ((tW G a wo mi bi la ch ki se wd hu bt) ++ (aW G g 6 sgf)) (some (.int Z.1)) ((tW G a wo mi bi la Z.2.1 ki Z.2.2.1 wd hu bt) ++ (aW G g 6 Z.2.2.2)) := by
  refine CT.mk (own := RX5) (la := [(0, .ref (a 0)), (1, .int x), (2, .int y), (3, .int few), (4, .ref g)]) (by decide) rfl (Nat.le_of_ble_eq_true rfl) rfl ?_
  intro p e s m args below meth c A Q E hA hw rt ls hl
  have hx := E.1
  have hb := E.2.1
  refine lv_aload_n hx hb dX5_seatRest_0 rfl (lv_at hl 0 rfl) ?_
  refine lv_iload_n hx hb dX5_seatRest_1 rfl (lv_at hl 1 rfl) ?_
  refine x_topi (y := nI kk) (hv_x) ?_
  refine x_put (ws' := (tW G a wo mi bi la (nI kk) ki se wd hu bt) ++ (aW G g 6 sgf)) (ty := .int) E hw fw_X5_63 0 rfl rfl rfl (by decide +kernel) rfl rfl (Nat.le_of_ble_eq_true rfl) dX5_seatRest_2 rfl (fun H locs hw => ?_)
  refine lv_aload_n hx hb dX5_seatRest_5 rfl (lv_at hl 0 rfl) ?_
  refine x_callV (is := [0, 1, 2, 3, 4, 5]) (q0 := 0) (As := []) (rest := []) (st1 := [.int (bitr wo la kk ki se wd hu bt)]) (ws' := (tW G a wo mi bi la (nI kk) ki se wd hu bt) ++ (aW G g 6 sgf)) E (c_X3_biters l G a wo mi bi la kk ki se wd hu bt (by omega)) vw_X5_150 hw [0, 1, 2, 3, 4, 5] rfl rfl rfl rfl rfl rfl rfl hl.1 rfl rfl (Nat.le_of_ble_eq_true rfl) ⟨Nat.le_of_ble_eq_true rfl, Nat.le_of_ble_eq_true rfl⟩ (Nat.zero_le _) (Nat.zero_le _) dX5_seatRest_6 rfl rfl (fun H locs hw => ?_)
  refine x_callS (is := []) (As := [.int (bitr wo la kk ki se wd hu bt)]) (rest := []) (st1 := [.int (bcI (bitr wo la kk ki se wd hu bt))]) (ws' := (tW G a wo mi bi la (nI kk) ki se wd hu bt) ++ (aW G g 6 sgf)) E (c_bitCount l G (bitr wo la kk ki se wd hu bt)) sw_X5_200 hw [] rfl rfl rfl rfl hl.1 rfl rfl (Nat.le_of_ble_eq_true rfl) ⟨Nat.le_of_ble_eq_true rfl, Nat.le_of_ble_eq_true rfl⟩ (Nat.zero_le _) (Nat.zero_le _) dX5_seatRest_9 rfl rfl (fun H locs hw => ?_)
  refine lv_istore (lv' := [(5, .int (bcI (bitr wo la kk ki se wd hu bt))), (0, .ref (a 0)), (1, .int x), (2, .int y), (3, .int few), (4, .ref g)]) hx hb dX5_seatRest_12 hl (by decide) rfl (fun ls hl => ?_)
  refine lv_iload hx hb dX5_seatRest_14 (lv_at hl 0 rfl) ?_
  refine lv_iload_n hx hb dX5_seatRest_16 rfl (lv_at hl 4 rfl) ?_
  refine lv_icmp_lt (tgt := 22) hx hb dX5_seatRest_17 rfl (fun cq17 => ?_) (fun cq17 => ?_)
  · skip
    refine lv_iload_n hx hb dX5_seatRest_22 rfl (lv_at hl 2 rfl) ?_
    refine lv_iload_n hx hb dX5_seatRest_23 rfl (lv_at hl 3 rfl) ?_
    refine lv_icmp_ge (tgt := 33) hx hb dX5_seatRest_24 rfl (fun cq24 => ?_) (fun cq24 => ?_)
    · skip
      have cq24 : all ≤ kk := (cv_le (a := all) (b := kk) hv_y hv_x (by omega) (by omega)).mp cq24
      refine lv_aload_n hx hb dX5_seatRest_33 rfl (lv_at hl 1 rfl) ?_
      refine x_get E hw fw_X5_126 0 rfl rfl dX5_seatRest_34 ?_
      refine lv_iconst (v := 0) hx hb dX5_seatRest_37 rfl ?_
      refine lv_aload hx hb dX5_seatRest_38 (lv_at hl 5 rfl) ?_
      refine lv_iconst (v := 0) hx hb dX5_seatRest_40 rfl ?_
      refine lv_bipush (v := 6) hx hb dX5_seatRest_41 rfl ?_
      refine x_copyi (ws' := (tW G a wo mi bi la (nI kk) ki se wd hu bt) ++ (aW G g 6 se)) E hw lw_X5_230 kw_acopy hl.1 2 6 rfl rfl rfl rfl rfl (by omega) (Nat.le_of_ble_eq_true rfl) (Nat.le_of_ble_eq_true rfl) dX5_seatRest_43 rfl (fun H locs hw => ?_)
      refine lv_iload hx hb dX5_seatRest_46 (lv_at hl 0 rfl) ?_
      exact x_iret E hA rt hw dX5_seatRest_48 ((congrArg (fun T : Ss => T.1) (show Z = (bcI (bitr wo la kk ki se wd hu bt), nI kk, se, se) from by rw [← hZ, srC, if_neg (Int32.not_le.mpr cq17), if_pos (Or.inl cq24)])).symm) ((congrArg (fun T : Ss => tW G a wo mi bi la T.2.1 ki T.2.2.1 wd hu bt ++ aW G g 6 T.2.2.2) (show Z = (bcI (bitr wo la kk ki se wd hu bt), nI kk, se, se) from by rw [← hZ, srC, if_neg (Int32.not_le.mpr cq17), if_pos (Or.inl cq24)])).symm)
    · skip
      have cq24 : ¬ all ≤ kk := fun h => cq24 ((cv_le (a := all) (b := kk) hv_y hv_x (by omega) (by omega)).mpr h)
      refine lv_iload_n hx hb dX5_seatRest_27 rfl (lv_at hl 2 rfl) ?_
      refine lv_bipush (v := 6) hx hb dX5_seatRest_28 rfl ?_
      refine lv_icmp_lt (tgt := 49) hx hb dX5_seatRest_30 rfl (fun cq30 => ?_) (fun cq30 => ?_)
      · skip
        have cq30 : kk < 6 := (cv_lt (a := kk) (b := 6) hv_x rfl (by omega) (by omega)).mp cq30
        refine lv_iload_n hx hb dX5_seatRest_49 rfl (lv_at hl 4 rfl) ?_
        refine lv_istore (lv' := [(6, .int few), (5, .int (bcI (bitr wo la kk ki se wd hu bt))), (0, .ref (a 0)), (1, .int x), (2, .int y), (3, .int few), (4, .ref g)]) hx hb dX5_seatRest_50 hl (by decide) rfl (fun ls hl => ?_)
        refine lv_iconst (v := 0) hx hb dX5_seatRest_52 rfl ?_
        refine lv_istore (lv' := [(7, .int 0), (6, .int few), (5, .int (bcI (bitr wo la kk ki se wd hu bt))), (0, .ref (a 0)), (1, .int x), (2, .int y), (3, .int few), (4, .ref g)]) hx hb dX5_seatRest_53 hl (by decide) rfl (fun ls hl => ?_)
        have lp55 : ∀ (fuel : Nat), ∀ (q : Nat) (Y : Ss) (hq : q ≤ 8) (hY : fold8 (fun q x => if fi x.2.2.1 (nI q) kk 0 = -1 then srC wo la all ki wd hu bt 3 (kk + 1) x.1 (upd x.2.2.1 kk (nI q)) x.2.2.2 else (x.1, nI kk, x.2.2.1, x.2.2.2)) q (few, nI kk, se, sgf) = Y), (8 - q) < fuel → ∀ (H : Heap) (locs : List Loc) (ls : Array Slot), Wd G A s H locs ((tW G a wo mi bi la Y.2.1 ki Y.2.2.1 wd hu bt) ++ (aW G g 6 Y.2.2.2)) → lv_has ls 8 [(0, .ref (a 0)), (1, .int x), (2, .int y), (3, .int few), (4, .ref g), (5, .int (bcI (bitr wo la kk ki se wd hu bt))), (6, .int Y.1), (7, .int (nI q))] → W p l e (rmx 7 168) s m args below meth c H locs 0 0 Q (F0 m 55 ls []) := by
          intro fuel
          induction fuel with
          | zero => intro q Y hq hY hfu; exact absurd hfu (Nat.not_lt_zero _)
          | succ fuel ih55 =>
            intro q Y hq hY hfu H locs ls hw hl
            refine lv_iload hx hb dX5_seatRest_55 (lv_at hl 7 rfl) ?_
            refine lv_bipush (v := 8) hx hb dX5_seatRest_57 rfl ?_
            refine lv_icmp_ge (tgt := 105) hx hb dX5_seatRest_59 rfl (fun cq59 => ?_) (fun cq59 => ?_)
            · skip
              have cq59 : 8 ≤ q := (cv_le (a := 8) (b := q) rfl rfl (by omega) (by omega)).mp cq59
              refine lv_iload hx hb dX5_seatRest_105 (lv_at hl 6 rfl) ?_
              exact x_iret E hA rt hw dX5_seatRest_107 ((congrArg (fun T : Ss => T.1) (show Z = Y from by rw [← hZ, srC, if_neg (Int32.not_le.mpr cq17), if_neg (fun h9 => h9.elim (fun h8 => cq24 h8) (fun h8 => by omega)), ← hY, show q = 8 by omega])).symm) ((congrArg (fun T : Ss => tW G a wo mi bi la T.2.1 ki T.2.2.1 wd hu bt ++ aW G g 6 T.2.2.2) (show Z = Y from by rw [← hZ, srC, if_neg (Int32.not_le.mpr cq17), if_neg (fun h9 => h9.elim (fun h8 => cq24 h8) (fun h8 => by omega)), ← hY, show q = 8 by omega])).symm)
            · skip
              have cq59 : ¬ 8 ≤ q := fun h => cq59 ((cv_le (a := 8) (b := q) rfl rfl (by omega) (by omega)).mpr h)
              refine lv_aload_n hx hb dX5_seatRest_62 rfl (lv_at hl 0 rfl) ?_
              refine lv_iload_n hx hb dX5_seatRest_63 rfl (lv_at hl 1 rfl) ?_
              refine x_topi (y := nI kk) (hv_x) ?_
              refine x_put (ws' := (tW G a wo mi bi la (nI kk) ki Y.2.2.1 wd hu bt) ++ (aW G g 6 Y.2.2.2)) (ty := .int) E hw fw_X5_63 0 rfl rfl rfl (by decide +kernel) rfl rfl (Nat.le_of_ble_eq_true rfl) dX5_seatRest_64 rfl (fun H locs hw => ?_)
              refine lv_aload_n hx hb dX5_seatRest_67 rfl (lv_at hl 0 rfl) ?_
              refine lv_iload hx hb dX5_seatRest_68 (lv_at hl 7 rfl) ?_
              refine x_callV (is := [0, 1, 2, 3, 4, 5]) (q0 := 0) (As := [.int (nI q)]) (rest := []) (st1 := [.int (fi Y.2.2.1 (nI q) kk 0)]) (ws' := (tW G a wo mi bi la (nI kk) ki Y.2.2.1 wd hu bt) ++ (aW G g 6 Y.2.2.2)) E (c_X3_childAt l G a (nI q) wo mi bi la kk ki Y.2.2.1 wd hu bt (by omega)) vw_X5_79 hw [0, 1, 2, 3, 4, 5] rfl rfl rfl rfl rfl rfl rfl hl.1 rfl rfl (Nat.le_of_ble_eq_true rfl) ⟨Nat.le_of_ble_eq_true rfl, Nat.le_of_ble_eq_true rfl⟩ (Nat.zero_le _) (Nat.zero_le _) dX5_seatRest_70 rfl rfl (fun H locs hw => ?_)
              refine lv_iconst (v := -1) hx hb dX5_seatRest_73 rfl ?_
              refine lv_icmp_ne (tgt := 99) hx hb dX5_seatRest_74 rfl (fun cq74 => ?_) (fun cq74 => ?_)
              · skip
                refine lv_iinc (v := nI (q + 1)) (lv' := [(7, .int (nI (q + 1))), (0, .ref (a 0)), (1, .int x), (2, .int y), (3, .int few), (4, .ref g), (5, .int (bcI (bitr wo la kk ki se wd hu bt))), (6, .int Y.1)]) hx hb dX5_seatRest_99 hl (k := 7) rfl (nI_add _ 1) (by decide) rfl (fun ls hl => ?_)
                refine lv_goto (tgt := 55) hx hb dX5_seatRest_102 rfl ?_
                exact ih55 (q + 1) (Y.1, nI kk, Y.2.2.1, Y.2.2.2) (by omega) (by rw [fold8, hY]; exact if_neg cq74) (by omega) _ _ _ hw (lv_sub hl [1, 2, 3, 4, 5, 6, 7, 0] rfl)
              · skip
                refine lv_aload_n hx hb dX5_seatRest_77 rfl (lv_at hl 0 rfl) ?_
                refine x_get E hw fw_X5_126 0 rfl rfl dX5_seatRest_78 ?_
                refine lv_iload_n hx hb dX5_seatRest_81 rfl (lv_at hl 1 rfl) ?_
                refine lv_iload hx hb dX5_seatRest_82 (lv_at hl 7 rfl) ?_
                refine x_iast (ws' := (tW G a wo mi bi la (nI kk) ki (upd Y.2.2.1 kk (nI q)) wd hu bt) ++ (aW G g 6 Y.2.2.2)) E hw 2 rfl kk (hv_x) (by omega) (by omega) dX5_seatRest_84 rfl (fun H locs hw => ?_)
                obtain ⟨Z1, hZ1⟩ : ∃ T, srC wo la all ki wd hu bt 3 (kk + 1) Y.1 (upd Y.2.2.1 kk (nI q)) Y.2.2.2 = T := ⟨_, rfl⟩
                refine lv_aload_n hx hb dX5_seatRest_85 rfl (lv_at hl 0 rfl) ?_
                refine lv_iload_n hx hb dX5_seatRest_86 rfl (lv_at hl 1 rfl) ?_
                refine lv_iconst (v := 1) hx hb dX5_seatRest_87 rfl ?_
                refine lv_iadd hx hb dX5_seatRest_88 ?_
                refine lv_iload_n hx hb dX5_seatRest_89 rfl (lv_at hl 2 rfl) ?_
                refine lv_iload hx hb dX5_seatRest_90 (lv_at hl 6 rfl) ?_
                refine lv_aload hx hb dX5_seatRest_92 (lv_at hl 4 rfl) ?_
                refine x_callS (is := [0, 1, 2, 3, 4, 5, 6]) (As := [.ref (a 0), .int (x + 1), .int y, .int Y.1, .ref g]) (rest := []) (st1 := [.int Z1.1]) (ws' := (tW G a wo mi bi la Z1.2.1 ki Z1.2.2.1 wd hu bt) ++ (aW G g 6 Z1.2.2.2)) E (c_X5_seatRest_2 l G a g (x + 1) (kk + 1) ((ix_add (a := kk) (b := 1) hv_x rfl)) y all (hv_y) Y.1 wo mi bi la (nI kk) ki (upd Y.2.2.1 kk (nI q)) wd hu bt Y.2.2.2 Z1 (by omega) (by omega) (by omega) (hZ1)) sw_X5_169 hw [0, 1, 2, 3, 4, 5, 6] rfl rfl rfl rfl hl.1 rfl rfl (Nat.le_of_ble_eq_true rfl) ⟨Nat.le_of_ble_eq_true rfl, Nat.le_of_ble_eq_true rfl⟩ (Nat.zero_le _) (Nat.zero_le _) dX5_seatRest_94 rfl rfl (fun H locs hw => ?_)
                refine lv_istore (lv' := [(6, .int Z1.1), (0, .ref (a 0)), (1, .int x), (2, .int y), (3, .int few), (4, .ref g), (5, .int (bcI (bitr wo la kk ki se wd hu bt))), (7, .int (nI q))]) hx hb dX5_seatRest_97 hl (by decide) rfl (fun ls hl => ?_)
                refine lv_iinc (v := nI (q + 1)) (lv' := [(7, .int (nI (q + 1))), (6, .int Z1.1), (0, .ref (a 0)), (1, .int x), (2, .int y), (3, .int few), (4, .ref g), (5, .int (bcI (bitr wo la kk ki se wd hu bt)))]) hx hb dX5_seatRest_99 hl (k := 7) rfl (nI_add _ 1) (by decide) rfl (fun ls hl => ?_)
                refine lv_goto (tgt := 55) hx hb dX5_seatRest_102 rfl ?_
                exact ih55 (q + 1) Z1 (by omega) (by rw [fold8, hY]; exact (if_pos cq74).trans hZ1) (by omega) _ _ _ hw (lv_sub hl [2, 3, 4, 5, 6, 7, 1, 0] rfl)
        exact lp55 (8 - 0 + 1) 0 (few, nI kk, se, sgf) (by omega) (rfl) (by omega) _ _ _ hw (lv_sub hl [3, 4, 5, 6, 7, 2, 1, 0] rfl)
      · skip
        have cq30 : ¬ kk < 6 := fun h => cq30 ((cv_lt (a := kk) (b := 6) hv_x rfl (by omega) (by omega)).mpr h)
        refine lv_aload_n hx hb dX5_seatRest_33 rfl (lv_at hl 1 rfl) ?_
        refine x_get E hw fw_X5_126 0 rfl rfl dX5_seatRest_34 ?_
        refine lv_iconst (v := 0) hx hb dX5_seatRest_37 rfl ?_
        refine lv_aload hx hb dX5_seatRest_38 (lv_at hl 5 rfl) ?_
        refine lv_iconst (v := 0) hx hb dX5_seatRest_40 rfl ?_
        refine lv_bipush (v := 6) hx hb dX5_seatRest_41 rfl ?_
        refine x_copyi (ws' := (tW G a wo mi bi la (nI kk) ki se wd hu bt) ++ (aW G g 6 se)) E hw lw_X5_230 kw_acopy hl.1 2 6 rfl rfl rfl rfl rfl (by omega) (Nat.le_of_ble_eq_true rfl) (Nat.le_of_ble_eq_true rfl) dX5_seatRest_43 rfl (fun H locs hw => ?_)
        refine lv_iload hx hb dX5_seatRest_46 (lv_at hl 0 rfl) ?_
        exact x_iret E hA rt hw dX5_seatRest_48 ((congrArg (fun T : Ss => T.1) (show Z = (bcI (bitr wo la kk ki se wd hu bt), nI kk, se, se) from by rw [← hZ, srC, if_neg (Int32.not_le.mpr cq17), if_pos (Or.inr (by omega))])).symm) ((congrArg (fun T : Ss => tW G a wo mi bi la T.2.1 ki T.2.2.1 wd hu bt ++ aW G g 6 T.2.2.2) (show Z = (bcI (bitr wo la kk ki se wd hu bt), nI kk, se, se) from by rw [← hZ, srC, if_neg (Int32.not_le.mpr cq17), if_pos (Or.inr (by omega))])).symm)
  · skip
    refine lv_iload_n hx hb dX5_seatRest_20 rfl (lv_at hl 4 rfl) ?_
    exact x_iret E hA rt hw dX5_seatRest_21 ((congrArg (fun T : Ss => T.1) (show Z = (few, nI kk, se, sgf) from by rw [← hZ, srC, if_pos (Int32.not_lt.mp cq17)])).symm) ((congrArg (fun T : Ss => tW G a wo mi bi la T.2.1 ki T.2.2.1 wd hu bt ++ aW G g 6 T.2.2.2) (show Z = (few, nI kk, se, sgf) from by rw [← hZ, srC, if_pos (Int32.not_lt.mp cq17)])).symm)
set_option maxHeartbeats 1000000 in
set_option maxRecDepth 100000 in
theorem c_X5_seatRest_4 (l : Launch) (G : GG) (a : Nat → Nat) (g : Nat) (x : Int32) (kk : Nat) (hv_x : x = nI kk) (y : Int32) (all : Nat) (hv_y : y = nI all) (few : Int32) (wo : Int32) (mi : Int32) (bi : Int32) (la : Int32) (ch : Int32) (ki : Nat → Int32) (se : Nat → Int32) (wd : Nat → Int32) (hu : Nat → Int32) (bt : Nat → Int32) (sgf : Nat → Int32) (Z : Ss) (hk : kk ≤ 6) (hd : 6 ≤ kk + 4) (hall : all ≤ 6) (hZ : srC wo la all ki wd hu bt 5 kk few se sgf = Z) : CT l G yX5_seatRest cX5_seatRest 8 (some .int) 8 195 [.ref (a 0), .int x, .int y, .int few, .ref g] ((tW G a wo mi bi la ch ki se wd hu bt) ++ (aW G g 6 sgf)) (some (.int Z.1)) ((tW G a wo mi bi la Z.2.1 ki Z.2.2.1 wd hu bt) ++ (aW G g 6 Z.2.2.2)) := by
  refine CT.mk (own := RX5) (la := [(0, .ref (a 0)), (1, .int x), (2, .int y), (3, .int few), (4, .ref g)]) (by decide) rfl (Nat.le_of_ble_eq_true rfl) rfl ?_
  intro p e s m args below meth c A Q E hA hw rt ls hl
  have hx := E.1
  have hb := E.2.1
  refine lv_aload_n hx hb dX5_seatRest_0 rfl (lv_at hl 0 rfl) ?_
  refine lv_iload_n hx hb dX5_seatRest_1 rfl (lv_at hl 1 rfl) ?_
  refine x_topi (y := nI kk) (hv_x) ?_
  refine x_put (ws' := (tW G a wo mi bi la (nI kk) ki se wd hu bt) ++ (aW G g 6 sgf)) (ty := .int) E hw fw_X5_63 0 rfl rfl rfl (by decide +kernel) rfl rfl (Nat.le_of_ble_eq_true rfl) dX5_seatRest_2 rfl (fun H locs hw => ?_)
  refine lv_aload_n hx hb dX5_seatRest_5 rfl (lv_at hl 0 rfl) ?_
  refine x_callV (is := [0, 1, 2, 3, 4, 5]) (q0 := 0) (As := []) (rest := []) (st1 := [.int (bitr wo la kk ki se wd hu bt)]) (ws' := (tW G a wo mi bi la (nI kk) ki se wd hu bt) ++ (aW G g 6 sgf)) E (c_X3_biters l G a wo mi bi la kk ki se wd hu bt (by omega)) vw_X5_150 hw [0, 1, 2, 3, 4, 5] rfl rfl rfl rfl rfl rfl rfl hl.1 rfl rfl (Nat.le_of_ble_eq_true rfl) ⟨Nat.le_of_ble_eq_true rfl, Nat.le_of_ble_eq_true rfl⟩ (Nat.zero_le _) (Nat.zero_le _) dX5_seatRest_6 rfl rfl (fun H locs hw => ?_)
  refine x_callS (is := []) (As := [.int (bitr wo la kk ki se wd hu bt)]) (rest := []) (st1 := [.int (bcI (bitr wo la kk ki se wd hu bt))]) (ws' := (tW G a wo mi bi la (nI kk) ki se wd hu bt) ++ (aW G g 6 sgf)) E (c_bitCount l G (bitr wo la kk ki se wd hu bt)) sw_X5_200 hw [] rfl rfl rfl rfl hl.1 rfl rfl (Nat.le_of_ble_eq_true rfl) ⟨Nat.le_of_ble_eq_true rfl, Nat.le_of_ble_eq_true rfl⟩ (Nat.zero_le _) (Nat.zero_le _) dX5_seatRest_9 rfl rfl (fun H locs hw => ?_)
  refine lv_istore (lv' := [(5, .int (bcI (bitr wo la kk ki se wd hu bt))), (0, .ref (a 0)), (1, .int x), (2, .int y), (3, .int few), (4, .ref g)]) hx hb dX5_seatRest_12 hl (by decide) rfl (fun ls hl => ?_)
  refine lv_iload hx hb dX5_seatRest_14 (lv_at hl 0 rfl) ?_
  refine lv_iload_n hx hb dX5_seatRest_16 rfl (lv_at hl 4 rfl) ?_
  refine lv_icmp_lt (tgt := 22) hx hb dX5_seatRest_17 rfl (fun cq17 => ?_) (fun cq17 => ?_)
  · skip
    refine lv_iload_n hx hb dX5_seatRest_22 rfl (lv_at hl 2 rfl) ?_
    refine lv_iload_n hx hb dX5_seatRest_23 rfl (lv_at hl 3 rfl) ?_
    refine lv_icmp_ge (tgt := 33) hx hb dX5_seatRest_24 rfl (fun cq24 => ?_) (fun cq24 => ?_)
    · skip
      have cq24 : all ≤ kk := (cv_le (a := all) (b := kk) hv_y hv_x (by omega) (by omega)).mp cq24
      refine lv_aload_n hx hb dX5_seatRest_33 rfl (lv_at hl 1 rfl) ?_
      refine x_get E hw fw_X5_126 0 rfl rfl dX5_seatRest_34 ?_
      refine lv_iconst (v := 0) hx hb dX5_seatRest_37 rfl ?_
      refine lv_aload hx hb dX5_seatRest_38 (lv_at hl 5 rfl) ?_
      refine lv_iconst (v := 0) hx hb dX5_seatRest_40 rfl ?_
      refine lv_bipush (v := 6) hx hb dX5_seatRest_41 rfl ?_
      refine x_copyi (ws' := (tW G a wo mi bi la (nI kk) ki se wd hu bt) ++ (aW G g 6 se)) E hw lw_X5_230 kw_acopy hl.1 2 6 rfl rfl rfl rfl rfl (by omega) (Nat.le_of_ble_eq_true rfl) (Nat.le_of_ble_eq_true rfl) dX5_seatRest_43 rfl (fun H locs hw => ?_)
      refine lv_iload hx hb dX5_seatRest_46 (lv_at hl 0 rfl) ?_
      exact x_iret E hA rt hw dX5_seatRest_48 ((congrArg (fun T : Ss => T.1) (show Z = (bcI (bitr wo la kk ki se wd hu bt), nI kk, se, se) from by rw [← hZ, srC, if_neg (Int32.not_le.mpr cq17), if_pos (Or.inl cq24)])).symm) ((congrArg (fun T : Ss => tW G a wo mi bi la T.2.1 ki T.2.2.1 wd hu bt ++ aW G g 6 T.2.2.2) (show Z = (bcI (bitr wo la kk ki se wd hu bt), nI kk, se, se) from by rw [← hZ, srC, if_neg (Int32.not_le.mpr cq17), if_pos (Or.inl cq24)])).symm)
    · skip
      have cq24 : ¬ all ≤ kk := fun h => cq24 ((cv_le (a := all) (b := kk) hv_y hv_x (by omega) (by omega)).mpr h)
      refine lv_iload_n hx hb dX5_seatRest_27 rfl (lv_at hl 2 rfl) ?_
      refine lv_bipush (v := 6) hx hb dX5_seatRest_28 rfl ?_
      refine lv_icmp_lt (tgt := 49) hx hb dX5_seatRest_30 rfl (fun cq30 => ?_) (fun cq30 => ?_)
      · skip
        have cq30 : kk < 6 := (cv_lt (a := kk) (b := 6) hv_x rfl (by omega) (by omega)).mp cq30
        refine lv_iload_n hx hb dX5_seatRest_49 rfl (lv_at hl 4 rfl) ?_
        refine lv_istore (lv' := [(6, .int few), (5, .int (bcI (bitr wo la kk ki se wd hu bt))), (0, .ref (a 0)), (1, .int x), (2, .int y), (3, .int few), (4, .ref g)]) hx hb dX5_seatRest_50 hl (by decide) rfl (fun ls hl => ?_)
        refine lv_iconst (v := 0) hx hb dX5_seatRest_52 rfl ?_
        refine lv_istore (lv' := [(7, .int 0), (6, .int few), (5, .int (bcI (bitr wo la kk ki se wd hu bt))), (0, .ref (a 0)), (1, .int x), (2, .int y), (3, .int few), (4, .ref g)]) hx hb dX5_seatRest_53 hl (by decide) rfl (fun ls hl => ?_)
        have lp55 : ∀ (fuel : Nat), ∀ (q : Nat) (Y : Ss) (hq : q ≤ 8) (hY : fold8 (fun q x => if fi x.2.2.1 (nI q) kk 0 = -1 then srC wo la all ki wd hu bt 4 (kk + 1) x.1 (upd x.2.2.1 kk (nI q)) x.2.2.2 else (x.1, nI kk, x.2.2.1, x.2.2.2)) q (few, nI kk, se, sgf) = Y), (8 - q) < fuel → ∀ (H : Heap) (locs : List Loc) (ls : Array Slot), Wd G A s H locs ((tW G a wo mi bi la Y.2.1 ki Y.2.2.1 wd hu bt) ++ (aW G g 6 Y.2.2.2)) → lv_has ls 8 [(0, .ref (a 0)), (1, .int x), (2, .int y), (3, .int few), (4, .ref g), (5, .int (bcI (bitr wo la kk ki se wd hu bt))), (6, .int Y.1), (7, .int (nI q))] → W p l e (rmx 8 195) s m args below meth c H locs 0 0 Q (F0 m 55 ls []) := by
          intro fuel
          induction fuel with
          | zero => intro q Y hq hY hfu; exact absurd hfu (Nat.not_lt_zero _)
          | succ fuel ih55 =>
            intro q Y hq hY hfu H locs ls hw hl
            refine lv_iload hx hb dX5_seatRest_55 (lv_at hl 7 rfl) ?_
            refine lv_bipush (v := 8) hx hb dX5_seatRest_57 rfl ?_
            refine lv_icmp_ge (tgt := 105) hx hb dX5_seatRest_59 rfl (fun cq59 => ?_) (fun cq59 => ?_)
            · skip
              have cq59 : 8 ≤ q := (cv_le (a := 8) (b := q) rfl rfl (by omega) (by omega)).mp cq59
              refine lv_iload hx hb dX5_seatRest_105 (lv_at hl 6 rfl) ?_
              exact x_iret E hA rt hw dX5_seatRest_107 ((congrArg (fun T : Ss => T.1) (show Z = Y from by rw [← hZ, srC, if_neg (Int32.not_le.mpr cq17), if_neg (fun h9 => h9.elim (fun h8 => cq24 h8) (fun h8 => by omega)), ← hY, show q = 8 by omega])).symm) ((congrArg (fun T : Ss => tW G a wo mi bi la T.2.1 ki T.2.2.1 wd hu bt ++ aW G g 6 T.2.2.2) (show Z = Y from by rw [← hZ, srC, if_neg (Int32.not_le.mpr cq17), if_neg (fun h9 => h9.elim (fun h8 => cq24 h8) (fun h8 => by omega)), ← hY, show q = 8 by omega])).symm)
            · skip
              have cq59 : ¬ 8 ≤ q := fun h => cq59 ((cv_le (a := 8) (b := q) rfl rfl (by omega) (by omega)).mpr h)
              refine lv_aload_n hx hb dX5_seatRest_62 rfl (lv_at hl 0 rfl) ?_
              refine lv_iload_n hx hb dX5_seatRest_63 rfl (lv_at hl 1 rfl) ?_
              refine x_topi (y := nI kk) (hv_x) ?_
              refine x_put (ws' := (tW G a wo mi bi la (nI kk) ki Y.2.2.1 wd hu bt) ++ (aW G g 6 Y.2.2.2)) (ty := .int) E hw fw_X5_63 0 rfl rfl rfl (by decide +kernel) rfl rfl (Nat.le_of_ble_eq_true rfl) dX5_seatRest_64 rfl (fun H locs hw => ?_)
              refine lv_aload_n hx hb dX5_seatRest_67 rfl (lv_at hl 0 rfl) ?_
              refine lv_iload hx hb dX5_seatRest_68 (lv_at hl 7 rfl) ?_
              refine x_callV (is := [0, 1, 2, 3, 4, 5]) (q0 := 0) (As := [.int (nI q)]) (rest := []) (st1 := [.int (fi Y.2.2.1 (nI q) kk 0)]) (ws' := (tW G a wo mi bi la (nI kk) ki Y.2.2.1 wd hu bt) ++ (aW G g 6 Y.2.2.2)) E (c_X3_childAt l G a (nI q) wo mi bi la kk ki Y.2.2.1 wd hu bt (by omega)) vw_X5_79 hw [0, 1, 2, 3, 4, 5] rfl rfl rfl rfl rfl rfl rfl hl.1 rfl rfl (Nat.le_of_ble_eq_true rfl) ⟨Nat.le_of_ble_eq_true rfl, Nat.le_of_ble_eq_true rfl⟩ (Nat.zero_le _) (Nat.zero_le _) dX5_seatRest_70 rfl rfl (fun H locs hw => ?_)
              refine lv_iconst (v := -1) hx hb dX5_seatRest_73 rfl ?_
              refine lv_icmp_ne (tgt := 99) hx hb dX5_seatRest_74 rfl (fun cq74 => ?_) (fun cq74 => ?_)
              · skip
                refine lv_iinc (v := nI (q + 1)) (lv' := [(7, .int (nI (q + 1))), (0, .ref (a 0)), (1, .int x), (2, .int y), (3, .int few), (4, .ref g), (5, .int (bcI (bitr wo la kk ki se wd hu bt))), (6, .int Y.1)]) hx hb dX5_seatRest_99 hl (k := 7) rfl (nI_add _ 1) (by decide) rfl (fun ls hl => ?_)
                refine lv_goto (tgt := 55) hx hb dX5_seatRest_102 rfl ?_
                exact ih55 (q + 1) (Y.1, nI kk, Y.2.2.1, Y.2.2.2) (by omega) (by rw [fold8, hY]; exact if_neg cq74) (by omega) _ _ _ hw (lv_sub hl [1, 2, 3, 4, 5, 6, 7, 0] rfl)
              · skip
                refine lv_aload_n hx hb dX5_seatRest_77 rfl (lv_at hl 0 rfl) ?_
                refine x_get E hw fw_X5_126 0 rfl rfl dX5_seatRest_78 ?_
                refine lv_iload_n hx hb dX5_seatRest_81 rfl (lv_at hl 1 rfl) ?_
                refine lv_iload hx hb dX5_seatRest_82 (lv_at hl 7 rfl) ?_
                refine x_iast (ws' := (tW G a wo mi bi la (nI kk) ki (upd Y.2.2.1 kk (nI q)) wd hu bt) ++ (aW G g 6 Y.2.2.2)) E hw 2 rfl kk (hv_x) (by omega) (by omega) dX5_seatRest_84 rfl (fun H locs hw => ?_)
                obtain ⟨Z1, hZ1⟩ : ∃ T, srC wo la all ki wd hu bt 4 (kk + 1) Y.1 (upd Y.2.2.1 kk (nI q)) Y.2.2.2 = T := ⟨_, rfl⟩
                refine lv_aload_n hx hb dX5_seatRest_85 rfl (lv_at hl 0 rfl) ?_
                refine lv_iload_n hx hb dX5_seatRest_86 rfl (lv_at hl 1 rfl) ?_
                refine lv_iconst (v := 1) hx hb dX5_seatRest_87 rfl ?_
                refine lv_iadd hx hb dX5_seatRest_88 ?_
                refine lv_iload_n hx hb dX5_seatRest_89 rfl (lv_at hl 2 rfl) ?_
                refine lv_iload hx hb dX5_seatRest_90 (lv_at hl 6 rfl) ?_
                refine lv_aload hx hb dX5_seatRest_92 (lv_at hl 4 rfl) ?_
                refine x_callS (is := [0, 1, 2, 3, 4, 5, 6]) (As := [.ref (a 0), .int (x + 1), .int y, .int Y.1, .ref g]) (rest := []) (st1 := [.int Z1.1]) (ws' := (tW G a wo mi bi la Z1.2.1 ki Z1.2.2.1 wd hu bt) ++ (aW G g 6 Z1.2.2.2)) E (c_X5_seatRest_3 l G a g (x + 1) (kk + 1) ((ix_add (a := kk) (b := 1) hv_x rfl)) y all (hv_y) Y.1 wo mi bi la (nI kk) ki (upd Y.2.2.1 kk (nI q)) wd hu bt Y.2.2.2 Z1 (by omega) (by omega) (by omega) (hZ1)) sw_X5_169 hw [0, 1, 2, 3, 4, 5, 6] rfl rfl rfl rfl hl.1 rfl rfl (Nat.le_of_ble_eq_true rfl) ⟨Nat.le_of_ble_eq_true rfl, Nat.le_of_ble_eq_true rfl⟩ (Nat.zero_le _) (Nat.zero_le _) dX5_seatRest_94 rfl rfl (fun H locs hw => ?_)
                refine lv_istore (lv' := [(6, .int Z1.1), (0, .ref (a 0)), (1, .int x), (2, .int y), (3, .int few), (4, .ref g), (5, .int (bcI (bitr wo la kk ki se wd hu bt))), (7, .int (nI q))]) hx hb dX5_seatRest_97 hl (by decide) rfl (fun ls hl => ?_)
                refine lv_iinc (v := nI (q + 1)) (lv' := [(7, .int (nI (q + 1))), (6, .int Z1.1), (0, .ref (a 0)), (1, .int x), (2, .int y), (3, .int few), (4, .ref g), (5, .int (bcI (bitr wo la kk ki se wd hu bt)))]) hx hb dX5_seatRest_99 hl (k := 7) rfl (nI_add _ 1) (by decide) rfl (fun ls hl => ?_)
                refine lv_goto (tgt := 55) hx hb dX5_seatRest_102 rfl ?_
                exact ih55 (q + 1) Z1 (by omega) (by rw [fold8, hY]; exact (if_pos cq74).trans hZ1) (by omega) _ _ _ hw (lv_sub hl [2, 3, 4, 5, 6, 7, 1, 0] rfl)
        exact lp55 (8 - 0 + 1) 0 (few, nI kk, se, sgf) (by omega) (rfl) (by omega) _ _ _ hw (lv_sub hl [3, 4, 5, 6, 7, 2, 1, 0] rfl)
      · skip
        have cq30 : ¬ kk < 6 := fun h => cq30 ((cv_lt (a := kk) (b := 6) hv_x rfl (by omega) (by omega)).mpr h)
        refine lv_aload_n hx hb dX5_seatRest_33 rfl (lv_at hl 1 rfl) ?_
        refine x_get E hw fw_X5_126 0 rfl rfl dX5_seatRest_34 ?_
        refine lv_iconst (v := 0) hx hb dX5_seatRest_37 rfl ?_
        refine lv_aload hx hb dX5_seatRest_38 (lv_at hl 5 rfl) ?_
        refine lv_iconst (v := 0) hx hb dX5_seatRest_40 rfl ?_
        refine lv_bipush (v := 6) hx hb dX5_seatRest_41 rfl ?_
        refine x_copyi (ws' := (tW G a wo mi bi la (nI kk) ki se wd hu bt) ++ (aW G g 6 se)) E hw lw_X5_230 kw_acopy hl.1 2 6 rfl rfl rfl rfl rfl (by omega) (Nat.le_of_ble_eq_true rfl) (Nat.le_of_ble_eq_true rfl) dX5_seatRest_43 rfl (fun H locs hw => ?_)
        refine lv_iload hx hb dX5_seatRest_46 (lv_at hl 0 rfl) ?_
        exact x_iret E hA rt hw dX5_seatRest_48 ((congrArg (fun T : Ss => T.1) (show Z = (bcI (bitr wo la kk ki se wd hu bt), nI kk, se, se) from by rw [← hZ, srC, if_neg (Int32.not_le.mpr cq17), if_pos (Or.inr (by omega))])).symm) ((congrArg (fun T : Ss => tW G a wo mi bi la T.2.1 ki T.2.2.1 wd hu bt ++ aW G g 6 T.2.2.2) (show Z = (bcI (bitr wo la kk ki se wd hu bt), nI kk, se, se) from by rw [← hZ, srC, if_neg (Int32.not_le.mpr cq17), if_pos (Or.inr (by omega))])).symm)
  · skip
    refine lv_iload_n hx hb dX5_seatRest_20 rfl (lv_at hl 4 rfl) ?_
    exact x_iret E hA rt hw dX5_seatRest_21 ((congrArg (fun T : Ss => T.1) (show Z = (few, nI kk, se, sgf) from by rw [← hZ, srC, if_pos (Int32.not_lt.mp cq17)])).symm) ((congrArg (fun T : Ss => tW G a wo mi bi la T.2.1 ki T.2.2.1 wd hu bt ++ aW G g 6 T.2.2.2) (show Z = (few, nI kk, se, sgf) from by rw [← hZ, srC, if_pos (Int32.not_lt.mp cq17)])).symm)
set_option maxHeartbeats 1000000 in
set_option maxRecDepth 100000 in
theorem c_X5_seatRest_5 (l : Launch) (G : GG) (a : Nat → Nat) (g : Nat) (x : Int32) (kk : Nat) (hv_x : x = nI kk) (y : Int32) (all : Nat) (hv_y : y = nI all) (few : Int32) (wo : Int32) (mi : Int32) (bi : Int32) (la : Int32) (ch : Int32) (ki : Nat → Int32) (se : Nat → Int32) (wd : Nat → Int32) (hu : Nat → Int32) (bt : Nat → Int32) (sgf : Nat → Int32) (Z : Ss) (hk : kk ≤ 6) (hd : 6 ≤ kk + 5) (hall : all ≤ 6) (hZ : srC wo la all ki wd hu bt 6 kk few se sgf = Z) : CT l G yX5_seatRest cX5_seatRest 8 (some .int) 9 222 [.ref (a 0), .int x, .int y, .int few, .ref g] ((tW G a wo mi bi la ch ki se wd hu bt) ++ (aW G g 6 sgf)) (some (.int Z.1)) ((tW G a wo mi bi la Z.2.1 ki Z.2.2.1 wd hu bt) ++ (aW G g 6 Z.2.2.2)) := by
  refine CT.mk (own := RX5) (la := [(0, .ref (a 0)), (1, .int x), (2, .int y), (3, .int few), (4, .ref g)]) (by decide) rfl (Nat.le_of_ble_eq_true rfl) rfl ?_
  intro p e s m args below meth c A Q E hA hw rt ls hl
  have hx := E.1
  have hb := E.2.1
  refine lv_aload_n hx hb dX5_seatRest_0 rfl (lv_at hl 0 rfl) ?_
  refine lv_iload_n hx hb dX5_seatRest_1 rfl (lv_at hl 1 rfl) ?_
  refine x_topi (y := nI kk) (hv_x) ?_
  refine x_put (ws' := (tW G a wo mi bi la (nI kk) ki se wd hu bt) ++ (aW G g 6 sgf)) (ty := .int) E hw fw_X5_63 0 rfl rfl rfl (by decide +kernel) rfl rfl (Nat.le_of_ble_eq_true rfl) dX5_seatRest_2 rfl (fun H locs hw => ?_)
  refine lv_aload_n hx hb dX5_seatRest_5 rfl (lv_at hl 0 rfl) ?_
  refine x_callV (is := [0, 1, 2, 3, 4, 5]) (q0 := 0) (As := []) (rest := []) (st1 := [.int (bitr wo la kk ki se wd hu bt)]) (ws' := (tW G a wo mi bi la (nI kk) ki se wd hu bt) ++ (aW G g 6 sgf)) E (c_X3_biters l G a wo mi bi la kk ki se wd hu bt (by omega)) vw_X5_150 hw [0, 1, 2, 3, 4, 5] rfl rfl rfl rfl rfl rfl rfl hl.1 rfl rfl (Nat.le_of_ble_eq_true rfl) ⟨Nat.le_of_ble_eq_true rfl, Nat.le_of_ble_eq_true rfl⟩ (Nat.zero_le _) (Nat.zero_le _) dX5_seatRest_6 rfl rfl (fun H locs hw => ?_)
  refine x_callS (is := []) (As := [.int (bitr wo la kk ki se wd hu bt)]) (rest := []) (st1 := [.int (bcI (bitr wo la kk ki se wd hu bt))]) (ws' := (tW G a wo mi bi la (nI kk) ki se wd hu bt) ++ (aW G g 6 sgf)) E (c_bitCount l G (bitr wo la kk ki se wd hu bt)) sw_X5_200 hw [] rfl rfl rfl rfl hl.1 rfl rfl (Nat.le_of_ble_eq_true rfl) ⟨Nat.le_of_ble_eq_true rfl, Nat.le_of_ble_eq_true rfl⟩ (Nat.zero_le _) (Nat.zero_le _) dX5_seatRest_9 rfl rfl (fun H locs hw => ?_)
  refine lv_istore (lv' := [(5, .int (bcI (bitr wo la kk ki se wd hu bt))), (0, .ref (a 0)), (1, .int x), (2, .int y), (3, .int few), (4, .ref g)]) hx hb dX5_seatRest_12 hl (by decide) rfl (fun ls hl => ?_)
  refine lv_iload hx hb dX5_seatRest_14 (lv_at hl 0 rfl) ?_
  refine lv_iload_n hx hb dX5_seatRest_16 rfl (lv_at hl 4 rfl) ?_
  refine lv_icmp_lt (tgt := 22) hx hb dX5_seatRest_17 rfl (fun cq17 => ?_) (fun cq17 => ?_)
  · skip
    refine lv_iload_n hx hb dX5_seatRest_22 rfl (lv_at hl 2 rfl) ?_
    refine lv_iload_n hx hb dX5_seatRest_23 rfl (lv_at hl 3 rfl) ?_
    refine lv_icmp_ge (tgt := 33) hx hb dX5_seatRest_24 rfl (fun cq24 => ?_) (fun cq24 => ?_)
    · skip
      have cq24 : all ≤ kk := (cv_le (a := all) (b := kk) hv_y hv_x (by omega) (by omega)).mp cq24
      refine lv_aload_n hx hb dX5_seatRest_33 rfl (lv_at hl 1 rfl) ?_
      refine x_get E hw fw_X5_126 0 rfl rfl dX5_seatRest_34 ?_
      refine lv_iconst (v := 0) hx hb dX5_seatRest_37 rfl ?_
      refine lv_aload hx hb dX5_seatRest_38 (lv_at hl 5 rfl) ?_
      refine lv_iconst (v := 0) hx hb dX5_seatRest_40 rfl ?_
      refine lv_bipush (v := 6) hx hb dX5_seatRest_41 rfl ?_
      refine x_copyi (ws' := (tW G a wo mi bi la (nI kk) ki se wd hu bt) ++ (aW G g 6 se)) E hw lw_X5_230 kw_acopy hl.1 2 6 rfl rfl rfl rfl rfl (by omega) (Nat.le_of_ble_eq_true rfl) (Nat.le_of_ble_eq_true rfl) dX5_seatRest_43 rfl (fun H locs hw => ?_)
      refine lv_iload hx hb dX5_seatRest_46 (lv_at hl 0 rfl) ?_
      exact x_iret E hA rt hw dX5_seatRest_48 ((congrArg (fun T : Ss => T.1) (show Z = (bcI (bitr wo la kk ki se wd hu bt), nI kk, se, se) from by rw [← hZ, srC, if_neg (Int32.not_le.mpr cq17), if_pos (Or.inl cq24)])).symm) ((congrArg (fun T : Ss => tW G a wo mi bi la T.2.1 ki T.2.2.1 wd hu bt ++ aW G g 6 T.2.2.2) (show Z = (bcI (bitr wo la kk ki se wd hu bt), nI kk, se, se) from by rw [← hZ, srC, if_neg (Int32.not_le.mpr cq17), if_pos (Or.inl cq24)])).symm)
    · skip
      have cq24 : ¬ all ≤ kk := fun h => cq24 ((cv_le (a := all) (b := kk) hv_y hv_x (by omega) (by omega)).mpr h)
      refine lv_iload_n hx hb dX5_seatRest_27 rfl (lv_at hl 2 rfl) ?_
      refine lv_bipush (v := 6) hx hb dX5_seatRest_28 rfl ?_
      refine lv_icmp_lt (tgt := 49) hx hb dX5_seatRest_30 rfl (fun cq30 => ?_) (fun cq30 => ?_)
      · skip
        have cq30 : kk < 6 := (cv_lt (a := kk) (b := 6) hv_x rfl (by omega) (by omega)).mp cq30
        refine lv_iload_n hx hb dX5_seatRest_49 rfl (lv_at hl 4 rfl) ?_
        refine lv_istore (lv' := [(6, .int few), (5, .int (bcI (bitr wo la kk ki se wd hu bt))), (0, .ref (a 0)), (1, .int x), (2, .int y), (3, .int few), (4, .ref g)]) hx hb dX5_seatRest_50 hl (by decide) rfl (fun ls hl => ?_)
        refine lv_iconst (v := 0) hx hb dX5_seatRest_52 rfl ?_
        refine lv_istore (lv' := [(7, .int 0), (6, .int few), (5, .int (bcI (bitr wo la kk ki se wd hu bt))), (0, .ref (a 0)), (1, .int x), (2, .int y), (3, .int few), (4, .ref g)]) hx hb dX5_seatRest_53 hl (by decide) rfl (fun ls hl => ?_)
        have lp55 : ∀ (fuel : Nat), ∀ (q : Nat) (Y : Ss) (hq : q ≤ 8) (hY : fold8 (fun q x => if fi x.2.2.1 (nI q) kk 0 = -1 then srC wo la all ki wd hu bt 5 (kk + 1) x.1 (upd x.2.2.1 kk (nI q)) x.2.2.2 else (x.1, nI kk, x.2.2.1, x.2.2.2)) q (few, nI kk, se, sgf) = Y), (8 - q) < fuel → ∀ (H : Heap) (locs : List Loc) (ls : Array Slot), Wd G A s H locs ((tW G a wo mi bi la Y.2.1 ki Y.2.2.1 wd hu bt) ++ (aW G g 6 Y.2.2.2)) → lv_has ls 8 [(0, .ref (a 0)), (1, .int x), (2, .int y), (3, .int few), (4, .ref g), (5, .int (bcI (bitr wo la kk ki se wd hu bt))), (6, .int Y.1), (7, .int (nI q))] → W p l e (rmx 9 222) s m args below meth c H locs 0 0 Q (F0 m 55 ls []) := by
          intro fuel
          induction fuel with
          | zero => intro q Y hq hY hfu; exact absurd hfu (Nat.not_lt_zero _)
          | succ fuel ih55 =>
            intro q Y hq hY hfu H locs ls hw hl
            refine lv_iload hx hb dX5_seatRest_55 (lv_at hl 7 rfl) ?_
            refine lv_bipush (v := 8) hx hb dX5_seatRest_57 rfl ?_
            refine lv_icmp_ge (tgt := 105) hx hb dX5_seatRest_59 rfl (fun cq59 => ?_) (fun cq59 => ?_)
            · skip
              have cq59 : 8 ≤ q := (cv_le (a := 8) (b := q) rfl rfl (by omega) (by omega)).mp cq59
              refine lv_iload hx hb dX5_seatRest_105 (lv_at hl 6 rfl) ?_
              exact x_iret E hA rt hw dX5_seatRest_107 ((congrArg (fun T : Ss => T.1) (show Z = Y from by rw [← hZ, srC, if_neg (Int32.not_le.mpr cq17), if_neg (fun h9 => h9.elim (fun h8 => cq24 h8) (fun h8 => by omega)), ← hY, show q = 8 by omega])).symm) ((congrArg (fun T : Ss => tW G a wo mi bi la T.2.1 ki T.2.2.1 wd hu bt ++ aW G g 6 T.2.2.2) (show Z = Y from by rw [← hZ, srC, if_neg (Int32.not_le.mpr cq17), if_neg (fun h9 => h9.elim (fun h8 => cq24 h8) (fun h8 => by omega)), ← hY, show q = 8 by omega])).symm)
            · skip
              have cq59 : ¬ 8 ≤ q := fun h => cq59 ((cv_le (a := 8) (b := q) rfl rfl (by omega) (by omega)).mpr h)
              refine lv_aload_n hx hb dX5_seatRest_62 rfl (lv_at hl 0 rfl) ?_
              refine lv_iload_n hx hb dX5_seatRest_63 rfl (lv_at hl 1 rfl) ?_
              refine x_topi (y := nI kk) (hv_x) ?_
              refine x_put (ws' := (tW G a wo mi bi la (nI kk) ki Y.2.2.1 wd hu bt) ++ (aW G g 6 Y.2.2.2)) (ty := .int) E hw fw_X5_63 0 rfl rfl rfl (by decide +kernel) rfl rfl (Nat.le_of_ble_eq_true rfl) dX5_seatRest_64 rfl (fun H locs hw => ?_)
              refine lv_aload_n hx hb dX5_seatRest_67 rfl (lv_at hl 0 rfl) ?_
              refine lv_iload hx hb dX5_seatRest_68 (lv_at hl 7 rfl) ?_
              refine x_callV (is := [0, 1, 2, 3, 4, 5]) (q0 := 0) (As := [.int (nI q)]) (rest := []) (st1 := [.int (fi Y.2.2.1 (nI q) kk 0)]) (ws' := (tW G a wo mi bi la (nI kk) ki Y.2.2.1 wd hu bt) ++ (aW G g 6 Y.2.2.2)) E (c_X3_childAt l G a (nI q) wo mi bi la kk ki Y.2.2.1 wd hu bt (by omega)) vw_X5_79 hw [0, 1, 2, 3, 4, 5] rfl rfl rfl rfl rfl rfl rfl hl.1 rfl rfl (Nat.le_of_ble_eq_true rfl) ⟨Nat.le_of_ble_eq_true rfl, Nat.le_of_ble_eq_true rfl⟩ (Nat.zero_le _) (Nat.zero_le _) dX5_seatRest_70 rfl rfl (fun H locs hw => ?_)
              refine lv_iconst (v := -1) hx hb dX5_seatRest_73 rfl ?_
              refine lv_icmp_ne (tgt := 99) hx hb dX5_seatRest_74 rfl (fun cq74 => ?_) (fun cq74 => ?_)
              · skip
                refine lv_iinc (v := nI (q + 1)) (lv' := [(7, .int (nI (q + 1))), (0, .ref (a 0)), (1, .int x), (2, .int y), (3, .int few), (4, .ref g), (5, .int (bcI (bitr wo la kk ki se wd hu bt))), (6, .int Y.1)]) hx hb dX5_seatRest_99 hl (k := 7) rfl (nI_add _ 1) (by decide) rfl (fun ls hl => ?_)
                refine lv_goto (tgt := 55) hx hb dX5_seatRest_102 rfl ?_
                exact ih55 (q + 1) (Y.1, nI kk, Y.2.2.1, Y.2.2.2) (by omega) (by rw [fold8, hY]; exact if_neg cq74) (by omega) _ _ _ hw (lv_sub hl [1, 2, 3, 4, 5, 6, 7, 0] rfl)
              · skip
                refine lv_aload_n hx hb dX5_seatRest_77 rfl (lv_at hl 0 rfl) ?_
                refine x_get E hw fw_X5_126 0 rfl rfl dX5_seatRest_78 ?_
                refine lv_iload_n hx hb dX5_seatRest_81 rfl (lv_at hl 1 rfl) ?_
                refine lv_iload hx hb dX5_seatRest_82 (lv_at hl 7 rfl) ?_
                refine x_iast (ws' := (tW G a wo mi bi la (nI kk) ki (upd Y.2.2.1 kk (nI q)) wd hu bt) ++ (aW G g 6 Y.2.2.2)) E hw 2 rfl kk (hv_x) (by omega) (by omega) dX5_seatRest_84 rfl (fun H locs hw => ?_)
                obtain ⟨Z1, hZ1⟩ : ∃ T, srC wo la all ki wd hu bt 5 (kk + 1) Y.1 (upd Y.2.2.1 kk (nI q)) Y.2.2.2 = T := ⟨_, rfl⟩
                refine lv_aload_n hx hb dX5_seatRest_85 rfl (lv_at hl 0 rfl) ?_
                refine lv_iload_n hx hb dX5_seatRest_86 rfl (lv_at hl 1 rfl) ?_
                refine lv_iconst (v := 1) hx hb dX5_seatRest_87 rfl ?_
                refine lv_iadd hx hb dX5_seatRest_88 ?_
                refine lv_iload_n hx hb dX5_seatRest_89 rfl (lv_at hl 2 rfl) ?_
                refine lv_iload hx hb dX5_seatRest_90 (lv_at hl 6 rfl) ?_
                refine lv_aload hx hb dX5_seatRest_92 (lv_at hl 4 rfl) ?_
                refine x_callS (is := [0, 1, 2, 3, 4, 5, 6]) (As := [.ref (a 0), .int (x + 1), .int y, .int Y.1, .ref g]) (rest := []) (st1 := [.int Z1.1]) (ws' := (tW G a wo mi bi la Z1.2.1 ki Z1.2.2.1 wd hu bt) ++ (aW G g 6 Z1.2.2.2)) E (c_X5_seatRest_4 l G a g (x + 1) (kk + 1) ((ix_add (a := kk) (b := 1) hv_x rfl)) y all (hv_y) Y.1 wo mi bi la (nI kk) ki (upd Y.2.2.1 kk (nI q)) wd hu bt Y.2.2.2 Z1 (by omega) (by omega) (by omega) (hZ1)) sw_X5_169 hw [0, 1, 2, 3, 4, 5, 6] rfl rfl rfl rfl hl.1 rfl rfl (Nat.le_of_ble_eq_true rfl) ⟨Nat.le_of_ble_eq_true rfl, Nat.le_of_ble_eq_true rfl⟩ (Nat.zero_le _) (Nat.zero_le _) dX5_seatRest_94 rfl rfl (fun H locs hw => ?_)
                refine lv_istore (lv' := [(6, .int Z1.1), (0, .ref (a 0)), (1, .int x), (2, .int y), (3, .int few), (4, .ref g), (5, .int (bcI (bitr wo la kk ki se wd hu bt))), (7, .int (nI q))]) hx hb dX5_seatRest_97 hl (by decide) rfl (fun ls hl => ?_)
                refine lv_iinc (v := nI (q + 1)) (lv' := [(7, .int (nI (q + 1))), (6, .int Z1.1), (0, .ref (a 0)), (1, .int x), (2, .int y), (3, .int few), (4, .ref g), (5, .int (bcI (bitr wo la kk ki se wd hu bt)))]) hx hb dX5_seatRest_99 hl (k := 7) rfl (nI_add _ 1) (by decide) rfl (fun ls hl => ?_)
                refine lv_goto (tgt := 55) hx hb dX5_seatRest_102 rfl ?_
                exact ih55 (q + 1) Z1 (by omega) (by rw [fold8, hY]; exact (if_pos cq74).trans hZ1) (by omega) _ _ _ hw (lv_sub hl [2, 3, 4, 5, 6, 7, 1, 0] rfl)
        exact lp55 (8 - 0 + 1) 0 (few, nI kk, se, sgf) (by omega) (rfl) (by omega) _ _ _ hw (lv_sub hl [3, 4, 5, 6, 7, 2, 1, 0] rfl)
      · skip
        have cq30 : ¬ kk < 6 := fun h => cq30 ((cv_lt (a := kk) (b := 6) hv_x rfl (by omega) (by omega)).mpr h)
        refine lv_aload_n hx hb dX5_seatRest_33 rfl (lv_at hl 1 rfl) ?_
        refine x_get E hw fw_X5_126 0 rfl rfl dX5_seatRest_34 ?_
        refine lv_iconst (v := 0) hx hb dX5_seatRest_37 rfl ?_
        refine lv_aload hx hb dX5_seatRest_38 (lv_at hl 5 rfl) ?_
        refine lv_iconst (v := 0) hx hb dX5_seatRest_40 rfl ?_
        refine lv_bipush (v := 6) hx hb dX5_seatRest_41 rfl ?_
        refine x_copyi (ws' := (tW G a wo mi bi la (nI kk) ki se wd hu bt) ++ (aW G g 6 se)) E hw lw_X5_230 kw_acopy hl.1 2 6 rfl rfl rfl rfl rfl (by omega) (Nat.le_of_ble_eq_true rfl) (Nat.le_of_ble_eq_true rfl) dX5_seatRest_43 rfl (fun H locs hw => ?_)
        refine lv_iload hx hb dX5_seatRest_46 (lv_at hl 0 rfl) ?_
        exact x_iret E hA rt hw dX5_seatRest_48 ((congrArg (fun T : Ss => T.1) (show Z = (bcI (bitr wo la kk ki se wd hu bt), nI kk, se, se) from by rw [← hZ, srC, if_neg (Int32.not_le.mpr cq17), if_pos (Or.inr (by omega))])).symm) ((congrArg (fun T : Ss => tW G a wo mi bi la T.2.1 ki T.2.2.1 wd hu bt ++ aW G g 6 T.2.2.2) (show Z = (bcI (bitr wo la kk ki se wd hu bt), nI kk, se, se) from by rw [← hZ, srC, if_neg (Int32.not_le.mpr cq17), if_pos (Or.inr (by omega))])).symm)
  · skip
    refine lv_iload_n hx hb dX5_seatRest_20 rfl (lv_at hl 4 rfl) ?_
    exact x_iret E hA rt hw dX5_seatRest_21 ((congrArg (fun T : Ss => T.1) (show Z = (few, nI kk, se, sgf) from by rw [← hZ, srC, if_pos (Int32.not_lt.mp cq17)])).symm) ((congrArg (fun T : Ss => tW G a wo mi bi la T.2.1 ki T.2.2.1 wd hu bt ++ aW G g 6 T.2.2.2) (show Z = (few, nI kk, se, sgf) from by rw [← hZ, srC, if_pos (Int32.not_lt.mp cq17)])).symm)
set_option maxHeartbeats 1000000 in
set_option maxRecDepth 100000 in
theorem c_X5_seatRest_6 (l : Launch) (G : GG) (a : Nat → Nat) (g : Nat) (x : Int32) (kk : Nat) (hv_x : x = nI kk) (y : Int32) (all : Nat) (hv_y : y = nI all) (few : Int32) (wo : Int32) (mi : Int32) (bi : Int32) (la : Int32) (ch : Int32) (ki : Nat → Int32) (se : Nat → Int32) (wd : Nat → Int32) (hu : Nat → Int32) (bt : Nat → Int32) (sgf : Nat → Int32) (Z : Ss) (hk : kk ≤ 6) (hd : 6 ≤ kk + 6) (hall : all ≤ 6) (hZ : srC wo la all ki wd hu bt 7 kk few se sgf = Z) : CT l G yX5_seatRest cX5_seatRest 8 (some .int) 10 249 [.ref (a 0), .int x, .int y, .int few, .ref g] ((tW G a wo mi bi la ch ki se wd hu bt) ++ (aW G g 6 sgf)) (some (.int Z.1)) ((tW G a wo mi bi la Z.2.1 ki Z.2.2.1 wd hu bt) ++ (aW G g 6 Z.2.2.2)) := by
  refine CT.mk (own := RX5) (la := [(0, .ref (a 0)), (1, .int x), (2, .int y), (3, .int few), (4, .ref g)]) (by decide) rfl (Nat.le_of_ble_eq_true rfl) rfl ?_
  intro p e s m args below meth c A Q E hA hw rt ls hl
  have hx := E.1
  have hb := E.2.1
  refine lv_aload_n hx hb dX5_seatRest_0 rfl (lv_at hl 0 rfl) ?_
  refine lv_iload_n hx hb dX5_seatRest_1 rfl (lv_at hl 1 rfl) ?_
  refine x_topi (y := nI kk) (hv_x) ?_
  refine x_put (ws' := (tW G a wo mi bi la (nI kk) ki se wd hu bt) ++ (aW G g 6 sgf)) (ty := .int) E hw fw_X5_63 0 rfl rfl rfl (by decide +kernel) rfl rfl (Nat.le_of_ble_eq_true rfl) dX5_seatRest_2 rfl (fun H locs hw => ?_)
  refine lv_aload_n hx hb dX5_seatRest_5 rfl (lv_at hl 0 rfl) ?_
  refine x_callV (is := [0, 1, 2, 3, 4, 5]) (q0 := 0) (As := []) (rest := []) (st1 := [.int (bitr wo la kk ki se wd hu bt)]) (ws' := (tW G a wo mi bi la (nI kk) ki se wd hu bt) ++ (aW G g 6 sgf)) E (c_X3_biters l G a wo mi bi la kk ki se wd hu bt (by omega)) vw_X5_150 hw [0, 1, 2, 3, 4, 5] rfl rfl rfl rfl rfl rfl rfl hl.1 rfl rfl (Nat.le_of_ble_eq_true rfl) ⟨Nat.le_of_ble_eq_true rfl, Nat.le_of_ble_eq_true rfl⟩ (Nat.zero_le _) (Nat.zero_le _) dX5_seatRest_6 rfl rfl (fun H locs hw => ?_)
  refine x_callS (is := []) (As := [.int (bitr wo la kk ki se wd hu bt)]) (rest := []) (st1 := [.int (bcI (bitr wo la kk ki se wd hu bt))]) (ws' := (tW G a wo mi bi la (nI kk) ki se wd hu bt) ++ (aW G g 6 sgf)) E (c_bitCount l G (bitr wo la kk ki se wd hu bt)) sw_X5_200 hw [] rfl rfl rfl rfl hl.1 rfl rfl (Nat.le_of_ble_eq_true rfl) ⟨Nat.le_of_ble_eq_true rfl, Nat.le_of_ble_eq_true rfl⟩ (Nat.zero_le _) (Nat.zero_le _) dX5_seatRest_9 rfl rfl (fun H locs hw => ?_)
  refine lv_istore (lv' := [(5, .int (bcI (bitr wo la kk ki se wd hu bt))), (0, .ref (a 0)), (1, .int x), (2, .int y), (3, .int few), (4, .ref g)]) hx hb dX5_seatRest_12 hl (by decide) rfl (fun ls hl => ?_)
  refine lv_iload hx hb dX5_seatRest_14 (lv_at hl 0 rfl) ?_
  refine lv_iload_n hx hb dX5_seatRest_16 rfl (lv_at hl 4 rfl) ?_
  refine lv_icmp_lt (tgt := 22) hx hb dX5_seatRest_17 rfl (fun cq17 => ?_) (fun cq17 => ?_)
  · skip
    refine lv_iload_n hx hb dX5_seatRest_22 rfl (lv_at hl 2 rfl) ?_
    refine lv_iload_n hx hb dX5_seatRest_23 rfl (lv_at hl 3 rfl) ?_
    refine lv_icmp_ge (tgt := 33) hx hb dX5_seatRest_24 rfl (fun cq24 => ?_) (fun cq24 => ?_)
    · skip
      have cq24 : all ≤ kk := (cv_le (a := all) (b := kk) hv_y hv_x (by omega) (by omega)).mp cq24
      refine lv_aload_n hx hb dX5_seatRest_33 rfl (lv_at hl 1 rfl) ?_
      refine x_get E hw fw_X5_126 0 rfl rfl dX5_seatRest_34 ?_
      refine lv_iconst (v := 0) hx hb dX5_seatRest_37 rfl ?_
      refine lv_aload hx hb dX5_seatRest_38 (lv_at hl 5 rfl) ?_
      refine lv_iconst (v := 0) hx hb dX5_seatRest_40 rfl ?_
      refine lv_bipush (v := 6) hx hb dX5_seatRest_41 rfl ?_
      refine x_copyi (ws' := (tW G a wo mi bi la (nI kk) ki se wd hu bt) ++ (aW G g 6 se)) E hw lw_X5_230 kw_acopy hl.1 2 6 rfl rfl rfl rfl rfl (by omega) (Nat.le_of_ble_eq_true rfl) (Nat.le_of_ble_eq_true rfl) dX5_seatRest_43 rfl (fun H locs hw => ?_)
      refine lv_iload hx hb dX5_seatRest_46 (lv_at hl 0 rfl) ?_
      exact x_iret E hA rt hw dX5_seatRest_48 ((congrArg (fun T : Ss => T.1) (show Z = (bcI (bitr wo la kk ki se wd hu bt), nI kk, se, se) from by rw [← hZ, srC, if_neg (Int32.not_le.mpr cq17), if_pos (Or.inl cq24)])).symm) ((congrArg (fun T : Ss => tW G a wo mi bi la T.2.1 ki T.2.2.1 wd hu bt ++ aW G g 6 T.2.2.2) (show Z = (bcI (bitr wo la kk ki se wd hu bt), nI kk, se, se) from by rw [← hZ, srC, if_neg (Int32.not_le.mpr cq17), if_pos (Or.inl cq24)])).symm)
    · skip
      have cq24 : ¬ all ≤ kk := fun h => cq24 ((cv_le (a := all) (b := kk) hv_y hv_x (by omega) (by omega)).mpr h)
      refine lv_iload_n hx hb dX5_seatRest_27 rfl (lv_at hl 2 rfl) ?_
      refine lv_bipush (v := 6) hx hb dX5_seatRest_28 rfl ?_
      refine lv_icmp_lt (tgt := 49) hx hb dX5_seatRest_30 rfl (fun cq30 => ?_) (fun cq30 => ?_)
      · skip
        have cq30 : kk < 6 := (cv_lt (a := kk) (b := 6) hv_x rfl (by omega) (by omega)).mp cq30
        refine lv_iload_n hx hb dX5_seatRest_49 rfl (lv_at hl 4 rfl) ?_
        refine lv_istore (lv' := [(6, .int few), (5, .int (bcI (bitr wo la kk ki se wd hu bt))), (0, .ref (a 0)), (1, .int x), (2, .int y), (3, .int few), (4, .ref g)]) hx hb dX5_seatRest_50 hl (by decide) rfl (fun ls hl => ?_)
        refine lv_iconst (v := 0) hx hb dX5_seatRest_52 rfl ?_
        refine lv_istore (lv' := [(7, .int 0), (6, .int few), (5, .int (bcI (bitr wo la kk ki se wd hu bt))), (0, .ref (a 0)), (1, .int x), (2, .int y), (3, .int few), (4, .ref g)]) hx hb dX5_seatRest_53 hl (by decide) rfl (fun ls hl => ?_)
        have lp55 : ∀ (fuel : Nat), ∀ (q : Nat) (Y : Ss) (hq : q ≤ 8) (hY : fold8 (fun q x => if fi x.2.2.1 (nI q) kk 0 = -1 then srC wo la all ki wd hu bt 6 (kk + 1) x.1 (upd x.2.2.1 kk (nI q)) x.2.2.2 else (x.1, nI kk, x.2.2.1, x.2.2.2)) q (few, nI kk, se, sgf) = Y), (8 - q) < fuel → ∀ (H : Heap) (locs : List Loc) (ls : Array Slot), Wd G A s H locs ((tW G a wo mi bi la Y.2.1 ki Y.2.2.1 wd hu bt) ++ (aW G g 6 Y.2.2.2)) → lv_has ls 8 [(0, .ref (a 0)), (1, .int x), (2, .int y), (3, .int few), (4, .ref g), (5, .int (bcI (bitr wo la kk ki se wd hu bt))), (6, .int Y.1), (7, .int (nI q))] → W p l e (rmx 10 249) s m args below meth c H locs 0 0 Q (F0 m 55 ls []) := by
          intro fuel
          induction fuel with
          | zero => intro q Y hq hY hfu; exact absurd hfu (Nat.not_lt_zero _)
          | succ fuel ih55 =>
            intro q Y hq hY hfu H locs ls hw hl
            refine lv_iload hx hb dX5_seatRest_55 (lv_at hl 7 rfl) ?_
            refine lv_bipush (v := 8) hx hb dX5_seatRest_57 rfl ?_
            refine lv_icmp_ge (tgt := 105) hx hb dX5_seatRest_59 rfl (fun cq59 => ?_) (fun cq59 => ?_)
            · skip
              have cq59 : 8 ≤ q := (cv_le (a := 8) (b := q) rfl rfl (by omega) (by omega)).mp cq59
              refine lv_iload hx hb dX5_seatRest_105 (lv_at hl 6 rfl) ?_
              exact x_iret E hA rt hw dX5_seatRest_107 ((congrArg (fun T : Ss => T.1) (show Z = Y from by rw [← hZ, srC, if_neg (Int32.not_le.mpr cq17), if_neg (fun h9 => h9.elim (fun h8 => cq24 h8) (fun h8 => by omega)), ← hY, show q = 8 by omega])).symm) ((congrArg (fun T : Ss => tW G a wo mi bi la T.2.1 ki T.2.2.1 wd hu bt ++ aW G g 6 T.2.2.2) (show Z = Y from by rw [← hZ, srC, if_neg (Int32.not_le.mpr cq17), if_neg (fun h9 => h9.elim (fun h8 => cq24 h8) (fun h8 => by omega)), ← hY, show q = 8 by omega])).symm)
            · skip
              have cq59 : ¬ 8 ≤ q := fun h => cq59 ((cv_le (a := 8) (b := q) rfl rfl (by omega) (by omega)).mpr h)
              refine lv_aload_n hx hb dX5_seatRest_62 rfl (lv_at hl 0 rfl) ?_
              refine lv_iload_n hx hb dX5_seatRest_63 rfl (lv_at hl 1 rfl) ?_
              refine x_topi (y := nI kk) (hv_x) ?_
              refine x_put (ws' := (tW G a wo mi bi la (nI kk) ki Y.2.2.1 wd hu bt) ++ (aW G g 6 Y.2.2.2)) (ty := .int) E hw fw_X5_63 0 rfl rfl rfl (by decide +kernel) rfl rfl (Nat.le_of_ble_eq_true rfl) dX5_seatRest_64 rfl (fun H locs hw => ?_)
              refine lv_aload_n hx hb dX5_seatRest_67 rfl (lv_at hl 0 rfl) ?_
              refine lv_iload hx hb dX5_seatRest_68 (lv_at hl 7 rfl) ?_
              refine x_callV (is := [0, 1, 2, 3, 4, 5]) (q0 := 0) (As := [.int (nI q)]) (rest := []) (st1 := [.int (fi Y.2.2.1 (nI q) kk 0)]) (ws' := (tW G a wo mi bi la (nI kk) ki Y.2.2.1 wd hu bt) ++ (aW G g 6 Y.2.2.2)) E (c_X3_childAt l G a (nI q) wo mi bi la kk ki Y.2.2.1 wd hu bt (by omega)) vw_X5_79 hw [0, 1, 2, 3, 4, 5] rfl rfl rfl rfl rfl rfl rfl hl.1 rfl rfl (Nat.le_of_ble_eq_true rfl) ⟨Nat.le_of_ble_eq_true rfl, Nat.le_of_ble_eq_true rfl⟩ (Nat.zero_le _) (Nat.zero_le _) dX5_seatRest_70 rfl rfl (fun H locs hw => ?_)
              refine lv_iconst (v := -1) hx hb dX5_seatRest_73 rfl ?_
              refine lv_icmp_ne (tgt := 99) hx hb dX5_seatRest_74 rfl (fun cq74 => ?_) (fun cq74 => ?_)
              · skip
                refine lv_iinc (v := nI (q + 1)) (lv' := [(7, .int (nI (q + 1))), (0, .ref (a 0)), (1, .int x), (2, .int y), (3, .int few), (4, .ref g), (5, .int (bcI (bitr wo la kk ki se wd hu bt))), (6, .int Y.1)]) hx hb dX5_seatRest_99 hl (k := 7) rfl (nI_add _ 1) (by decide) rfl (fun ls hl => ?_)
                refine lv_goto (tgt := 55) hx hb dX5_seatRest_102 rfl ?_
                exact ih55 (q + 1) (Y.1, nI kk, Y.2.2.1, Y.2.2.2) (by omega) (by rw [fold8, hY]; exact if_neg cq74) (by omega) _ _ _ hw (lv_sub hl [1, 2, 3, 4, 5, 6, 7, 0] rfl)
              · skip
                refine lv_aload_n hx hb dX5_seatRest_77 rfl (lv_at hl 0 rfl) ?_
                refine x_get E hw fw_X5_126 0 rfl rfl dX5_seatRest_78 ?_
                refine lv_iload_n hx hb dX5_seatRest_81 rfl (lv_at hl 1 rfl) ?_
                refine lv_iload hx hb dX5_seatRest_82 (lv_at hl 7 rfl) ?_
                refine x_iast (ws' := (tW G a wo mi bi la (nI kk) ki (upd Y.2.2.1 kk (nI q)) wd hu bt) ++ (aW G g 6 Y.2.2.2)) E hw 2 rfl kk (hv_x) (by omega) (by omega) dX5_seatRest_84 rfl (fun H locs hw => ?_)
                obtain ⟨Z1, hZ1⟩ : ∃ T, srC wo la all ki wd hu bt 6 (kk + 1) Y.1 (upd Y.2.2.1 kk (nI q)) Y.2.2.2 = T := ⟨_, rfl⟩
                refine lv_aload_n hx hb dX5_seatRest_85 rfl (lv_at hl 0 rfl) ?_
                refine lv_iload_n hx hb dX5_seatRest_86 rfl (lv_at hl 1 rfl) ?_
                refine lv_iconst (v := 1) hx hb dX5_seatRest_87 rfl ?_
                refine lv_iadd hx hb dX5_seatRest_88 ?_
                refine lv_iload_n hx hb dX5_seatRest_89 rfl (lv_at hl 2 rfl) ?_
                refine lv_iload hx hb dX5_seatRest_90 (lv_at hl 6 rfl) ?_
                refine lv_aload hx hb dX5_seatRest_92 (lv_at hl 4 rfl) ?_
                refine x_callS (is := [0, 1, 2, 3, 4, 5, 6]) (As := [.ref (a 0), .int (x + 1), .int y, .int Y.1, .ref g]) (rest := []) (st1 := [.int Z1.1]) (ws' := (tW G a wo mi bi la Z1.2.1 ki Z1.2.2.1 wd hu bt) ++ (aW G g 6 Z1.2.2.2)) E (c_X5_seatRest_5 l G a g (x + 1) (kk + 1) ((ix_add (a := kk) (b := 1) hv_x rfl)) y all (hv_y) Y.1 wo mi bi la (nI kk) ki (upd Y.2.2.1 kk (nI q)) wd hu bt Y.2.2.2 Z1 (by omega) (by omega) (by omega) (hZ1)) sw_X5_169 hw [0, 1, 2, 3, 4, 5, 6] rfl rfl rfl rfl hl.1 rfl rfl (Nat.le_of_ble_eq_true rfl) ⟨Nat.le_of_ble_eq_true rfl, Nat.le_of_ble_eq_true rfl⟩ (Nat.zero_le _) (Nat.zero_le _) dX5_seatRest_94 rfl rfl (fun H locs hw => ?_)
                refine lv_istore (lv' := [(6, .int Z1.1), (0, .ref (a 0)), (1, .int x), (2, .int y), (3, .int few), (4, .ref g), (5, .int (bcI (bitr wo la kk ki se wd hu bt))), (7, .int (nI q))]) hx hb dX5_seatRest_97 hl (by decide) rfl (fun ls hl => ?_)
                refine lv_iinc (v := nI (q + 1)) (lv' := [(7, .int (nI (q + 1))), (6, .int Z1.1), (0, .ref (a 0)), (1, .int x), (2, .int y), (3, .int few), (4, .ref g), (5, .int (bcI (bitr wo la kk ki se wd hu bt)))]) hx hb dX5_seatRest_99 hl (k := 7) rfl (nI_add _ 1) (by decide) rfl (fun ls hl => ?_)
                refine lv_goto (tgt := 55) hx hb dX5_seatRest_102 rfl ?_
                exact ih55 (q + 1) Z1 (by omega) (by rw [fold8, hY]; exact (if_pos cq74).trans hZ1) (by omega) _ _ _ hw (lv_sub hl [2, 3, 4, 5, 6, 7, 1, 0] rfl)
        exact lp55 (8 - 0 + 1) 0 (few, nI kk, se, sgf) (by omega) (rfl) (by omega) _ _ _ hw (lv_sub hl [3, 4, 5, 6, 7, 2, 1, 0] rfl)
      · skip
        have cq30 : ¬ kk < 6 := fun h => cq30 ((cv_lt (a := kk) (b := 6) hv_x rfl (by omega) (by omega)).mpr h)
        refine lv_aload_n hx hb dX5_seatRest_33 rfl (lv_at hl 1 rfl) ?_
        refine x_get E hw fw_X5_126 0 rfl rfl dX5_seatRest_34 ?_
        refine lv_iconst (v := 0) hx hb dX5_seatRest_37 rfl ?_
        refine lv_aload hx hb dX5_seatRest_38 (lv_at hl 5 rfl) ?_
        refine lv_iconst (v := 0) hx hb dX5_seatRest_40 rfl ?_
        refine lv_bipush (v := 6) hx hb dX5_seatRest_41 rfl ?_
        refine x_copyi (ws' := (tW G a wo mi bi la (nI kk) ki se wd hu bt) ++ (aW G g 6 se)) E hw lw_X5_230 kw_acopy hl.1 2 6 rfl rfl rfl rfl rfl (by omega) (Nat.le_of_ble_eq_true rfl) (Nat.le_of_ble_eq_true rfl) dX5_seatRest_43 rfl (fun H locs hw => ?_)
        refine lv_iload hx hb dX5_seatRest_46 (lv_at hl 0 rfl) ?_
        exact x_iret E hA rt hw dX5_seatRest_48 ((congrArg (fun T : Ss => T.1) (show Z = (bcI (bitr wo la kk ki se wd hu bt), nI kk, se, se) from by rw [← hZ, srC, if_neg (Int32.not_le.mpr cq17), if_pos (Or.inr (by omega))])).symm) ((congrArg (fun T : Ss => tW G a wo mi bi la T.2.1 ki T.2.2.1 wd hu bt ++ aW G g 6 T.2.2.2) (show Z = (bcI (bitr wo la kk ki se wd hu bt), nI kk, se, se) from by rw [← hZ, srC, if_neg (Int32.not_le.mpr cq17), if_pos (Or.inr (by omega))])).symm)
  · skip
    refine lv_iload_n hx hb dX5_seatRest_20 rfl (lv_at hl 4 rfl) ?_
    exact x_iret E hA rt hw dX5_seatRest_21 ((congrArg (fun T : Ss => T.1) (show Z = (few, nI kk, se, sgf) from by rw [← hZ, srC, if_pos (Int32.not_lt.mp cq17)])).symm) ((congrArg (fun T : Ss => tW G a wo mi bi la T.2.1 ki T.2.2.1 wd hu bt ++ aW G g 6 T.2.2.2) (show Z = (few, nI kk, se, sgf) from by rw [← hZ, srC, if_pos (Int32.not_lt.mp cq17)])).symm)

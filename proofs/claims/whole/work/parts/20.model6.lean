set_option maxHeartbeats 1000000 in
set_option maxRecDepth 100000 in
theorem c_X6_here (l : Launch) (G : GG) (b : Nat → Nat) (nw : Nat → Int32) (rd : Nat → Int32) (asd : Nat → Int32) (img : Nat → Int32) (kpt : Nat → Int32) (txt : Nat → Int32) (abv : Int64) (blw : Int64) (bds : Int32) (nos : Int32) (fls : Int32) (bgn : Int32) (tkn : Int32) (wrd : Int64) (vlu : Int32) (sts : Nat → Int32) (bst : Nat → Int32) (z : Nat) (pp : Nat) (hz : z ≤ 150) (hp : pp ≤ z) : CT l G yX6_here cX6_here 1 (some .int) 0 0 [.ref (b 0)] (mW G b nw rd asd img kpt txt (nI z) abv blw bds nos fls (nI pp) bgn tkn wrd vlu sts bst) (some (.int (hrM txt z pp))) (mW G b nw rd asd img kpt txt (nI z) abv blw bds nos fls (nI pp) bgn tkn wrd vlu sts bst) := by
  refine CT.mk (own := RX6) (la := [(0, .ref (b 0))]) (by decide) rfl (Nat.le_of_ble_eq_true rfl) rfl ?_
  intro p e s m args below meth c A Q E hA hw rt ls hl
  have hx := E.1
  have hb := E.2.1
  refine lv_aload_n hx hb dX6_here_0 rfl (lv_at hl 0 rfl) ?_
  refine x_get E hw fw_X6_92 0 rfl rfl dX6_here_1 ?_
  refine lv_aload_n hx hb dX6_here_4 rfl (lv_at hl 0 rfl) ?_
  refine x_get E hw fw_X6_89 0 rfl rfl dX6_here_5 ?_
  refine lv_icmp_ge (tgt := 23) hx hb dX6_here_8 rfl (fun cq8 => ?_) (fun cq8 => ?_)
  · skip
    have cq8 : z ≤ pp := (cv_le (a := z) (b := pp) rfl rfl (by omega) (by omega)).mp cq8
    refine lv_iconst (v := -1) hx hb dX6_here_23 rfl ?_
    exact x_iret E hA rt hw dX6_here_24 (by simp [hrM, cq8]) rfl
  · skip
    have cq8 : ¬ z ≤ pp := fun h => cq8 ((cv_le (a := z) (b := pp) rfl rfl (by omega) (by omega)).mpr h)
    refine lv_aload_n hx hb dX6_here_11 rfl (lv_at hl 0 rfl) ?_
    refine x_get E hw fw_X6_26 0 rfl rfl dX6_here_12 ?_
    refine lv_aload_n hx hb dX6_here_15 rfl (lv_at hl 0 rfl) ?_
    refine x_get E hw fw_X6_92 0 rfl rfl dX6_here_16 ?_
    refine x_iald E hw 6 rfl pp (rfl) (by omega) (by omega) dX6_here_19 ?_
    refine lv_goto (tgt := 24) hx hb dX6_here_20 rfl ?_
    exact x_iret E hA rt hw dX6_here_24 (by simp [hrM, cq8]) rfl
set_option maxHeartbeats 1000000 in
set_option maxRecDepth 100000 in
theorem c_X6_step (l : Launch) (G : GG) (b : Nat → Nat) (nw : Nat → Int32) (rd : Nat → Int32) (asd : Nat → Int32) (img : Nat → Int32) (kpt : Nat → Int32) (txt : Nat → Int32) (abv : Int64) (blw : Int64) (bds : Int32) (nos : Int32) (fls : Int32) (bgn : Int32) (tkn : Int32) (wrd : Int64) (vlu : Int32) (sts : Nat → Int32) (bst : Nat → Int32) (z : Nat) (pp : Nat) (hz : z ≤ 150) (hp : pp ≤ z) : CT l G yX6_step cX6_step 2 none 1 25 [.ref (b 0)] (mW G b nw rd asd img kpt txt (nI z) abv blw bds nos fls (nI pp) bgn tkn wrd vlu sts bst) none (mW G b nw rd asd img kpt txt (nI z) abv blw bds nos fls (nI (stM txt z pp).1) ((stM txt z pp).2.1) ((stM txt z pp).2.2.1) ((stM txt z pp).2.2.2.1) ((stM txt z pp).2.2.2.2) sts bst) := by
  refine CT.mk (own := RX6) (la := [(0, .ref (b 0))]) (by decide) rfl (Nat.le_of_ble_eq_true rfl) rfl ?_
  intro p e s m args below meth c A Q E hA hw rt ls hl
  have hx := E.1
  have hb := E.2.1
  have lp0 : ∀ (fuel : Nat), ∀ (q : Nat) (hqz : q ≤ z) (hsk : skM txt z (z - pp) pp = skM txt z (z - q) q), (z - q) < fuel → ∀ (H : Heap) (locs : List Loc) (ls : Array Slot), Wd G A s H locs (mW G b nw rd asd img kpt txt (nI z) abv blw bds nos fls (nI q) bgn tkn wrd vlu sts bst) → lv_has ls 2 [(0, .ref (b 0))] → W p l e (rmx 1 25) s m args below meth c H locs 0 0 Q (F0 m 0 ls []) := by
    intro fuel
    induction fuel with
    | zero => intro q hqz hsk hfu; exact absurd hfu (Nat.not_lt_zero _)
    | succ fuel ih0 =>
      intro q hqz hsk hfu H locs ls hw hl
      refine lv_aload_n hx hb dX6_step_0 rfl (lv_at hl 0 rfl) ?_
      refine x_callV (is := [0, 1, 2, 3, 4, 5, 6, 7, 8]) (q0 := 0) (As := []) (rest := []) (st1 := [.int (hrM txt z q)]) (ws' := mW G b nw rd asd img kpt txt (nI z) abv blw bds nos fls (nI q) bgn tkn wrd vlu sts bst) E (c_X6_here l G b nw rd asd img kpt txt abv blw bds nos fls bgn tkn wrd vlu sts bst z q (by omega) (by omega)) vw_X6_95 hw [0, 1, 2, 3, 4, 5, 6, 7, 8] rfl rfl rfl rfl rfl rfl rfl hl.1 rfl rfl (Nat.le_of_ble_eq_true rfl) ⟨Nat.le_of_ble_eq_true rfl, Nat.le_of_ble_eq_true rfl⟩ (Nat.zero_le _) (Nat.zero_le _) dX6_step_1 rfl rfl (fun H locs hw => ?_)
      refine lv_bipush (v := 32) hx hb dX6_step_4 rfl ?_
      refine lv_icmp_ne (tgt := 22) hx hb dX6_step_6 rfl (fun cq6 => ?_) (fun cq6 => ?_)
      · skip
        have hq : skM txt z (z - pp) pp = q := by rw [hsk, skM_end cq6]
        refine lv_aload_n hx hb dX6_step_22 rfl (lv_at hl 0 rfl) ?_
        refine lv_aload_n hx hb dX6_step_23 rfl (lv_at hl 0 rfl) ?_
        refine x_get E hw fw_X6_92 0 rfl rfl dX6_step_24 ?_
        refine x_put (ws' := mW G b nw rd asd img kpt txt (nI z) abv blw bds nos fls (nI q) (nI q) tkn wrd vlu sts bst) (ty := .int) E hw fw_X6_98 0 rfl rfl rfl (by decide +kernel) rfl rfl (Nat.le_of_ble_eq_true rfl) dX6_step_27 rfl (fun H locs hw => ?_)
        refine lv_aload_n hx hb dX6_step_30 rfl (lv_at hl 0 rfl) ?_
        refine lv_lconst (v := 0) hx hb dX6_step_31 rfl ?_
        refine x_put (ws' := mW G b nw rd asd img kpt txt (nI z) abv blw bds nos fls (nI q) (nI q) tkn 0 vlu sts bst) (ty := .long) E hw fw_X6_101 0 rfl rfl rfl (by decide +kernel) rfl rfl (Nat.le_of_ble_eq_true rfl) dX6_step_32 rfl (fun H locs hw => ?_)
        refine lv_aload_n hx hb dX6_step_35 rfl (lv_at hl 0 rfl) ?_
        refine lv_iconst (v := 0) hx hb dX6_step_36 rfl ?_
        refine x_put (ws' := mW G b nw rd asd img kpt txt (nI z) abv blw bds nos fls (nI q) (nI q) tkn 0 0 sts bst) (ty := .int) E hw fw_X6_104 0 rfl rfl rfl (by decide +kernel) rfl rfl (Nat.le_of_ble_eq_true rfl) dX6_step_37 rfl (fun H locs hw => ?_)
        refine lv_aload_n hx hb dX6_step_40 rfl (lv_at hl 0 rfl) ?_
        refine x_callV (is := [0, 1, 2, 3, 4, 5, 6, 7, 8]) (q0 := 0) (As := []) (rest := []) (st1 := [.int (hrM txt z q)]) (ws' := mW G b nw rd asd img kpt txt (nI z) abv blw bds nos fls (nI q) (nI q) tkn 0 0 sts bst) E (c_X6_here l G b nw rd asd img kpt txt abv blw bds nos fls (nI q) tkn 0 0 sts bst z q (by omega) (by omega)) vw_X6_95 hw [0, 1, 2, 3, 4, 5, 6, 7, 8] rfl rfl rfl rfl rfl rfl rfl hl.1 rfl rfl (Nat.le_of_ble_eq_true rfl) ⟨Nat.le_of_ble_eq_true rfl, Nat.le_of_ble_eq_true rfl⟩ (Nat.zero_le _) (Nat.zero_le _) dX6_step_41 rfl rfl (fun H locs hw => ?_)
        refine lv_istore_n (lv' := [(1, .int (hrM txt z q)), (0, .ref (b 0))]) hx hb dX6_step_44 rfl hl (by decide) rfl (fun ls hl => ?_)
        refine lv_aload_n hx hb dX6_step_45 rfl (lv_at hl 1 rfl) ?_
        refine lv_iload_n hx hb dX6_step_46 rfl (lv_at hl 0 rfl) ?_
        refine lv_if_ge (tgt := 54) hx hb dX6_step_47 rfl (fun cq47 => ?_) (fun cq47 => ?_)
        · skip
          have hqlt : q < z := hr_lt (txt := txt) (fun e9 => absurd cq47 (by rw [e9]; decide))
          refine lv_iload_n hx hb dX6_step_54 rfl (lv_at hl 0 rfl) ?_
          refine lv_i2l (v := (hrM txt z q).toInt64) hx hb dX6_step_55 rfl ?_
          refine lv_ldc2 hx hb E.2.2.2.1 (E.2.2.2.2.2.2.w kc_X6_107) dX6_step_56 ?_
          refine lv_ldc2 hx hb E.2.2.2.1 (E.2.2.2.2.2.2.w kc_X6_109) dX6_step_59 ?_
          refine x_callS (is := []) (As := [.long ((hrM txt z q).toInt64), .long 97, .long 122]) (rest := [.ref (b 0)]) (st1 := [.int (bI (inL ((hrM txt z q).toInt64) 97 122)), .ref (b 0)]) (ws' := mW G b nw rd asd img kpt txt (nI z) abv blw bds nos fls (nI q) (nI q) tkn 0 0 sts bst) E (c_X6_in l G ((hrM txt z q).toInt64) 97 122) sw_X6_55 hw [] rfl rfl rfl rfl hl.1 rfl rfl (Nat.le_of_ble_eq_true rfl) ⟨Nat.le_of_ble_eq_true rfl, Nat.le_of_ble_eq_true rfl⟩ (Nat.zero_le _) (Nat.zero_le _) dX6_step_62 rfl rfl (fun H locs hw => ?_)
          refine x_topi (y := bI (inI (hrM txt z q) 97 122)) (congrArg bI (inL_I (hrM txt z q) 97 122 rfl rfl)) ?_
          refine lv_if_eq (tgt := 72) hx hb dX6_step_65 rfl (fun cq65 => ?_) (fun cq65 => ?_)
          · skip
            have cq65 := bI_0.mp cq65
            refine lv_iload_n hx hb dX6_step_72 rfl (lv_at hl 0 rfl) ?_
            refine lv_i2l (v := (hrM txt z q).toInt64) hx hb dX6_step_73 rfl ?_
            refine lv_ldc2 hx hb E.2.2.2.1 (E.2.2.2.2.2.2.w kc_X6_111) dX6_step_74 ?_
            refine lv_ldc2 hx hb E.2.2.2.1 (E.2.2.2.2.2.2.w kc_X6_113) dX6_step_77 ?_
            refine x_callS (is := []) (As := [.long ((hrM txt z q).toInt64), .long 48, .long 57]) (rest := [.ref (b 0)]) (st1 := [.int (bI (inL ((hrM txt z q).toInt64) 48 57)), .ref (b 0)]) (ws' := mW G b nw rd asd img kpt txt (nI z) abv blw bds nos fls (nI q) (nI q) tkn 0 0 sts bst) E (c_X6_in l G ((hrM txt z q).toInt64) 48 57) sw_X6_55 hw [] rfl rfl rfl rfl hl.1 rfl rfl (Nat.le_of_ble_eq_true rfl) ⟨Nat.le_of_ble_eq_true rfl, Nat.le_of_ble_eq_true rfl⟩ (Nat.zero_le _) (Nat.zero_le _) dX6_step_80 rfl rfl (fun H locs hw => ?_)
            refine x_topi (y := bI (inI (hrM txt z q) 48 57)) (congrArg bI (inL_I (hrM txt z q) 48 57 rfl rfl)) ?_
            refine lv_if_eq (tgt := 90) hx hb dX6_step_83 rfl (fun cq83 => ?_) (fun cq83 => ?_)
            · skip
              have cq83 := bI_0.mp cq83
              refine lv_iload_n hx hb dX6_step_90 rfl (lv_at hl 0 rfl) ?_
              refine lv_bipush (v := 59) hx hb dX6_step_91 rfl ?_
              refine lv_icmp_ne (tgt := 100) hx hb dX6_step_93 rfl (fun cq93 => ?_) (fun cq93 => ?_)
              · skip
                refine lv_iconst (v := 4) hx hb dX6_step_100 rfl ?_
                refine x_put (ws' := mW G b nw rd asd img kpt txt (nI z) abv blw bds nos fls (nI q) (nI q) 4 0 0 sts bst) (ty := .int) E hw fw_X6_115 0 rfl rfl rfl (by decide +kernel) rfl rfl (Nat.le_of_ble_eq_true rfl) dX6_step_101 rfl (fun H locs hw => ?_)
                refine lv_aload_n hx hb dX6_step_104 rfl (lv_at hl 1 rfl) ?_
                refine x_get E hw fw_X6_115 0 rfl rfl dX6_step_105 ?_
                refine lv_iconst (v := 2) hx hb dX6_step_108 rfl ?_
                refine lv_icmp_le (tgt := 122) hx hb dX6_step_109 rfl (fun cq109 => ?_) (fun cq109 => ?_)
                · skip
                  exact absurd cq109 (by decide)
                · skip
                  refine lv_aload_n hx hb dX6_step_112 rfl (lv_at hl 1 rfl) ?_
                  refine lv_dup hx hb dX6_step_113 rfl ?_
                  refine x_get E hw fw_X6_92 0 rfl rfl dX6_step_114 ?_
                  refine lv_iconst (v := 1) hx hb dX6_step_117 rfl ?_
                  refine lv_iadd hx hb dX6_step_118 ?_
                  refine x_topi (y := nI (q + 1)) ((ix_add (a := q) (b := 1) rfl rfl)) ?_
                  refine x_put (ws' := mW G b nw rd asd img kpt txt (nI z) abv blw bds nos fls (nI (q + 1)) (nI q) 4 0 0 sts bst) (ty := .int) E hw fw_X6_92 0 rfl rfl rfl (by decide +kernel) rfl rfl (Nat.le_of_ble_eq_true rfl) dX6_step_119 rfl (fun H locs hw => ?_)
                  refine lv_aload_n hx hb dX6_step_122 rfl (lv_at hl 1 rfl) ?_
                  refine x_get E hw fw_X6_115 0 rfl rfl dX6_step_123 ?_
                  refine lv_iconst (v := 1) hx hb dX6_step_126 rfl ?_
                  refine lv_icmp_ne (tgt := 198) hx hb dX6_step_127 rfl (fun cq127 => ?_) (fun cq127 => ?_)
                  · skip
                    refine lv_aload_n hx hb dX6_step_198 rfl (lv_at hl 1 rfl) ?_
                    refine x_get E hw fw_X6_115 0 rfl rfl dX6_step_199 ?_
                    refine lv_iconst (v := 2) hx hb dX6_step_202 rfl ?_
                    refine lv_icmp_ne (tgt := 275) hx hb dX6_step_203 rfl (fun cq203 => ?_) (fun cq203 => ?_)
                    · skip
                      refine lv_aload_n hx hb dX6_step_275 rfl (lv_at hl 1 rfl) ?_
                      refine lv_aload_n hx hb dX6_step_276 rfl (lv_at hl 1 rfl) ?_
                      refine x_get E hw fw_X6_115 0 rfl rfl dX6_step_277 ?_
                      refine lv_iconst (v := 2) hx hb dX6_step_280 rfl ?_
                      refine lv_icmp_ne (tgt := 301) hx hb dX6_step_281 rfl (fun cq281 => ?_) (fun cq281 => ?_)
                      · skip
                        refine lv_aload_n hx hb dX6_step_301 rfl (lv_at hl 1 rfl) ?_
                        refine x_get E hw fw_X6_115 0 rfl rfl dX6_step_302 ?_
                        refine x_put (ws' := mW G b nw rd asd img kpt txt (nI z) abv blw bds nos fls (nI (q + 1)) (nI q) 4 0 0 sts bst) (ty := .int) E hw fw_X6_115 0 rfl rfl rfl (by decide +kernel) rfl rfl (Nat.le_of_ble_eq_true rfl) dX6_step_305 rfl (fun H locs hw => ?_)
                        exact x_vret E hA rt hw dX6_step_308 (by rw [stM, hq, stQ, if_pos cq47, if_neg (by rw [cq65]; decide), if_neg (by rw [cq83]; decide), if_neg cq93])
                      · skip
                        exact absurd cq281 (by decide)
                    · skip
                      exact absurd cq203 (by decide)
                  · skip
                    exact absurd cq127 (by decide)
              · skip
                refine lv_iconst (v := 3) hx hb dX6_step_96 rfl ?_
                refine lv_goto (tgt := 101) hx hb dX6_step_97 rfl ?_
                refine x_put (ws' := mW G b nw rd asd img kpt txt (nI z) abv blw bds nos fls (nI q) (nI q) 3 0 0 sts bst) (ty := .int) E hw fw_X6_115 0 rfl rfl rfl (by decide +kernel) rfl rfl (Nat.le_of_ble_eq_true rfl) dX6_step_101 rfl (fun H locs hw => ?_)
                refine lv_aload_n hx hb dX6_step_104 rfl (lv_at hl 1 rfl) ?_
                refine x_get E hw fw_X6_115 0 rfl rfl dX6_step_105 ?_
                refine lv_iconst (v := 2) hx hb dX6_step_108 rfl ?_
                refine lv_icmp_le (tgt := 122) hx hb dX6_step_109 rfl (fun cq109 => ?_) (fun cq109 => ?_)
                · skip
                  exact absurd cq109 (by decide)
                · skip
                  refine lv_aload_n hx hb dX6_step_112 rfl (lv_at hl 1 rfl) ?_
                  refine lv_dup hx hb dX6_step_113 rfl ?_
                  refine x_get E hw fw_X6_92 0 rfl rfl dX6_step_114 ?_
                  refine lv_iconst (v := 1) hx hb dX6_step_117 rfl ?_
                  refine lv_iadd hx hb dX6_step_118 ?_
                  refine x_topi (y := nI (q + 1)) ((ix_add (a := q) (b := 1) rfl rfl)) ?_
                  refine x_put (ws' := mW G b nw rd asd img kpt txt (nI z) abv blw bds nos fls (nI (q + 1)) (nI q) 3 0 0 sts bst) (ty := .int) E hw fw_X6_92 0 rfl rfl rfl (by decide +kernel) rfl rfl (Nat.le_of_ble_eq_true rfl) dX6_step_119 rfl (fun H locs hw => ?_)
                  refine lv_aload_n hx hb dX6_step_122 rfl (lv_at hl 1 rfl) ?_
                  refine x_get E hw fw_X6_115 0 rfl rfl dX6_step_123 ?_
                  refine lv_iconst (v := 1) hx hb dX6_step_126 rfl ?_
                  refine lv_icmp_ne (tgt := 198) hx hb dX6_step_127 rfl (fun cq127 => ?_) (fun cq127 => ?_)
                  · skip
                    refine lv_aload_n hx hb dX6_step_198 rfl (lv_at hl 1 rfl) ?_
                    refine x_get E hw fw_X6_115 0 rfl rfl dX6_step_199 ?_
                    refine lv_iconst (v := 2) hx hb dX6_step_202 rfl ?_
                    refine lv_icmp_ne (tgt := 275) hx hb dX6_step_203 rfl (fun cq203 => ?_) (fun cq203 => ?_)
                    · skip
                      refine lv_aload_n hx hb dX6_step_275 rfl (lv_at hl 1 rfl) ?_
                      refine lv_aload_n hx hb dX6_step_276 rfl (lv_at hl 1 rfl) ?_
                      refine x_get E hw fw_X6_115 0 rfl rfl dX6_step_277 ?_
                      refine lv_iconst (v := 2) hx hb dX6_step_280 rfl ?_
                      refine lv_icmp_ne (tgt := 301) hx hb dX6_step_281 rfl (fun cq281 => ?_) (fun cq281 => ?_)
                      · skip
                        refine lv_aload_n hx hb dX6_step_301 rfl (lv_at hl 1 rfl) ?_
                        refine x_get E hw fw_X6_115 0 rfl rfl dX6_step_302 ?_
                        refine x_put (ws' := mW G b nw rd asd img kpt txt (nI z) abv blw bds nos fls (nI (q + 1)) (nI q) 3 0 0 sts bst) (ty := .int) E hw fw_X6_115 0 rfl rfl rfl (by decide +kernel) rfl rfl (Nat.le_of_ble_eq_true rfl) dX6_step_305 rfl (fun H locs hw => ?_)
                        exact x_vret E hA rt hw dX6_step_308 (by rw [stM, hq, stQ, if_pos cq47, if_neg (by rw [cq65]; decide), if_neg (by rw [cq83]; decide), if_pos cq93])
                      · skip
                        exact absurd cq281 (by decide)
                    · skip
                      exact absurd cq203 (by decide)
                  · skip
                    exact absurd cq127 (by decide)
            · skip
              have cq83 := bI_n0.mp cq83
              refine lv_iconst (v := 2) hx hb dX6_step_86 rfl ?_
              refine lv_goto (tgt := 101) hx hb dX6_step_87 rfl ?_
              refine x_put (ws' := mW G b nw rd asd img kpt txt (nI z) abv blw bds nos fls (nI q) (nI q) 2 0 0 sts bst) (ty := .int) E hw fw_X6_115 0 rfl rfl rfl (by decide +kernel) rfl rfl (Nat.le_of_ble_eq_true rfl) dX6_step_101 rfl (fun H locs hw => ?_)
              refine lv_aload_n hx hb dX6_step_104 rfl (lv_at hl 1 rfl) ?_
              refine x_get E hw fw_X6_115 0 rfl rfl dX6_step_105 ?_
              refine lv_iconst (v := 2) hx hb dX6_step_108 rfl ?_
              refine lv_icmp_le (tgt := 122) hx hb dX6_step_109 rfl (fun cq109 => ?_) (fun cq109 => ?_)
              · skip
                refine lv_aload_n hx hb dX6_step_122 rfl (lv_at hl 1 rfl) ?_
                refine x_get E hw fw_X6_115 0 rfl rfl dX6_step_123 ?_
                refine lv_iconst (v := 1) hx hb dX6_step_126 rfl ?_
                refine lv_icmp_ne (tgt := 198) hx hb dX6_step_127 rfl (fun cq127 => ?_) (fun cq127 => ?_)
                · skip
                  have lp198 : ∀ (fuel : Nat), ∀ (e_ : Nat) (vv : Int32) (hez : e_ ≤ z) (hqe : q ≤ e_) (hvl : vlM txt z q (z - q) 0 q = vlM txt z q (z - e_) vv e_), (z - e_) < fuel → ∀ (H : Heap) (locs : List Loc) (ls : Array Slot), Wd G A s H locs (mW G b nw rd asd img kpt txt (nI z) abv blw bds nos fls (nI e_) (nI q) 2 0 vv sts bst) → lv_has ls 2 [(0, .ref (b 0)), (1, .int (hrM txt z q))] → W p l e (rmx 1 25) s m args below meth c H locs 0 0 Q (F0 m 198 ls []) := by
                    intro fuel
                    induction fuel with
                    | zero => intro e_ vv hez hqe hvl hfu; exact absurd hfu (Nat.not_lt_zero _)
                    | succ fuel ih198 =>
                      intro e_ vv hez hqe hvl hfu H locs ls hw hl
                      refine lv_aload_n hx hb dX6_step_198 rfl (lv_at hl 0 rfl) ?_
                      refine x_get E hw fw_X6_115 0 rfl rfl dX6_step_199 ?_
                      refine lv_iconst (v := 2) hx hb dX6_step_202 rfl ?_
                      refine lv_icmp_ne (tgt := 275) hx hb dX6_step_203 rfl (fun cq203 => ?_) (fun cq203 => ?_)
                      · skip
                        exact absurd rfl cq203
                      · skip
                        refine lv_aload_n hx hb dX6_step_206 rfl (lv_at hl 0 rfl) ?_
                        refine x_callV (is := [0, 1, 2, 3, 4, 5, 6, 7, 8]) (q0 := 0) (As := []) (rest := []) (st1 := [.int (hrM txt z e_)]) (ws' := mW G b nw rd asd img kpt txt (nI z) abv blw bds nos fls (nI e_) (nI q) 2 0 vv sts bst) E (c_X6_here l G b nw rd asd img kpt txt abv blw bds nos fls (nI q) 2 0 vv sts bst z e_ (by omega) (by omega)) vw_X6_95 hw [0, 1, 2, 3, 4, 5, 6, 7, 8] rfl rfl rfl rfl rfl rfl rfl hl.1 rfl rfl (Nat.le_of_ble_eq_true rfl) ⟨Nat.le_of_ble_eq_true rfl, Nat.le_of_ble_eq_true rfl⟩ (Nat.zero_le _) (Nat.zero_le _) dX6_step_207 rfl rfl (fun H locs hw => ?_)
                        refine lv_i2l (v := (hrM txt z e_).toInt64) hx hb dX6_step_210 rfl ?_
                        refine lv_ldc2 hx hb E.2.2.2.1 (E.2.2.2.2.2.2.w kc_X6_111) dX6_step_211 ?_
                        refine lv_ldc2 hx hb E.2.2.2.1 (E.2.2.2.2.2.2.w kc_X6_113) dX6_step_214 ?_
                        refine x_callS (is := []) (As := [.long ((hrM txt z e_).toInt64), .long 48, .long 57]) (rest := []) (st1 := [.int (bI (inL ((hrM txt z e_).toInt64) 48 57))]) (ws' := mW G b nw rd asd img kpt txt (nI z) abv blw bds nos fls (nI e_) (nI q) 2 0 vv sts bst) E (c_X6_in l G ((hrM txt z e_).toInt64) 48 57) sw_X6_55 hw [] rfl rfl rfl rfl hl.1 rfl rfl (Nat.le_of_ble_eq_true rfl) ⟨Nat.le_of_ble_eq_true rfl, Nat.le_of_ble_eq_true rfl⟩ (Nat.zero_le _) (Nat.zero_le _) dX6_step_217 rfl rfl (fun H locs hw => ?_)
                        refine x_topi (y := bI (inI (hrM txt z e_) 48 57)) (congrArg bI (inL_I (hrM txt z e_) 48 57 rfl rfl)) ?_
                        refine lv_if_eq (tgt := 275) hx hb dX6_step_220 rfl (fun cq220 => ?_) (fun cq220 => ?_)
                        · skip
                          have cq220 := bI_0.mp cq220
                          refine lv_aload_n hx hb dX6_step_275 rfl (lv_at hl 0 rfl) ?_
                          refine lv_aload_n hx hb dX6_step_276 rfl (lv_at hl 0 rfl) ?_
                          refine x_get E hw fw_X6_115 0 rfl rfl dX6_step_277 ?_
                          refine lv_iconst (v := 2) hx hb dX6_step_280 rfl ?_
                          refine lv_icmp_ne (tgt := 301) hx hb dX6_step_281 rfl (fun cq281 => ?_) (fun cq281 => ?_)
                          · skip
                            exact absurd rfl cq281
                          · skip
                            refine lv_aload_n hx hb dX6_step_284 rfl (lv_at hl 0 rfl) ?_
                            refine x_get E hw fw_X6_92 0 rfl rfl dX6_step_285 ?_
                            refine lv_aload_n hx hb dX6_step_288 rfl (lv_at hl 0 rfl) ?_
                            refine x_get E hw fw_X6_98 0 rfl rfl dX6_step_289 ?_
                            refine lv_isub hx hb dX6_step_292 ?_
                            refine x_topi (y := nI (e_ - q)) (pk_sub hqe) ?_
                            refine lv_iconst (v := 2) hx hb dX6_step_293 rfl ?_
                            refine lv_icmp_le (tgt := 301) hx hb dX6_step_294 rfl (fun cq294 => ?_) (fun cq294 => ?_)
                            · skip
                              have cq294 : e_ - q ≤ 2 := (cv_le (a := e_ - q) (b := 2) rfl rfl (by omega) (by omega)).mp cq294
                              refine lv_aload_n hx hb dX6_step_301 rfl (lv_at hl 0 rfl) ?_
                              refine x_get E hw fw_X6_115 0 rfl rfl dX6_step_302 ?_
                              refine x_put (ws' := mW G b nw rd asd img kpt txt (nI z) abv blw bds nos fls (nI e_) (nI q) 2 0 vv sts bst) (ty := .int) E hw fw_X6_115 0 rfl rfl rfl (by decide +kernel) rfl rfl (Nat.le_of_ble_eq_true rfl) dX6_step_305 rfl (fun H locs hw => ?_)
                              exact x_vret E hA rt hw dX6_step_308 (by rw [stM, hq, stQ, if_pos cq47, if_neg (by rw [cq65]; decide), if_pos cq83, hvl, vlM_end cq220]; simp [cq294])
                            · skip
                              have cq294 : ¬ e_ - q ≤ 2 := fun h => cq294 ((cv_le (a := e_ - q) (b := 2) rfl rfl (by omega) (by omega)).mpr h)
                              refine lv_iconst (v := 4) hx hb dX6_step_297 rfl ?_
                              refine lv_goto (tgt := 305) hx hb dX6_step_298 rfl ?_
                              refine x_put (ws' := mW G b nw rd asd img kpt txt (nI z) abv blw bds nos fls (nI e_) (nI q) 4 0 vv sts bst) (ty := .int) E hw fw_X6_115 0 rfl rfl rfl (by decide +kernel) rfl rfl (Nat.le_of_ble_eq_true rfl) dX6_step_305 rfl (fun H locs hw => ?_)
                              exact x_vret E hA rt hw dX6_step_308 (by rw [stM, hq, stQ, if_pos cq47, if_neg (by rw [cq65]; decide), if_pos cq83, hvl, vlM_end cq220]; simp [cq294])
                        · skip
                          have cq220 := bI_n0.mp cq220
                          refine lv_aload_n hx hb dX6_step_223 rfl (lv_at hl 0 rfl) ?_
                          refine lv_aload_n hx hb dX6_step_224 rfl (lv_at hl 0 rfl) ?_
                          refine x_get E hw fw_X6_92 0 rfl rfl dX6_step_225 ?_
                          refine lv_aload_n hx hb dX6_step_228 rfl (lv_at hl 0 rfl) ?_
                          refine x_get E hw fw_X6_98 0 rfl rfl dX6_step_229 ?_
                          refine lv_isub hx hb dX6_step_232 ?_
                          refine x_topi (y := nI (e_ - q)) (pk_sub hqe) ?_
                          refine lv_iconst (v := 2) hx hb dX6_step_233 rfl ?_
                          refine lv_icmp_ge (tgt := 255) hx hb dX6_step_234 rfl (fun cq234 => ?_) (fun cq234 => ?_)
                          · skip
                            have cq234 : 2 ≤ e_ - q := (cv_le (a := 2) (b := e_ - q) rfl rfl (by omega) (by omega)).mp cq234
                            refine lv_aload_n hx hb dX6_step_255 rfl (lv_at hl 0 rfl) ?_
                            refine x_get E hw fw_X6_104 0 rfl rfl dX6_step_256 ?_
                            refine x_put (ws' := mW G b nw rd asd img kpt txt (nI z) abv blw bds nos fls (nI e_) (nI q) 2 0 vv sts bst) (ty := .int) E hw fw_X6_104 0 rfl rfl rfl (by decide +kernel) rfl rfl (Nat.le_of_ble_eq_true rfl) dX6_step_259 rfl (fun H locs hw => ?_)
                            refine lv_aload_n hx hb dX6_step_262 rfl (lv_at hl 0 rfl) ?_
                            refine lv_dup hx hb dX6_step_263 rfl ?_
                            refine x_get E hw fw_X6_92 0 rfl rfl dX6_step_264 ?_
                            refine lv_iconst (v := 1) hx hb dX6_step_267 rfl ?_
                            refine lv_iadd hx hb dX6_step_268 ?_
                            refine x_topi (y := nI (e_ + 1)) ((ix_add (a := e_) (b := 1) rfl rfl)) ?_
                            refine x_put (ws' := mW G b nw rd asd img kpt txt (nI z) abv blw bds nos fls (nI (e_ + 1)) (nI q) 2 0 vv sts bst) (ty := .int) E hw fw_X6_92 0 rfl rfl rfl (by decide +kernel) rfl rfl (Nat.le_of_ble_eq_true rfl) dX6_step_269 rfl (fun H locs hw => ?_)
                            refine lv_goto (tgt := 198) hx hb dX6_step_272 rfl ?_
                            exact ih198 (e_ + 1) vv (by have := in_lt (by decide) cq220; omega) (by omega) (by rw [hvl, vlM_step cq220]; simp [cq234]) (by have := in_lt (by decide) cq220; omega) _ _ _ hw (lv_sub hl [0, 1] rfl)
                          · skip
                            have cq234 : ¬ 2 ≤ e_ - q := fun h => cq234 ((cv_le (a := 2) (b := e_ - q) rfl rfl (by omega) (by omega)).mpr h)
                            refine lv_bipush (v := 10) hx hb dX6_step_237 rfl ?_
                            refine lv_aload_n hx hb dX6_step_239 rfl (lv_at hl 0 rfl) ?_
                            refine x_get E hw fw_X6_104 0 rfl rfl dX6_step_240 ?_
                            refine lv_imul hx hb dX6_step_243 ?_
                            refine lv_aload_n hx hb dX6_step_244 rfl (lv_at hl 0 rfl) ?_
                            refine x_callV (is := [0, 1, 2, 3, 4, 5, 6, 7, 8]) (q0 := 0) (As := []) (rest := [.int (10 * vv), .ref (b 0)]) (st1 := [.int (hrM txt z e_), .int (10 * vv), .ref (b 0)]) (ws' := mW G b nw rd asd img kpt txt (nI z) abv blw bds nos fls (nI e_) (nI q) 2 0 vv sts bst) E (c_X6_here l G b nw rd asd img kpt txt abv blw bds nos fls (nI q) 2 0 vv sts bst z e_ (by omega) (by omega)) vw_X6_95 hw [0, 1, 2, 3, 4, 5, 6, 7, 8] rfl rfl rfl rfl rfl rfl rfl hl.1 rfl rfl (Nat.le_of_ble_eq_true rfl) ⟨Nat.le_of_ble_eq_true rfl, Nat.le_of_ble_eq_true rfl⟩ (Nat.zero_le _) (Nat.zero_le _) dX6_step_245 rfl rfl (fun H locs hw => ?_)
                            refine lv_iadd hx hb dX6_step_248 ?_
                            refine lv_bipush (v := 48) hx hb dX6_step_249 rfl ?_
                            refine lv_isub hx hb dX6_step_251 ?_
                            refine lv_goto (tgt := 259) hx hb dX6_step_252 rfl ?_
                            refine x_put (ws' := mW G b nw rd asd img kpt txt (nI z) abv blw bds nos fls (nI e_) (nI q) 2 0 (((10 * vv) + (hrM txt z e_)) - 48) sts bst) (ty := .int) E hw fw_X6_104 0 rfl rfl rfl (by decide +kernel) rfl rfl (Nat.le_of_ble_eq_true rfl) dX6_step_259 rfl (fun H locs hw => ?_)
                            refine lv_aload_n hx hb dX6_step_262 rfl (lv_at hl 0 rfl) ?_
                            refine lv_dup hx hb dX6_step_263 rfl ?_
                            refine x_get E hw fw_X6_92 0 rfl rfl dX6_step_264 ?_
                            refine lv_iconst (v := 1) hx hb dX6_step_267 rfl ?_
                            refine lv_iadd hx hb dX6_step_268 ?_
                            refine x_topi (y := nI (e_ + 1)) ((ix_add (a := e_) (b := 1) rfl rfl)) ?_
                            refine x_put (ws' := mW G b nw rd asd img kpt txt (nI z) abv blw bds nos fls (nI (e_ + 1)) (nI q) 2 0 (((10 * vv) + (hrM txt z e_)) - 48) sts bst) (ty := .int) E hw fw_X6_92 0 rfl rfl rfl (by decide +kernel) rfl rfl (Nat.le_of_ble_eq_true rfl) dX6_step_269 rfl (fun H locs hw => ?_)
                            refine lv_goto (tgt := 198) hx hb dX6_step_272 rfl ?_
                            exact ih198 (e_ + 1) (((10 * vv) + (hrM txt z e_)) - 48) (by have := in_lt (by decide) cq220; omega) (by omega) (by rw [hvl, vlM_step cq220]; simp [cq234]) (by have := in_lt (by decide) cq220; omega) _ _ _ hw (lv_sub hl [0, 1] rfl)
                  exact lp198 (z - q + 1) q 0 (by omega) (by omega) (rfl) (by omega) _ _ _ hw (lv_sub hl [1, 0] rfl)
                · skip
                  exact absurd cq127 (by decide)
              · skip
                exact absurd (by decide) cq109
          · skip
            have cq65 := bI_n0.mp cq65
            refine lv_iconst (v := 1) hx hb dX6_step_68 rfl ?_
            refine lv_goto (tgt := 101) hx hb dX6_step_69 rfl ?_
            refine x_put (ws' := mW G b nw rd asd img kpt txt (nI z) abv blw bds nos fls (nI q) (nI q) 1 0 0 sts bst) (ty := .int) E hw fw_X6_115 0 rfl rfl rfl (by decide +kernel) rfl rfl (Nat.le_of_ble_eq_true rfl) dX6_step_101 rfl (fun H locs hw => ?_)
            refine lv_aload_n hx hb dX6_step_104 rfl (lv_at hl 1 rfl) ?_
            refine x_get E hw fw_X6_115 0 rfl rfl dX6_step_105 ?_
            refine lv_iconst (v := 2) hx hb dX6_step_108 rfl ?_
            refine lv_icmp_le (tgt := 122) hx hb dX6_step_109 rfl (fun cq109 => ?_) (fun cq109 => ?_)
            · skip
              have lp122 : ∀ (fuel : Nat), ∀ (e_ : Nat) (wv : Int64) (hez : e_ ≤ z) (hqe : q ≤ e_) (hwl : wlM txt z q (z - q) 0 q = wlM txt z q (z - e_) wv e_), (z - e_) < fuel → ∀ (H : Heap) (locs : List Loc) (ls : Array Slot), Wd G A s H locs (mW G b nw rd asd img kpt txt (nI z) abv blw bds nos fls (nI e_) (nI q) 1 wv 0 sts bst) → lv_has ls 2 [(0, .ref (b 0)), (1, .int (hrM txt z q))] → W p l e (rmx 1 25) s m args below meth c H locs 0 0 Q (F0 m 122 ls []) := by
                intro fuel
                induction fuel with
                | zero => intro e_ wv hez hqe hwl hfu; exact absurd hfu (Nat.not_lt_zero _)
                | succ fuel ih122 =>
                  intro e_ wv hez hqe hwl hfu H locs ls hw hl
                  refine lv_aload_n hx hb dX6_step_122 rfl (lv_at hl 0 rfl) ?_
                  refine x_get E hw fw_X6_115 0 rfl rfl dX6_step_123 ?_
                  refine lv_iconst (v := 1) hx hb dX6_step_126 rfl ?_
                  refine lv_icmp_ne (tgt := 198) hx hb dX6_step_127 rfl (fun cq127 => ?_) (fun cq127 => ?_)
                  · skip
                    exact absurd rfl cq127
                  · skip
                    refine lv_aload_n hx hb dX6_step_130 rfl (lv_at hl 0 rfl) ?_
                    refine x_callV (is := [0, 1, 2, 3, 4, 5, 6, 7, 8]) (q0 := 0) (As := []) (rest := []) (st1 := [.int (hrM txt z e_)]) (ws' := mW G b nw rd asd img kpt txt (nI z) abv blw bds nos fls (nI e_) (nI q) 1 wv 0 sts bst) E (c_X6_here l G b nw rd asd img kpt txt abv blw bds nos fls (nI q) 1 wv 0 sts bst z e_ (by omega) (by omega)) vw_X6_95 hw [0, 1, 2, 3, 4, 5, 6, 7, 8] rfl rfl rfl rfl rfl rfl rfl hl.1 rfl rfl (Nat.le_of_ble_eq_true rfl) ⟨Nat.le_of_ble_eq_true rfl, Nat.le_of_ble_eq_true rfl⟩ (Nat.zero_le _) (Nat.zero_le _) dX6_step_131 rfl rfl (fun H locs hw => ?_)
                    refine lv_i2l (v := (hrM txt z e_).toInt64) hx hb dX6_step_134 rfl ?_
                    refine lv_ldc2 hx hb E.2.2.2.1 (E.2.2.2.2.2.2.w kc_X6_107) dX6_step_135 ?_
                    refine lv_ldc2 hx hb E.2.2.2.1 (E.2.2.2.2.2.2.w kc_X6_109) dX6_step_138 ?_
                    refine x_callS (is := []) (As := [.long ((hrM txt z e_).toInt64), .long 97, .long 122]) (rest := []) (st1 := [.int (bI (inL ((hrM txt z e_).toInt64) 97 122))]) (ws' := mW G b nw rd asd img kpt txt (nI z) abv blw bds nos fls (nI e_) (nI q) 1 wv 0 sts bst) E (c_X6_in l G ((hrM txt z e_).toInt64) 97 122) sw_X6_55 hw [] rfl rfl rfl rfl hl.1 rfl rfl (Nat.le_of_ble_eq_true rfl) ⟨Nat.le_of_ble_eq_true rfl, Nat.le_of_ble_eq_true rfl⟩ (Nat.zero_le _) (Nat.zero_le _) dX6_step_141 rfl rfl (fun H locs hw => ?_)
                    refine x_topi (y := bI (inI (hrM txt z e_) 97 122)) (congrArg bI (inL_I (hrM txt z e_) 97 122 rfl rfl)) ?_
                    refine lv_if_eq (tgt := 198) hx hb dX6_step_144 rfl (fun cq144 => ?_) (fun cq144 => ?_)
                    · skip
                      have cq144 := bI_0.mp cq144
                      refine lv_aload_n hx hb dX6_step_198 rfl (lv_at hl 0 rfl) ?_
                      refine x_get E hw fw_X6_115 0 rfl rfl dX6_step_199 ?_
                      refine lv_iconst (v := 2) hx hb dX6_step_202 rfl ?_
                      refine lv_icmp_ne (tgt := 275) hx hb dX6_step_203 rfl (fun cq203 => ?_) (fun cq203 => ?_)
                      · skip
                        refine lv_aload_n hx hb dX6_step_275 rfl (lv_at hl 0 rfl) ?_
                        refine lv_aload_n hx hb dX6_step_276 rfl (lv_at hl 0 rfl) ?_
                        refine x_get E hw fw_X6_115 0 rfl rfl dX6_step_277 ?_
                        refine lv_iconst (v := 2) hx hb dX6_step_280 rfl ?_
                        refine lv_icmp_ne (tgt := 301) hx hb dX6_step_281 rfl (fun cq281 => ?_) (fun cq281 => ?_)
                        · skip
                          refine lv_aload_n hx hb dX6_step_301 rfl (lv_at hl 0 rfl) ?_
                          refine x_get E hw fw_X6_115 0 rfl rfl dX6_step_302 ?_
                          refine x_put (ws' := mW G b nw rd asd img kpt txt (nI z) abv blw bds nos fls (nI e_) (nI q) 1 wv 0 sts bst) (ty := .int) E hw fw_X6_115 0 rfl rfl rfl (by decide +kernel) rfl rfl (Nat.le_of_ble_eq_true rfl) dX6_step_305 rfl (fun H locs hw => ?_)
                          exact x_vret E hA rt hw dX6_step_308 (by rw [stM, hq, stQ, if_pos cq47, if_pos cq65, hwl, wlM_end cq144])
                        · skip
                          exact absurd cq281 (by decide)
                      · skip
                        exact absurd cq203 (by decide)
                    · skip
                      have cq144 := bI_n0.mp cq144
                      refine lv_aload_n hx hb dX6_step_147 rfl (lv_at hl 0 rfl) ?_
                      refine lv_aload_n hx hb dX6_step_148 rfl (lv_at hl 0 rfl) ?_
                      refine x_get E hw fw_X6_92 0 rfl rfl dX6_step_149 ?_
                      refine lv_aload_n hx hb dX6_step_152 rfl (lv_at hl 0 rfl) ?_
                      refine x_get E hw fw_X6_98 0 rfl rfl dX6_step_153 ?_
                      refine lv_isub hx hb dX6_step_156 ?_
                      refine x_topi (y := nI (e_ - q)) (pk_sub hqe) ?_
                      refine lv_bipush (v := 6) hx hb dX6_step_157 rfl ?_
                      refine lv_icmp_ge (tgt := 179) hx hb dX6_step_159 rfl (fun cq159 => ?_) (fun cq159 => ?_)
                      · skip
                        have cq159 : 6 ≤ e_ - q := (cv_le (a := 6) (b := e_ - q) rfl rfl (by omega) (by omega)).mp cq159
                        refine lv_ldc2 hx hb E.2.2.2.1 (E.2.2.2.2.2.2.w kc_X6_120) dX6_step_179 ?_
                        refine x_put (ws' := mW G b nw rd asd img kpt txt (nI z) abv blw bds nos fls (nI e_) (nI q) 1 (-1) 0 sts bst) (ty := .long) E hw fw_X6_101 0 rfl rfl rfl (by decide +kernel) rfl rfl (Nat.le_of_ble_eq_true rfl) dX6_step_182 rfl (fun H locs hw => ?_)
                        refine lv_aload_n hx hb dX6_step_185 rfl (lv_at hl 0 rfl) ?_
                        refine lv_dup hx hb dX6_step_186 rfl ?_
                        refine x_get E hw fw_X6_92 0 rfl rfl dX6_step_187 ?_
                        refine lv_iconst (v := 1) hx hb dX6_step_190 rfl ?_
                        refine lv_iadd hx hb dX6_step_191 ?_
                        refine x_topi (y := nI (e_ + 1)) ((ix_add (a := e_) (b := 1) rfl rfl)) ?_
                        refine x_put (ws' := mW G b nw rd asd img kpt txt (nI z) abv blw bds nos fls (nI (e_ + 1)) (nI q) 1 (-1) 0 sts bst) (ty := .int) E hw fw_X6_92 0 rfl rfl rfl (by decide +kernel) rfl rfl (Nat.le_of_ble_eq_true rfl) dX6_step_192 rfl (fun H locs hw => ?_)
                        refine lv_goto (tgt := 122) hx hb dX6_step_195 rfl ?_
                        exact ih122 (e_ + 1) (-1) (by have := in_lt (by decide) cq144; omega) (by omega) (by rw [hwl, wlM_step cq144]; simp [cq159]) (by have := in_lt (by decide) cq144; omega) _ _ _ hw (lv_sub hl [0, 1] rfl)
                      · skip
                        have cq159 : ¬ 6 ≤ e_ - q := fun h => cq159 ((cv_le (a := 6) (b := e_ - q) rfl rfl (by omega) (by omega)).mpr h)
                        refine lv_aload_n hx hb dX6_step_162 rfl (lv_at hl 0 rfl) ?_
                        refine x_get E hw fw_X6_101 0 rfl rfl dX6_step_163 ?_
                        refine lv_ldc2 hx hb E.2.2.2.1 (E.2.2.2.2.2.2.w kc_X6_118) dX6_step_166 ?_
                        refine lv_lmul hx hb dX6_step_169 ?_
                        refine lv_aload_n hx hb dX6_step_170 rfl (lv_at hl 0 rfl) ?_
                        refine x_callV (is := [0, 1, 2, 3, 4, 5, 6, 7, 8]) (q0 := 0) (As := []) (rest := [.long (wv * 256), .ref (b 0)]) (st1 := [.int (hrM txt z e_), .long (wv * 256), .ref (b 0)]) (ws' := mW G b nw rd asd img kpt txt (nI z) abv blw bds nos fls (nI e_) (nI q) 1 wv 0 sts bst) E (c_X6_here l G b nw rd asd img kpt txt abv blw bds nos fls (nI q) 1 wv 0 sts bst z e_ (by omega) (by omega)) vw_X6_95 hw [0, 1, 2, 3, 4, 5, 6, 7, 8] rfl rfl rfl rfl rfl rfl rfl hl.1 rfl rfl (Nat.le_of_ble_eq_true rfl) ⟨Nat.le_of_ble_eq_true rfl, Nat.le_of_ble_eq_true rfl⟩ (Nat.zero_le _) (Nat.zero_le _) dX6_step_171 rfl rfl (fun H locs hw => ?_)
                        refine lv_i2l (v := (hrM txt z e_).toInt64) hx hb dX6_step_174 rfl ?_
                        refine lv_ladd hx hb dX6_step_175 ?_
                        refine lv_goto (tgt := 182) hx hb dX6_step_176 rfl ?_
                        refine x_put (ws' := mW G b nw rd asd img kpt txt (nI z) abv blw bds nos fls (nI e_) (nI q) 1 ((wv * 256) + ((hrM txt z e_).toInt64)) 0 sts bst) (ty := .long) E hw fw_X6_101 0 rfl rfl rfl (by decide +kernel) rfl rfl (Nat.le_of_ble_eq_true rfl) dX6_step_182 rfl (fun H locs hw => ?_)
                        refine lv_aload_n hx hb dX6_step_185 rfl (lv_at hl 0 rfl) ?_
                        refine lv_dup hx hb dX6_step_186 rfl ?_
                        refine x_get E hw fw_X6_92 0 rfl rfl dX6_step_187 ?_
                        refine lv_iconst (v := 1) hx hb dX6_step_190 rfl ?_
                        refine lv_iadd hx hb dX6_step_191 ?_
                        refine x_topi (y := nI (e_ + 1)) ((ix_add (a := e_) (b := 1) rfl rfl)) ?_
                        refine x_put (ws' := mW G b nw rd asd img kpt txt (nI z) abv blw bds nos fls (nI (e_ + 1)) (nI q) 1 ((wv * 256) + ((hrM txt z e_).toInt64)) 0 sts bst) (ty := .int) E hw fw_X6_92 0 rfl rfl rfl (by decide +kernel) rfl rfl (Nat.le_of_ble_eq_true rfl) dX6_step_192 rfl (fun H locs hw => ?_)
                        refine lv_goto (tgt := 122) hx hb dX6_step_195 rfl ?_
                        exact ih122 (e_ + 1) ((wv * 256) + ((hrM txt z e_).toInt64)) (by have := in_lt (by decide) cq144; omega) (by omega) (by rw [hwl, wlM_step cq144]; simp [cq159]) (by have := in_lt (by decide) cq144; omega) _ _ _ hw (lv_sub hl [0, 1] rfl)
              exact lp122 (z - q + 1) q 0 (by omega) (by omega) (rfl) (by omega) _ _ _ hw (lv_sub hl [1, 0] rfl)
            · skip
              exact absurd (by decide) cq109
        · skip
          refine lv_iconst (v := 0) hx hb dX6_step_50 rfl ?_
          refine lv_goto (tgt := 101) hx hb dX6_step_51 rfl ?_
          refine x_put (ws' := mW G b nw rd asd img kpt txt (nI z) abv blw bds nos fls (nI q) (nI q) 0 0 0 sts bst) (ty := .int) E hw fw_X6_115 0 rfl rfl rfl (by decide +kernel) rfl rfl (Nat.le_of_ble_eq_true rfl) dX6_step_101 rfl (fun H locs hw => ?_)
          refine lv_aload_n hx hb dX6_step_104 rfl (lv_at hl 1 rfl) ?_
          refine x_get E hw fw_X6_115 0 rfl rfl dX6_step_105 ?_
          refine lv_iconst (v := 2) hx hb dX6_step_108 rfl ?_
          refine lv_icmp_le (tgt := 122) hx hb dX6_step_109 rfl (fun cq109 => ?_) (fun cq109 => ?_)
          · skip
            refine lv_aload_n hx hb dX6_step_122 rfl (lv_at hl 1 rfl) ?_
            refine x_get E hw fw_X6_115 0 rfl rfl dX6_step_123 ?_
            refine lv_iconst (v := 1) hx hb dX6_step_126 rfl ?_
            refine lv_icmp_ne (tgt := 198) hx hb dX6_step_127 rfl (fun cq127 => ?_) (fun cq127 => ?_)
            · skip
              refine lv_aload_n hx hb dX6_step_198 rfl (lv_at hl 1 rfl) ?_
              refine x_get E hw fw_X6_115 0 rfl rfl dX6_step_199 ?_
              refine lv_iconst (v := 2) hx hb dX6_step_202 rfl ?_
              refine lv_icmp_ne (tgt := 275) hx hb dX6_step_203 rfl (fun cq203 => ?_) (fun cq203 => ?_)
              · skip
                refine lv_aload_n hx hb dX6_step_275 rfl (lv_at hl 1 rfl) ?_
                refine lv_aload_n hx hb dX6_step_276 rfl (lv_at hl 1 rfl) ?_
                refine x_get E hw fw_X6_115 0 rfl rfl dX6_step_277 ?_
                refine lv_iconst (v := 2) hx hb dX6_step_280 rfl ?_
                refine lv_icmp_ne (tgt := 301) hx hb dX6_step_281 rfl (fun cq281 => ?_) (fun cq281 => ?_)
                · skip
                  refine lv_aload_n hx hb dX6_step_301 rfl (lv_at hl 1 rfl) ?_
                  refine x_get E hw fw_X6_115 0 rfl rfl dX6_step_302 ?_
                  refine x_put (ws' := mW G b nw rd asd img kpt txt (nI z) abv blw bds nos fls (nI q) (nI q) 0 0 0 sts bst) (ty := .int) E hw fw_X6_115 0 rfl rfl rfl (by decide +kernel) rfl rfl (Nat.le_of_ble_eq_true rfl) dX6_step_305 rfl (fun H locs hw => ?_)
                  exact x_vret E hA rt hw dX6_step_308 (by rw [stM, hq, stQ, if_neg cq47])
                · skip
                  exact absurd cq281 (by decide)
              · skip
                exact absurd cq203 (by decide)
            · skip
              exact absurd cq127 (by decide)
          · skip
            exact absurd (by decide) cq109
      · skip
        refine lv_aload_n hx hb dX6_step_9 rfl (lv_at hl 0 rfl) ?_
        refine lv_dup hx hb dX6_step_10 rfl ?_
        refine x_get E hw fw_X6_92 0 rfl rfl dX6_step_11 ?_
        refine lv_iconst (v := 1) hx hb dX6_step_14 rfl ?_
        refine lv_iadd hx hb dX6_step_15 ?_
        refine x_topi (y := nI (q + 1)) ((ix_add (a := q) (b := 1) rfl rfl)) ?_
        refine x_put (ws' := mW G b nw rd asd img kpt txt (nI z) abv blw bds nos fls (nI (q + 1)) bgn tkn wrd vlu sts bst) (ty := .int) E hw fw_X6_92 0 rfl rfl rfl (by decide +kernel) rfl rfl (Nat.le_of_ble_eq_true rfl) dX6_step_16 rfl (fun H locs hw => ?_)
        refine lv_goto (tgt := 0) hx hb dX6_step_19 rfl ?_
        exact ih0 (q + 1) (by have := hr_lt (txt := txt) (z := z) (p := q) (by rw [cq6]; decide); omega) (by rw [hsk, skM_step cq6]) (by have := hr_lt (txt := txt) (z := z) (p := q) (by rw [cq6]; decide); omega) _ _ _ hw (lv_sub hl [0] rfl)
  exact lp0 (z - pp + 1) pp (by omega) (rfl) (by omega) _ _ _ hw (lv_sub hl [0] rfl)
set_option maxHeartbeats 1000000 in
set_option maxRecDepth 100000 in
theorem c_X6_number (l : Launch) (G : GG) (b : Nat → Nat) (x : Int32) (nw : Nat → Int32) (rd : Nat → Int32) (asd : Nat → Int32) (img : Nat → Int32) (kpt : Nat → Int32) (txt : Nat → Int32) (abv : Int64) (blw : Int64) (bds : Int32) (nos : Int32) (fls : Int32) (bgn : Int32) (tkn : Int32) (wrd : Int64) (vlu : Int32) (sts : Nat → Int32) (bst : Nat → Int32) (z : Nat) (pp : Nat) (hz : z ≤ 150) (hp : pp ≤ z) : CT l G yX6_number cX6_number 2 (some .boolean) 2 46 [.ref (b 0), .int x] (mW G b nw rd asd img kpt txt (nI z) abv blw bds nos fls (nI pp) bgn tkn wrd vlu sts bst) (some (.int (bI (nbM (stM txt z pp) x)))) (mW G b nw rd asd img kpt txt (nI z) abv blw bds nos fls (nI (stM txt z pp).1) ((stM txt z pp).2.1) ((stM txt z pp).2.2.1) ((stM txt z pp).2.2.2.1) ((stM txt z pp).2.2.2.2) sts bst) := by
  refine CT.mk (own := RX6) (la := [(0, .ref (b 0)), (1, .int x)]) (by decide) rfl (Nat.le_of_ble_eq_true rfl) rfl ?_
  intro p e s m args below meth c A Q E hA hw rt ls hl
  have hx := E.1
  have hb := E.2.1
  refine lv_aload_n hx hb dX6_number_0 rfl (lv_at hl 0 rfl) ?_
  refine x_callV (is := [0, 1, 2, 3, 4, 5, 6, 7, 8]) (q0 := 0) (As := []) (rest := []) (st1 := []) (ws' := mW G b nw rd asd img kpt txt (nI z) abv blw bds nos fls (nI (stM txt z pp).1) ((stM txt z pp).2.1) ((stM txt z pp).2.2.1) ((stM txt z pp).2.2.2.1) ((stM txt z pp).2.2.2.2) sts bst) E (c_X6_step l G b nw rd asd img kpt txt abv blw bds nos fls bgn tkn wrd vlu sts bst z pp (by omega) (by omega)) vw_X6_122 hw [0, 1, 2, 3, 4, 5, 6, 7, 8] rfl rfl rfl rfl rfl rfl rfl hl.1 rfl rfl (Nat.le_of_ble_eq_true rfl) ⟨Nat.le_of_ble_eq_true rfl, Nat.le_of_ble_eq_true rfl⟩ (Nat.zero_le _) (Nat.zero_le _) dX6_number_1 rfl rfl (fun H locs hw => ?_)
  refine lv_aload_n hx hb dX6_number_4 rfl (lv_at hl 0 rfl) ?_
  refine x_get E hw fw_X6_115 0 rfl rfl dX6_number_5 ?_
  refine lv_iconst (v := 2) hx hb dX6_number_8 rfl ?_
  refine lv_icmp_ne (tgt := 24) hx hb dX6_number_9 rfl (fun cq9 => ?_) (fun cq9 => ?_)
  · skip
    refine lv_iconst (v := 0) hx hb dX6_number_24 rfl ?_
    exact x_zret E hA rt hw (by decide) dX6_number_25 (by simp [bI, nbM, cq9]) rfl
  · skip
    refine lv_aload_n hx hb dX6_number_12 rfl (lv_at hl 0 rfl) ?_
    refine x_get E hw fw_X6_104 0 rfl rfl dX6_number_13 ?_
    refine lv_iload_n hx hb dX6_number_16 rfl (lv_at hl 1 rfl) ?_
    refine lv_icmp_gt (tgt := 24) hx hb dX6_number_17 rfl (fun cq17 => ?_) (fun cq17 => ?_)
    · skip
      refine lv_iconst (v := 0) hx hb dX6_number_24 rfl ?_
      exact x_zret E hA rt hw (by decide) dX6_number_25 (by simp [bI, nbM, cq9, cq17]) rfl
    · skip
      refine lv_iconst (v := 1) hx hb dX6_number_20 rfl ?_
      refine lv_goto (tgt := 25) hx hb dX6_number_21 rfl ?_
      exact x_zret E hA rt hw (by decide) dX6_number_25 (by simp [bI, nbM, cq9, cq17]) rfl
set_option maxHeartbeats 1000000 in
set_option maxRecDepth 100000 in
theorem c_X6_readsTable (l : Launch) (G : GG) (b : Nat → Nat) (nw : Nat → Int32) (rd : Nat → Int32) (asd : Nat → Int32) (img : Nat → Int32) (kpt : Nat → Int32) (txt : Nat → Int32) (abv : Int64) (blw : Int64) (bds : Int32) (nos : Int32) (fls : Int32) (bgn : Int32) (tkn : Int32) (wrd : Int64) (vlu : Int32) (sts : Nat → Int32) (bst : Nat → Int32) (z : Nat) (pp : Nat) (n : Nat) (hz : z ≤ 150) (hp : pp ≤ z) : CT l G yX6_readsTable cX6_readsTable 1 (some .boolean) 3 67 [.ref (b 0)] (mW G b nw rd asd img kpt txt (nI z) abv blw bds nos fls (nI pp) bgn tkn wrd vlu sts bst) (some (.int (bI (tbM txt z (pp, bgn, tkn, wrd, vlu) rd n).1))) (mW G b nw ((tbM txt z (pp, bgn, tkn, wrd, vlu) rd n).2.2.1) asd img kpt txt (nI z) abv blw bds nos fls (nI ((tbM txt z (pp, bgn, tkn, wrd, vlu) rd n).2.1).1) (((tbM txt z (pp, bgn, tkn, wrd, vlu) rd n).2.1).2.1) (((tbM txt z (pp, bgn, tkn, wrd, vlu) rd n).2.1).2.2.1) (((tbM txt z (pp, bgn, tkn, wrd, vlu) rd n).2.1).2.2.2.1) (((tbM txt z (pp, bgn, tkn, wrd, vlu) rd n).2.1).2.2.2.2) sts bst) := by
  refine CT.mk (own := RX6) (la := [(0, .ref (b 0))]) (by decide) rfl (Nat.le_of_ble_eq_true rfl) rfl ?_
  intro p e s m args below meth c A Q E hA hw rt ls hl
  have hx := E.1
  have hb := E.2.1
  refine lv_aload_n hx hb dX6_readsTable_0 rfl (lv_at hl 0 rfl) ?_
  refine lv_bipush (v := 7) hx hb dX6_readsTable_1 rfl ?_
  refine x_callV (is := [0, 1, 2, 3, 4, 5, 6, 7, 8]) (q0 := 0) (As := [.int 7]) (rest := []) (st1 := [.int (bI (nbM (stM txt z pp) 7))]) (ws' := mW G b nw rd asd img kpt txt (nI z) abv blw bds nos fls (nI (stM txt z pp).1) ((stM txt z pp).2.1) ((stM txt z pp).2.2.1) ((stM txt z pp).2.2.2.1) ((stM txt z pp).2.2.2.2) sts bst) E (c_X6_number l G b 7 nw rd asd img kpt txt abv blw bds nos fls bgn tkn wrd vlu sts bst z pp (by omega) (by omega)) vw_X6_125 hw [0, 1, 2, 3, 4, 5, 6, 7, 8] rfl rfl rfl rfl rfl rfl rfl hl.1 rfl rfl (Nat.le_of_ble_eq_true rfl) ⟨Nat.le_of_ble_eq_true rfl, Nat.le_of_ble_eq_true rfl⟩ (Nat.zero_le _) (Nat.zero_le _) dX6_readsTable_3 rfl rfl (fun H locs hw => ?_)
  refine lv_if_ne (tgt := 11) hx hb dX6_readsTable_6 rfl (fun cq6 => ?_) (fun cq6 => ?_)
  · skip
    have cq6 := bI_n0.mp cq6
    refine lv_aload_n hx hb dX6_readsTable_11 rfl (lv_at hl 0 rfl) ?_
    refine x_get E hw fw_X6_13 0 rfl rfl dX6_readsTable_12 ?_
    refine lv_bipush (v := 20) hx hb dX6_readsTable_15 rfl ?_
    refine lv_aload_n hx hb dX6_readsTable_17 rfl (lv_at hl 0 rfl) ?_
    refine x_get E hw fw_X6_104 0 rfl rfl dX6_readsTable_18 ?_
    refine x_iast (ws' := mW G b nw (upd rd 20 ((stM txt z pp).2.2.2.2)) asd img kpt txt (nI z) abv blw bds nos fls (nI (stM txt z pp).1) ((stM txt z pp).2.1) ((stM txt z pp).2.2.1) ((stM txt z pp).2.2.2.1) ((stM txt z pp).2.2.2.2) sts bst) E hw 2 rfl 20 (rfl) (by omega) (by omega) dX6_readsTable_21 rfl (fun H locs hw => ?_)
    refine lv_iconst (v := 1) hx hb dX6_readsTable_22 rfl ?_
    exact x_zret E hA rt hw (by decide) dX6_readsTable_23 (by simp [bI, tbM, cq6]) (by simp [tbM, cq6])
  · skip
    have cq6 := bI_0.mp cq6
    refine lv_iconst (v := 0) hx hb dX6_readsTable_9 rfl ?_
    exact x_zret E hA rt hw (by decide) dX6_readsTable_10 (by simp [bI, tbM, cq6]) (by simp [tbM, cq6])
set_option maxHeartbeats 1000000 in
set_option maxRecDepth 100000 in
theorem c_X6_readsChild (l : Launch) (G : GG) (b : Nat → Nat) (nw : Nat → Int32) (rd : Nat → Int32) (asd : Nat → Int32) (img : Nat → Int32) (kpt : Nat → Int32) (txt : Nat → Int32) (abv : Int64) (blw : Int64) (bds : Int32) (nos : Int32) (fls : Int32) (bgn : Int32) (tkn : Int32) (wrd : Int64) (vlu : Int32) (sts : Nat → Int32) (bst : Nat → Int32) (z : Nat) (pp : Nat) (n : Nat) (hz : z ≤ 150) (hp : pp ≤ z) (hc : rd 22 = nI n) (hn : n ≤ 6) : CT l G yX6_readsChild cX6_readsChild 4 (some .boolean) 3 67 [.ref (b 0)] (mW G b nw rd asd img kpt txt (nI z) abv blw bds nos fls (nI pp) bgn tkn wrd vlu sts bst) (some (.int (bI (rcM txt z (pp, bgn, tkn, wrd, vlu) rd n).1))) (mW G b nw ((rcM txt z (pp, bgn, tkn, wrd, vlu) rd n).2.2.1) asd img kpt txt (nI z) abv blw bds nos fls (nI ((rcM txt z (pp, bgn, tkn, wrd, vlu) rd n).2.1).1) (((rcM txt z (pp, bgn, tkn, wrd, vlu) rd n).2.1).2.1) (((rcM txt z (pp, bgn, tkn, wrd, vlu) rd n).2.1).2.2.1) (((rcM txt z (pp, bgn, tkn, wrd, vlu) rd n).2.1).2.2.2.1) (((rcM txt z (pp, bgn, tkn, wrd, vlu) rd n).2.1).2.2.2.2) sts bst) := by
  refine CT.mk (own := RX6) (la := [(0, .ref (b 0))]) (by decide) rfl (Nat.le_of_ble_eq_true rfl) rfl ?_
  intro p e s m args below meth c A Q E hA hw rt ls hl
  have hx := E.1
  have hb := E.2.1
  refine lv_aload_n hx hb dX6_readsChild_0 rfl (lv_at hl 0 rfl) ?_
  refine x_get E hw fw_X6_13 0 rfl rfl dX6_readsChild_1 ?_
  refine lv_bipush (v := 22) hx hb dX6_readsChild_4 rfl ?_
  refine x_iald E hw 2 rfl 22 (rfl) (by omega) (by omega) dX6_readsChild_6 ?_
  refine lv_bipush (v := 6) hx hb dX6_readsChild_7 rfl ?_
  refine lv_icmp_eq (tgt := 20) hx hb dX6_readsChild_9 rfl (fun cq9 => ?_) (fun cq9 => ?_)
  · skip
    have cq9 : n = 6 := (cv_eq (a := n) (b := 6) hc rfl (by omega) (by omega)).mp cq9
    have cqE : rcM txt z (pp, bgn, tkn, wrd, vlu) rd n = (false, (pp, bgn, tkn, wrd, vlu), rd, n) := by rw [rcM, if_pos cq9]
    refine lv_iconst (v := 0) hx hb dX6_readsChild_20 rfl ?_
    exact x_zret E hA rt hw (by decide) dX6_readsChild_21 (by rw [cqE]; rfl) (by rw [cqE])
  · skip
    have cq9 : ¬ n = 6 := fun h => cq9 ((cv_eq (a := n) (b := 6) hc rfl (by omega) (by omega)).mpr h)
    refine lv_aload_n hx hb dX6_readsChild_12 rfl (lv_at hl 0 rfl) ?_
    refine lv_iconst (v := 5) hx hb dX6_readsChild_13 rfl ?_
    refine x_callV (is := [0, 1, 2, 3, 4, 5, 6, 7, 8]) (q0 := 0) (As := [.int 5]) (rest := []) (st1 := [.int (bI (nbM (stM txt z pp) 5))]) (ws' := mW G b nw rd asd img kpt txt (nI z) abv blw bds nos fls (nI (stM txt z pp).1) ((stM txt z pp).2.1) ((stM txt z pp).2.2.1) ((stM txt z pp).2.2.2.1) ((stM txt z pp).2.2.2.2) sts bst) E (c_X6_number l G b 5 nw rd asd img kpt txt abv blw bds nos fls bgn tkn wrd vlu sts bst z pp (by omega) (by omega)) vw_X6_125 hw [0, 1, 2, 3, 4, 5, 6, 7, 8] rfl rfl rfl rfl rfl rfl rfl hl.1 rfl rfl (Nat.le_of_ble_eq_true rfl) ⟨Nat.le_of_ble_eq_true rfl, Nat.le_of_ble_eq_true rfl⟩ (Nat.zero_le _) (Nat.zero_le _) dX6_readsChild_14 rfl rfl (fun H locs hw => ?_)
    obtain ⟨S1, hS1⟩ : ∃ q, q = stM txt z pp := ⟨_, rfl⟩
    rw [← hS1] at hw ⊢
    have hp1 : S1.1 ≤ z := by rw [hS1]; exact (stM_le hp).2.1
    refine lv_if_ne (tgt := 22) hx hb dX6_readsChild_17 rfl (fun cq17 => ?_) (fun cq17 => ?_)
    · skip
      have cq17 := bI_n0.mp cq17
      refine lv_aload_n hx hb dX6_readsChild_22 rfl (lv_at hl 0 rfl) ?_
      refine x_get E hw fw_X6_104 0 rfl rfl dX6_readsChild_23 ?_
      refine lv_istore_n (lv' := [(1, .int S1.2.2.2.2), (0, .ref (b 0))]) hx hb dX6_readsChild_26 rfl hl (by decide) rfl (fun ls hl => ?_)
      refine lv_aload_n hx hb dX6_readsChild_27 rfl (lv_at hl 1 rfl) ?_
      refine lv_bipush (v := 7) hx hb dX6_readsChild_28 rfl ?_
      refine x_callV (is := [0, 1, 2, 3, 4, 5, 6, 7, 8]) (q0 := 0) (As := [.int 7]) (rest := []) (st1 := [.int (bI (nbM (stM txt z S1.1) 7))]) (ws' := mW G b nw rd asd img kpt txt (nI z) abv blw bds nos fls (nI (stM txt z S1.1).1) ((stM txt z S1.1).2.1) ((stM txt z S1.1).2.2.1) ((stM txt z S1.1).2.2.2.1) ((stM txt z S1.1).2.2.2.2) sts bst) E (c_X6_number l G b 7 nw rd asd img kpt txt abv blw bds nos fls S1.2.1 S1.2.2.1 S1.2.2.2.1 S1.2.2.2.2 sts bst z S1.1 (by omega) (hp1)) vw_X6_125 hw [0, 1, 2, 3, 4, 5, 6, 7, 8] rfl rfl rfl rfl rfl rfl rfl hl.1 rfl rfl (Nat.le_of_ble_eq_true rfl) ⟨Nat.le_of_ble_eq_true rfl, Nat.le_of_ble_eq_true rfl⟩ (Nat.zero_le _) (Nat.zero_le _) dX6_readsChild_30 rfl rfl (fun H locs hw => ?_)
      obtain ⟨S2, hS2⟩ : ∃ q, q = stM txt z S1.1 := ⟨_, rfl⟩
      rw [← hS2] at hw ⊢
      have hp2 : S2.1 ≤ z := by rw [hS2]; exact (stM_le hp1).2.1
      refine lv_if_eq (tgt := 51) hx hb dX6_readsChild_33 rfl (fun cq33 => ?_) (fun cq33 => ?_)
      · skip
        have cq33 := bI_0.mp cq33
        refine lv_iconst (v := 0) hx hb dX6_readsChild_51 rfl ?_
        exact x_zret E hA rt hw (by decide) dX6_readsChild_52 (by simp only [rcM, ← hS1, ← hS2]; simp [bI, cq9, cq17, cq33]) (by simp only [rcM, ← hS1, ← hS2]; simp [cmM, cq9, cq17, cq33])
      · skip
        have cq33 := bI_n0.mp cq33
        refine lv_aload_n hx hb dX6_readsChild_36 rfl (lv_at hl 1 rfl) ?_
        refine x_get E hw fw_X6_13 0 rfl rfl dX6_readsChild_37 ?_
        refine lv_aload_n hx hb dX6_readsChild_40 rfl (lv_at hl 1 rfl) ?_
        refine x_get E hw fw_X6_104 0 rfl rfl dX6_readsChild_41 ?_
        refine x_callS (is := [2]) (As := [.ref (b 2), .int S2.2.2.2.2]) (rest := []) (st1 := [.int (fi rd S2.2.2.2.2 n 0)]) (ws' := mW G b nw rd asd img kpt txt (nI z) abv blw bds nos fls (nI S2.1) S2.2.1 S2.2.2.1 S2.2.2.2.1 S2.2.2.2.2 sts bst) E (c_X6_whoIs l G (b 2) S2.2.2.2.2 rd 255 n (by omega) (by omega) (hc) (by omega)) sw_X6_73 hw [2] rfl rfl rfl rfl hl.1 rfl rfl (Nat.le_of_ble_eq_true rfl) ⟨Nat.le_of_ble_eq_true rfl, Nat.le_of_ble_eq_true rfl⟩ (Nat.zero_le _) (Nat.zero_le _) dX6_readsChild_44 rfl rfl (fun H locs hw => ?_)
        refine lv_iconst (v := -1) hx hb dX6_readsChild_47 rfl ?_
        refine lv_icmp_eq (tgt := 53) hx hb dX6_readsChild_48 rfl (fun cq48 => ?_) (fun cq48 => ?_)
        · skip
          refine lv_aload_n hx hb dX6_readsChild_53 rfl (lv_at hl 1 rfl) ?_
          refine x_get E hw fw_X6_104 0 rfl rfl dX6_readsChild_54 ?_
          refine lv_istore_n (lv' := [(2, .int S2.2.2.2.2), (1, .int S1.2.2.2.2), (0, .ref (b 0))]) hx hb dX6_readsChild_57 rfl hl (by decide) rfl (fun ls hl => ?_)
          refine lv_aload_n hx hb dX6_readsChild_58 rfl (lv_at hl 2 rfl) ?_
          refine lv_bipush (v := 20) hx hb dX6_readsChild_59 rfl ?_
          refine x_callV (is := [0, 1, 2, 3, 4, 5, 6, 7, 8]) (q0 := 0) (As := [.int 20]) (rest := []) (st1 := [.int (bI (nbM (stM txt z S2.1) 20))]) (ws' := mW G b nw rd asd img kpt txt (nI z) abv blw bds nos fls (nI (stM txt z S2.1).1) ((stM txt z S2.1).2.1) ((stM txt z S2.1).2.2.1) ((stM txt z S2.1).2.2.2.1) ((stM txt z S2.1).2.2.2.2) sts bst) E (c_X6_number l G b 20 nw rd asd img kpt txt abv blw bds nos fls S2.2.1 S2.2.2.1 S2.2.2.2.1 S2.2.2.2.2 sts bst z S2.1 (by omega) (hp2)) vw_X6_125 hw [0, 1, 2, 3, 4, 5, 6, 7, 8] rfl rfl rfl rfl rfl rfl rfl hl.1 rfl rfl (Nat.le_of_ble_eq_true rfl) ⟨Nat.le_of_ble_eq_true rfl, Nat.le_of_ble_eq_true rfl⟩ (Nat.zero_le _) (Nat.zero_le _) dX6_readsChild_61 rfl rfl (fun H locs hw => ?_)
          obtain ⟨S3, hS3⟩ : ∃ q, q = stM txt z S2.1 := ⟨_, rfl⟩
          rw [← hS3] at hw ⊢
          have hp3 : S3.1 ≤ z := by rw [hS3]; exact (stM_le hp2).2.1
          refine lv_if_ne (tgt := 69) hx hb dX6_readsChild_64 rfl (fun cq64 => ?_) (fun cq64 => ?_)
          · skip
            have cq64 := bI_n0.mp cq64
            refine lv_aload_n hx hb dX6_readsChild_69 rfl (lv_at hl 2 rfl) ?_
            refine x_get E hw fw_X6_104 0 rfl rfl dX6_readsChild_70 ?_
            refine lv_istore_n (lv' := [(3, .int S3.2.2.2.2), (2, .int S2.2.2.2.2), (1, .int S1.2.2.2.2), (0, .ref (b 0))]) hx hb dX6_readsChild_73 rfl hl (by decide) rfl (fun ls hl => ?_)
            refine lv_aload_n hx hb dX6_readsChild_74 rfl (lv_at hl 3 rfl) ?_
            refine lv_bipush (v := 30) hx hb dX6_readsChild_75 rfl ?_
            refine x_callV (is := [0, 1, 2, 3, 4, 5, 6, 7, 8]) (q0 := 0) (As := [.int 30]) (rest := []) (st1 := [.int (bI (nbM (stM txt z S3.1) 30))]) (ws' := mW G b nw rd asd img kpt txt (nI z) abv blw bds nos fls (nI (stM txt z S3.1).1) ((stM txt z S3.1).2.1) ((stM txt z S3.1).2.2.1) ((stM txt z S3.1).2.2.2.1) ((stM txt z S3.1).2.2.2.2) sts bst) E (c_X6_number l G b 30 nw rd asd img kpt txt abv blw bds nos fls S3.2.1 S3.2.2.1 S3.2.2.2.1 S3.2.2.2.2 sts bst z S3.1 (by omega) (hp3)) vw_X6_125 hw [0, 1, 2, 3, 4, 5, 6, 7, 8] rfl rfl rfl rfl rfl rfl rfl hl.1 rfl rfl (Nat.le_of_ble_eq_true rfl) ⟨Nat.le_of_ble_eq_true rfl, Nat.le_of_ble_eq_true rfl⟩ (Nat.zero_le _) (Nat.zero_le _) dX6_readsChild_77 rfl rfl (fun H locs hw => ?_)
            obtain ⟨S4, hS4⟩ : ∃ q, q = stM txt z S3.1 := ⟨_, rfl⟩
            rw [← hS4] at hw ⊢
            have hp4 : S4.1 ≤ z := by rw [hS4]; exact (stM_le hp3).2.1
            refine lv_if_ne (tgt := 85) hx hb dX6_readsChild_80 rfl (fun cq80 => ?_) (fun cq80 => ?_)
            · skip
              have cq80 := bI_n0.mp cq80
              refine lv_aload_n hx hb dX6_readsChild_85 rfl (lv_at hl 3 rfl) ?_
              refine x_get E hw fw_X6_13 0 rfl rfl dX6_readsChild_86 ?_
              refine lv_iload_n hx hb dX6_readsChild_89 rfl (lv_at hl 2 rfl) ?_
              refine lv_iload_n hx hb dX6_readsChild_90 rfl (lv_at hl 1 rfl) ?_
              refine lv_iload_n hx hb dX6_readsChild_91 rfl (lv_at hl 0 rfl) ?_
              refine lv_aload_n hx hb dX6_readsChild_92 rfl (lv_at hl 3 rfl) ?_
              refine x_get E hw fw_X6_104 0 rfl rfl dX6_readsChild_93 ?_
              refine x_callS (is := [2]) (As := [.ref (b 2), .int S1.2.2.2.2, .int S2.2.2.2.2, .int S3.2.2.2.2, .int S4.2.2.2.2]) (rest := []) (st1 := []) (ws' := mW G b nw (upd (upd (upd (upd (upd rd (23 + n) S1.2.2.2.2) n S2.2.2.2.2) (29 + n) S3.2.2.2.2) (6 + n) S4.2.2.2.2) 22 (nI (n + 1))) asd img kpt txt (nI z) abv blw bds nos fls (nI S4.1) S4.2.1 S4.2.2.1 S4.2.2.2.1 S4.2.2.2.2 sts bst) E (c_X6_comes l G (b 2) S1.2.2.2.2 S2.2.2.2.2 S3.2.2.2.2 S4.2.2.2.2 rd 255 n (by omega) (by omega) (hc) (by omega)) sw_X6_83 hw [2] rfl rfl rfl rfl hl.1 rfl rfl (Nat.le_of_ble_eq_true rfl) ⟨Nat.le_of_ble_eq_true rfl, Nat.le_of_ble_eq_true rfl⟩ (Nat.zero_le _) (Nat.zero_le _) dX6_readsChild_96 rfl rfl (fun H locs hw => ?_)
              refine lv_iconst (v := 1) hx hb dX6_readsChild_99 rfl ?_
              exact x_zret E hA rt hw (by decide) dX6_readsChild_100 (by simp only [rcM, ← hS1, ← hS2, ← hS3, ← hS4]; simp [bI, cq9, cq17, cq33, cq48, cq64, cq80]) (by simp only [rcM, ← hS1, ← hS2, ← hS3, ← hS4]; simp [cmM, cq9, cq17, cq33, cq48, cq64, cq80])
            · skip
              have cq80 := bI_0.mp cq80
              refine lv_iconst (v := 0) hx hb dX6_readsChild_83 rfl ?_
              exact x_zret E hA rt hw (by decide) dX6_readsChild_84 (by simp only [rcM, ← hS1, ← hS2, ← hS3, ← hS4]; simp [bI, cq9, cq17, cq33, cq48, cq64, cq80]) (by simp only [rcM, ← hS1, ← hS2, ← hS3, ← hS4]; simp [cmM, cq9, cq17, cq33, cq48, cq64, cq80])
          · skip
            have cq64 := bI_0.mp cq64
            refine lv_iconst (v := 0) hx hb dX6_readsChild_67 rfl ?_
            exact x_zret E hA rt hw (by decide) dX6_readsChild_68 (by simp only [rcM, ← hS1, ← hS2, ← hS3]; simp [bI, cq9, cq17, cq33, cq48, cq64]) (by simp only [rcM, ← hS1, ← hS2, ← hS3]; simp [cmM, cq9, cq17, cq33, cq48, cq64])
        · skip
          refine lv_iconst (v := 0) hx hb dX6_readsChild_51 rfl ?_
          exact x_zret E hA rt hw (by decide) dX6_readsChild_52 (by simp only [rcM, ← hS1, ← hS2]; simp [bI, cq9, cq17, cq33, cq48]) (by simp only [rcM, ← hS1, ← hS2]; simp [cmM, cq9, cq17, cq33, cq48])
    · skip
      have cq17 := bI_0.mp cq17
      refine lv_iconst (v := 0) hx hb dX6_readsChild_20 rfl ?_
      exact x_zret E hA rt hw (by decide) dX6_readsChild_21 (by simp only [rcM, ← hS1]; simp [bI, cq9, cq17]) (by simp only [rcM, ← hS1]; simp [cmM, cq9, cq17])
set_option maxHeartbeats 1000000 in
set_option maxRecDepth 100000 in
theorem c_X6_readsCarrot (l : Launch) (G : GG) (b : Nat → Nat) (nw : Nat → Int32) (rd : Nat → Int32) (asd : Nat → Int32) (img : Nat → Int32) (kpt : Nat → Int32) (txt : Nat → Int32) (abv : Int64) (blw : Int64) (bds : Int32) (nos : Int32) (fls : Int32) (bgn : Int32) (tkn : Int32) (wrd : Int64) (vlu : Int32) (sts : Nat → Int32) (bst : Nat → Int32) (z : Nat) (pp : Nat) (n : Nat) (hz : z ≤ 150) (hp : pp ≤ z) (hc : rd 22 = nI n) (hn : n ≤ 6) : CT l G yX6_readsCarrot cX6_readsCarrot 1 (some .boolean) 2 46 [.ref (b 0)] (mW G b nw rd asd img kpt txt (nI z) abv blw bds nos fls (nI pp) bgn tkn wrd vlu sts bst) (some (.int (bI (crM txt z (pp, bgn, tkn, wrd, vlu) rd n).1))) (mW G b nw ((crM txt z (pp, bgn, tkn, wrd, vlu) rd n).2.2.1) asd img kpt txt (nI z) abv blw bds nos fls (nI ((crM txt z (pp, bgn, tkn, wrd, vlu) rd n).2.1).1) (((crM txt z (pp, bgn, tkn, wrd, vlu) rd n).2.1).2.1) (((crM txt z (pp, bgn, tkn, wrd, vlu) rd n).2.1).2.2.1) (((crM txt z (pp, bgn, tkn, wrd, vlu) rd n).2.1).2.2.2.1) (((crM txt z (pp, bgn, tkn, wrd, vlu) rd n).2.1).2.2.2.2) sts bst) := by
  refine CT.mk (own := RX6) (la := [(0, .ref (b 0))]) (by decide) rfl (Nat.le_of_ble_eq_true rfl) rfl ?_
  intro p e s m args below meth c A Q E hA hw rt ls hl
  have hx := E.1
  have hb := E.2.1
  obtain ⟨av, hav, eav⟩ := stM_val (txt := txt) (z := z) (p := pp)
  have ecl : (stM txt z pp).2.2.2.2.toNatClampNeg = av := by rw [eav, nI_clamp (by omega)]
  refine lv_aload_n hx hb dX6_readsCarrot_0 rfl (lv_at hl 0 rfl) ?_
  refine x_callV (is := [0, 1, 2, 3, 4, 5, 6, 7, 8]) (q0 := 0) (As := []) (rest := []) (st1 := []) (ws' := mW G b nw rd asd img kpt txt (nI z) abv blw bds nos fls (nI (stM txt z pp).1) ((stM txt z pp).2.1) ((stM txt z pp).2.2.1) ((stM txt z pp).2.2.2.1) ((stM txt z pp).2.2.2.2) sts bst) E (c_X6_step l G b nw rd asd img kpt txt abv blw bds nos fls bgn tkn wrd vlu sts bst z pp (by omega) (by omega)) vw_X6_122 hw [0, 1, 2, 3, 4, 5, 6, 7, 8] rfl rfl rfl rfl rfl rfl rfl hl.1 rfl rfl (Nat.le_of_ble_eq_true rfl) ⟨Nat.le_of_ble_eq_true rfl, Nat.le_of_ble_eq_true rfl⟩ (Nat.zero_le _) (Nat.zero_le _) dX6_readsCarrot_1 rfl rfl (fun H locs hw => ?_)
  refine lv_aload_n hx hb dX6_readsCarrot_4 rfl (lv_at hl 0 rfl) ?_
  refine x_get E hw fw_X6_115 0 rfl rfl dX6_readsCarrot_5 ?_
  refine lv_iconst (v := 2) hx hb dX6_readsCarrot_8 rfl ?_
  refine lv_icmp_ne (tgt := 26) hx hb dX6_readsCarrot_9 rfl (fun cq9 => ?_) (fun cq9 => ?_)
  · skip
    refine lv_iconst (v := 0) hx hb dX6_readsCarrot_26 rfl ?_
    exact x_zret E hA rt hw (by decide) dX6_readsCarrot_27 (by simp [bI, crM, cq9]) (by simp [crM, cq9])
  · skip
    refine lv_aload_n hx hb dX6_readsCarrot_12 rfl (lv_at hl 0 rfl) ?_
    refine x_get E hw fw_X6_104 0 rfl rfl dX6_readsCarrot_13 ?_
    refine lv_aload_n hx hb dX6_readsCarrot_16 rfl (lv_at hl 0 rfl) ?_
    refine x_get E hw fw_X6_13 0 rfl rfl dX6_readsCarrot_17 ?_
    refine lv_bipush (v := 22) hx hb dX6_readsCarrot_20 rfl ?_
    refine x_iald E hw 2 rfl 22 (rfl) (by omega) (by omega) dX6_readsCarrot_22 ?_
    refine lv_icmp_lt (tgt := 28) hx hb dX6_readsCarrot_23 rfl (fun cq23 => ?_) (fun cq23 => ?_)
    · skip
      have hvn : av < n := (cv_lt eav hc (by omega) (by omega)).mp cq23
      refine lv_aload_n hx hb dX6_readsCarrot_28 rfl (lv_at hl 0 rfl) ?_
      refine x_get E hw fw_X6_13 0 rfl rfl dX6_readsCarrot_29 ?_
      refine lv_bipush (v := 6) hx hb dX6_readsCarrot_32 rfl ?_
      refine lv_aload_n hx hb dX6_readsCarrot_34 rfl (lv_at hl 0 rfl) ?_
      refine x_get E hw fw_X6_104 0 rfl rfl dX6_readsCarrot_35 ?_
      refine lv_iadd hx hb dX6_readsCarrot_38 ?_
      refine lv_aload_n hx hb dX6_readsCarrot_39 rfl (lv_at hl 0 rfl) ?_
      refine x_get E hw fw_X6_13 0 rfl rfl dX6_readsCarrot_40 ?_
      refine lv_bipush (v := 6) hx hb dX6_readsCarrot_43 rfl ?_
      refine lv_aload_n hx hb dX6_readsCarrot_45 rfl (lv_at hl 0 rfl) ?_
      refine x_get E hw fw_X6_104 0 rfl rfl dX6_readsCarrot_46 ?_
      refine lv_iadd hx hb dX6_readsCarrot_49 ?_
      refine x_iald E hw 2 rfl (6 + av) ((ix_add (a := 6) (b := av) rfl eav)) (by omega) (by omega) dX6_readsCarrot_50 ?_
      refine lv_bipush (v := 10) hx hb dX6_readsCarrot_51 rfl ?_
      refine x_callS (is := []) (As := [.int (rd (6 + av)), .int 10]) (rest := [.int (6 + ((stM txt z pp).2.2.2.2)), .ref (b 2)]) (st1 := [.int (lsr (rd (6 + av)) 10), .int (6 + ((stM txt z pp).2.2.2.2)), .ref (b 2)]) (ws' := mW G b nw rd asd img kpt txt (nI z) abv blw bds nos fls (nI (stM txt z pp).1) ((stM txt z pp).2.1) ((stM txt z pp).2.2.1) ((stM txt z pp).2.2.2.1) ((stM txt z pp).2.2.2.2) sts bst) E (c_X6_lesser l G (rd (6 + av)) 10) sw_X6_128 hw [] rfl rfl rfl rfl hl.1 rfl rfl (Nat.le_of_ble_eq_true rfl) ⟨Nat.le_of_ble_eq_true rfl, Nat.le_of_ble_eq_true rfl⟩ (Nat.zero_le _) (Nat.zero_le _) dX6_readsCarrot_53 rfl rfl (fun H locs hw => ?_)
      refine x_iast (ws' := mW G b nw (upd rd (6 + av) (lsr (rd (6 + av)) 10)) asd img kpt txt (nI z) abv blw bds nos fls (nI (stM txt z pp).1) ((stM txt z pp).2.1) ((stM txt z pp).2.2.1) ((stM txt z pp).2.2.2.1) ((stM txt z pp).2.2.2.2) sts bst) E hw 2 rfl (6 + av) ((ix_add (a := 6) (b := av) rfl eav)) (by omega) (by omega) dX6_readsCarrot_56 rfl (fun H locs hw => ?_)
      refine lv_iconst (v := 1) hx hb dX6_readsCarrot_57 rfl ?_
      exact x_zret E hA rt hw (by decide) dX6_readsCarrot_58 (by simp [bI, crM, cq9, cq23]) (by simp [crM, ecl, cq9, cq23])
    · skip
      refine lv_iconst (v := 0) hx hb dX6_readsCarrot_26 rfl ?_
      exact x_zret E hA rt hw (by decide) dX6_readsCarrot_27 (by simp [bI, crM, cq9, cq23]) (by simp [crM, cq9, cq23])
set_option maxHeartbeats 1000000 in
set_option maxRecDepth 100000 in
theorem c_X6_readsItem (l : Launch) (G : GG) (b : Nat → Nat) (x : Int32) (nw : Nat → Int32) (rd : Nat → Int32) (asd : Nat → Int32) (img : Nat → Int32) (kpt : Nat → Int32) (txt : Nat → Int32) (abv : Int64) (blw : Int64) (bds : Int32) (nos : Int32) (fls : Int32) (bgn : Int32) (tkn : Int32) (wrd : Int64) (vlu : Int32) (sts : Nat → Int32) (bst : Nat → Int32) (z : Nat) (pp : Nat) (n : Nat) (hz : z ≤ 150) (hp : pp ≤ z) (hc : rd 22 = nI n) (hn : n ≤ 6) : CT l G yX6_readsItem cX6_readsItem 4 (some .boolean) 4 90 [.ref (b 0), .int x] (mW G b nw rd asd img kpt txt (nI z) abv blw bds nos fls (nI pp) bgn tkn wrd vlu sts bst) (some (.int (bI (riM txt z (pp, bgn, tkn, wrd, vlu) (!decide (x = 0)) rd n).1))) (mW G b nw ((riM txt z (pp, bgn, tkn, wrd, vlu) (!decide (x = 0)) rd n).2.2.1) asd img kpt txt (nI z) abv blw bds nos fls (nI ((riM txt z (pp, bgn, tkn, wrd, vlu) (!decide (x = 0)) rd n).2.1).1) (((riM txt z (pp, bgn, tkn, wrd, vlu) (!decide (x = 0)) rd n).2.1).2.1) (((riM txt z (pp, bgn, tkn, wrd, vlu) (!decide (x = 0)) rd n).2.1).2.2.1) (((riM txt z (pp, bgn, tkn, wrd, vlu) (!decide (x = 0)) rd n).2.1).2.2.2.1) (((riM txt z (pp, bgn, tkn, wrd, vlu) (!decide (x = 0)) rd n).2.1).2.2.2.2) sts bst) := by
  refine CT.mk (own := RX6) (la := [(0, .ref (b 0)), (1, .int x)]) (by decide) rfl (Nat.le_of_ble_eq_true rfl) rfl ?_
  intro p e s m args below meth c A Q E hA hw rt ls hl
  have hx := E.1
  have hb := E.2.1
  refine lv_aload_n hx hb dX6_readsItem_0 rfl (lv_at hl 0 rfl) ?_
  refine x_get E hw fw_X6_115 0 rfl rfl dX6_readsItem_1 ?_
  refine lv_iconst (v := 1) hx hb dX6_readsItem_4 rfl ?_
  refine lv_icmp_eq (tgt := 10) hx hb dX6_readsItem_5 rfl (fun cq5 => ?_) (fun cq5 => ?_)
  · skip
    refine lv_aload_n hx hb dX6_readsItem_10 rfl (lv_at hl 0 rfl) ?_
    refine x_get E hw fw_X6_101 0 rfl rfl dX6_readsItem_11 ?_
    refine lv_lstore_n (lv' := [(2, .long wrd), (0, .ref (b 0)), (1, .int x)]) hx hb dX6_readsItem_14 rfl hl (by decide) rfl (fun ls hl => ?_)
    refine lv_lload_n hx hb dX6_readsItem_15 rfl (lv_at hl 0 rfl) ?_
    refine lv_ldc2 hx hb E.2.2.2.1 (E.2.2.2.2.2.2.w kc_X6_132) dX6_readsItem_16 ?_
    refine W.lcmp hx hb dX6_readsItem_19 ?_
    refine lv_if_ne (tgt := 40) hx hb dX6_readsItem_20 rfl (fun cq20 => ?_) (fun cq20 => ?_)
    · skip
      have cq20 := mt (lg_cmp_eq wrd 499850046565).mpr cq20
      refine lv_iload_n hx hb dX6_readsItem_40 rfl (lv_at hl 2 rfl) ?_
      refine lv_if_eq (tgt := 46) hx hb dX6_readsItem_41 rfl (fun cq41 => ?_) (fun cq41 => ?_)
      · skip
        refine lv_lload_n hx hb dX6_readsItem_46 rfl (lv_at hl 0 rfl) ?_
        refine lv_ldc2 hx hb E.2.2.2.1 (E.2.2.2.2.2.2.w kc_X6_138) dX6_readsItem_47 ?_
        refine W.lcmp hx hb dX6_readsItem_50 ?_
        refine lv_if_ne (tgt := 61) hx hb dX6_readsItem_51 rfl (fun cq51 => ?_) (fun cq51 => ?_)
        · skip
          have cq51 := mt (lg_cmp_eq wrd 426953501796).mpr cq51
          refine lv_lload_n hx hb dX6_readsItem_61 rfl (lv_at hl 0 rfl) ?_
          refine lv_ldc2 hx hb E.2.2.2.1 (E.2.2.2.2.2.2.w kc_X6_143) dX6_readsItem_62 ?_
          refine W.lcmp hx hb dX6_readsItem_65 ?_
          refine lv_if_ne (tgt := 80) hx hb dX6_readsItem_66 rfl (fun cq66 => ?_) (fun cq66 => ?_)
          · skip
            have cq66 := mt (lg_cmp_eq wrd 109270183079796).mpr cq66
            refine lv_iconst (v := 0) hx hb dX6_readsItem_80 rfl ?_
            exact x_zret E hA rt hw (by decide) dX6_readsItem_81 (by rw [riM, if_pos cq5, if_neg cq20, if_neg (by simp [cq41]), if_neg cq51, if_neg cq66]; rfl) (by rw [riM, if_pos cq5, if_neg cq20, if_neg (by simp [cq41]), if_neg cq51, if_neg cq66])
          · skip
            have cq66 := (lg_cmp_eq wrd 109270183079796).mp cq66
            refine lv_aload_n hx hb dX6_readsItem_69 rfl (lv_at hl 1 rfl) ?_
            refine x_callV (is := [0, 1, 2, 3, 4, 5, 6, 7, 8]) (q0 := 0) (As := []) (rest := []) (st1 := [.int (bI (crM txt z (pp, bgn, tkn, wrd, vlu) rd n).1)]) (ws' := mW G b nw ((crM txt z (pp, bgn, tkn, wrd, vlu) rd n).2.2.1) asd img kpt txt (nI z) abv blw bds nos fls (nI ((crM txt z (pp, bgn, tkn, wrd, vlu) rd n).2.1).1) (((crM txt z (pp, bgn, tkn, wrd, vlu) rd n).2.1).2.1) (((crM txt z (pp, bgn, tkn, wrd, vlu) rd n).2.1).2.2.1) (((crM txt z (pp, bgn, tkn, wrd, vlu) rd n).2.1).2.2.2.1) (((crM txt z (pp, bgn, tkn, wrd, vlu) rd n).2.1).2.2.2.2) sts bst) E (c_X6_readsCarrot l G b nw rd asd img kpt txt abv blw bds nos fls bgn tkn wrd vlu sts bst z pp n (by omega) (by omega) (hc) (by omega)) vw_X6_145 hw [0, 1, 2, 3, 4, 5, 6, 7, 8] rfl rfl rfl rfl rfl rfl rfl hl.1 rfl rfl (Nat.le_of_ble_eq_true rfl) ⟨Nat.le_of_ble_eq_true rfl, Nat.le_of_ble_eq_true rfl⟩ (Nat.zero_le _) (Nat.zero_le _) dX6_readsItem_70 rfl rfl (fun H locs hw => ?_)
            refine lv_if_eq (tgt := 80) hx hb dX6_readsItem_73 rfl (fun cq73 => ?_) (fun cq73 => ?_)
            · skip
              have cq73 := bI_0.mp cq73
              refine lv_iconst (v := 0) hx hb dX6_readsItem_80 rfl ?_
              exact x_zret E hA rt hw (by decide) dX6_readsItem_81 (by rw [riM, if_pos cq5, if_neg cq20, if_neg (by simp [cq41]), if_neg cq51, if_pos cq66]; simp [bI, cq73]) (by rw [riM, if_pos cq5, if_neg cq20, if_neg (by simp [cq41]), if_neg cq51, if_pos cq66])
            · skip
              have cq73 := bI_n0.mp cq73
              refine lv_iconst (v := 1) hx hb dX6_readsItem_76 rfl ?_
              refine lv_goto (tgt := 81) hx hb dX6_readsItem_77 rfl ?_
              exact x_zret E hA rt hw (by decide) dX6_readsItem_81 (by rw [riM, if_pos cq5, if_neg cq20, if_neg (by simp [cq41]), if_neg cq51, if_pos cq66]; simp [bI, cq73]) (by rw [riM, if_pos cq5, if_neg cq20, if_neg (by simp [cq41]), if_neg cq51, if_pos cq66])
        · skip
          have cq51 := (lg_cmp_eq wrd 426953501796).mp cq51
          refine lv_aload_n hx hb dX6_readsItem_54 rfl (lv_at hl 1 rfl) ?_
          refine x_callV (is := [0, 1, 2, 3, 4, 5, 6, 7, 8]) (q0 := 0) (As := []) (rest := []) (st1 := [.int (bI (rcM txt z (pp, bgn, tkn, wrd, vlu) rd n).1)]) (ws' := mW G b nw ((rcM txt z (pp, bgn, tkn, wrd, vlu) rd n).2.2.1) asd img kpt txt (nI z) abv blw bds nos fls (nI ((rcM txt z (pp, bgn, tkn, wrd, vlu) rd n).2.1).1) (((rcM txt z (pp, bgn, tkn, wrd, vlu) rd n).2.1).2.1) (((rcM txt z (pp, bgn, tkn, wrd, vlu) rd n).2.1).2.2.1) (((rcM txt z (pp, bgn, tkn, wrd, vlu) rd n).2.1).2.2.2.1) (((rcM txt z (pp, bgn, tkn, wrd, vlu) rd n).2.1).2.2.2.2) sts bst) E (c_X6_readsChild l G b nw rd asd img kpt txt abv blw bds nos fls bgn tkn wrd vlu sts bst z pp n (by omega) (by omega) (hc) (by omega)) vw_X6_140 hw [0, 1, 2, 3, 4, 5, 6, 7, 8] rfl rfl rfl rfl rfl rfl rfl hl.1 rfl rfl (Nat.le_of_ble_eq_true rfl) ⟨Nat.le_of_ble_eq_true rfl, Nat.le_of_ble_eq_true rfl⟩ (Nat.zero_le _) (Nat.zero_le _) dX6_readsItem_55 rfl rfl (fun H locs hw => ?_)
          refine lv_goto (tgt := 81) hx hb dX6_readsItem_58 rfl ?_
          exact x_zret E hA rt hw (bI_nar _) dX6_readsItem_81 (by rw [riM, if_pos cq5, if_neg cq20, if_neg (by simp [cq41]), if_pos cq51]) (by rw [riM, if_pos cq5, if_neg cq20, if_neg (by simp [cq41]), if_pos cq51])
      · skip
        refine lv_iconst (v := 0) hx hb dX6_readsItem_44 rfl ?_
        exact x_zret E hA rt hw (by decide) dX6_readsItem_45 (by rw [riM, if_pos cq5, if_neg cq20, if_pos (by simp [cq41])]; rfl) (by rw [riM, if_pos cq5, if_neg cq20, if_pos (by simp [cq41])])
    · skip
      have cq20 := (lg_cmp_eq wrd 499850046565).mp cq20
      refine lv_iload_n hx hb dX6_readsItem_23 rfl (lv_at hl 2 rfl) ?_
      refine lv_if_eq (tgt := 38) hx hb dX6_readsItem_24 rfl (fun cq24 => ?_) (fun cq24 => ?_)
      · skip
        refine lv_iconst (v := 0) hx hb dX6_readsItem_38 rfl ?_
        exact x_zret E hA rt hw (by decide) dX6_readsItem_39 (by rw [riM, if_pos cq5, if_pos cq20, if_neg (by simp [cq24])]; rfl) (by rw [riM, if_pos cq5, if_pos cq20, if_neg (by simp [cq24])])
      · skip
        refine lv_aload_n hx hb dX6_readsItem_27 rfl (lv_at hl 1 rfl) ?_
        refine x_callV (is := [0, 1, 2, 3, 4, 5, 6, 7, 8]) (q0 := 0) (As := []) (rest := []) (st1 := [.int (bI (tbM txt z (pp, bgn, tkn, wrd, vlu) rd n).1)]) (ws' := mW G b nw ((tbM txt z (pp, bgn, tkn, wrd, vlu) rd n).2.2.1) asd img kpt txt (nI z) abv blw bds nos fls (nI ((tbM txt z (pp, bgn, tkn, wrd, vlu) rd n).2.1).1) (((tbM txt z (pp, bgn, tkn, wrd, vlu) rd n).2.1).2.1) (((tbM txt z (pp, bgn, tkn, wrd, vlu) rd n).2.1).2.2.1) (((tbM txt z (pp, bgn, tkn, wrd, vlu) rd n).2.1).2.2.2.1) (((tbM txt z (pp, bgn, tkn, wrd, vlu) rd n).2.1).2.2.2.2) sts bst) E (c_X6_readsTable l G b nw rd asd img kpt txt abv blw bds nos fls bgn tkn wrd vlu sts bst z pp n (by omega) (by omega)) vw_X6_134 hw [0, 1, 2, 3, 4, 5, 6, 7, 8] rfl rfl rfl rfl rfl rfl rfl hl.1 rfl rfl (Nat.le_of_ble_eq_true rfl) ⟨Nat.le_of_ble_eq_true rfl, Nat.le_of_ble_eq_true rfl⟩ (Nat.zero_le _) (Nat.zero_le _) dX6_readsItem_28 rfl rfl (fun H locs hw => ?_)
        refine lv_if_eq (tgt := 38) hx hb dX6_readsItem_31 rfl (fun cq31 => ?_) (fun cq31 => ?_)
        · skip
          have cq31 := bI_0.mp cq31
          refine lv_iconst (v := 0) hx hb dX6_readsItem_38 rfl ?_
          exact x_zret E hA rt hw (by decide) dX6_readsItem_39 (by rw [riM, if_pos cq5, if_pos cq20, if_pos (by simp [cq24])]; simp [bI, cq31]) (by rw [riM, if_pos cq5, if_pos cq20, if_pos (by simp [cq24])])
        · skip
          have cq31 := bI_n0.mp cq31
          refine lv_iconst (v := 1) hx hb dX6_readsItem_34 rfl ?_
          refine lv_goto (tgt := 39) hx hb dX6_readsItem_35 rfl ?_
          exact x_zret E hA rt hw (by decide) dX6_readsItem_39 (by rw [riM, if_pos cq5, if_pos cq20, if_pos (by simp [cq24])]; simp [bI, cq31]) (by rw [riM, if_pos cq5, if_pos cq20, if_pos (by simp [cq24])])
  · skip
    refine lv_iconst (v := 0) hx hb dX6_readsItem_8 rfl ?_
    exact x_zret E hA rt hw (by decide) dX6_readsItem_9 (by rw [riM, if_neg cq5]; rfl) (by rw [riM, if_neg cq5])

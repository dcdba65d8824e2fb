set_option maxHeartbeats 1000000 in
set_option maxRecDepth 100000 in
theorem c_X4_append (l : Launch) (G : GG) (a : Nat → Nat) (x : Int32) (f : Nat → Int32) (z : Nat) (pl : Int32) (sa : Int32) (tk : Int32) (vl : Int32) (hz : z < 150) : CT l G yX4_append cX4_append 2 (some .int) 0 0 [.ref (a 0), .int x] (xT G a f (nI z) pl sa tk vl) (some (.int (nI (z + 1)))) (xT G a (upd f z x.toInt8.toInt32.toInt8.toInt32) (nI (z + 1)) pl sa tk vl) := by
  refine CT.mk (own := RX4) (la := [(0, .ref (a 0)), (1, .int x)]) (by decide) rfl (Nat.le_of_ble_eq_true rfl) rfl ?_
  intro p e s m args below meth c A Q E hA hw rt ls hl
  have hx := E.1
  have hb := E.2.1
  refine lv_aload_n hx hb dX4_append_0 rfl (lv_at hl 0 rfl) ?_
  refine x_get E hw fw_X4_15 0 rfl rfl dX4_append_1 ?_
  refine lv_sipush (v := 150) hx hb dX4_append_4 rfl ?_
  refine lv_icmp_ge (tgt := 31) hx hb dX4_append_7 rfl (fun cq7 => ?_) (fun cq7 => ?_)
  · skip
    have cq7 : 150 ≤ z := (cv_le (a := 150) (b := z) rfl rfl (by omega) (by omega)).mp cq7
    exact absurd cq7 (by omega)
  · skip
    have cq7 : ¬ 150 ≤ z := fun h => cq7 ((cv_le (a := 150) (b := z) rfl rfl (by omega) (by omega)).mpr h)
    refine lv_aload_n hx hb dX4_append_10 rfl (lv_at hl 0 rfl) ?_
    refine x_get E hw fw_X4_9 0 rfl rfl dX4_append_11 ?_
    refine lv_aload_n hx hb dX4_append_14 rfl (lv_at hl 0 rfl) ?_
    refine x_get E hw fw_X4_15 0 rfl rfl dX4_append_15 ?_
    refine lv_iload_n hx hb dX4_append_18 rfl (lv_at hl 1 rfl) ?_
    refine lv_i2b (v := x.toInt8.toInt32) hx hb dX4_append_19 rfl ?_
    refine x_bast (ws' := xT G a (upd f z x.toInt8.toInt32.toInt8.toInt32) (nI z) pl sa tk vl) E hw 1 rfl z (rfl) (by omega) (by omega) dX4_append_20 rfl (fun H locs hw => ?_)
    refine lv_aload_n hx hb dX4_append_21 rfl (lv_at hl 0 rfl) ?_
    refine lv_dup hx hb dX4_append_22 rfl ?_
    refine x_get E hw fw_X4_15 0 rfl rfl dX4_append_23 ?_
    refine lv_iconst (v := 1) hx hb dX4_append_26 rfl ?_
    refine lv_iadd hx hb dX4_append_27 ?_
    refine x_topi (y := nI (z + 1)) ((ix_add (a := z) (b := 1) rfl rfl)) ?_
    refine x_put (ws' := xT G a (upd f z x.toInt8.toInt32.toInt8.toInt32) (nI (z + 1)) pl sa tk vl) (ty := .int) E hw fw_X4_15 0 rfl rfl rfl (by decide +kernel) rfl rfl (Nat.le_of_ble_eq_true rfl) dX4_append_28 rfl (fun H locs hw => ?_)
    refine lv_aload_n hx hb dX4_append_31 rfl (lv_at hl 0 rfl) ?_
    refine x_get E hw fw_X4_15 0 rfl rfl dX4_append_32 ?_
    exact x_iret E hA rt hw dX4_append_35 (rfl) rfl
set_option maxHeartbeats 1000000 in
set_option maxRecDepth 100000 in
theorem c_X4_isLetter (l : Launch) (G : GG) (x : Int32) : CT l G yX4_isLetter cX4_isLetter 1 (some .boolean) 0 0 [.int x] ([]) (some (.int (bI (inI x 97 122)))) ([]) := by
  refine CT.mk (own := RX4) (la := [(0, .int x)]) (by decide) rfl (Nat.le_of_ble_eq_true rfl) rfl ?_
  intro p e s m args below meth c A Q E hA hw rt ls hl
  have hx := E.1
  have hb := E.2.1
  refine lv_iload_n hx hb dX4_isLetter_0 rfl (lv_at hl 0 rfl) ?_
  refine lv_bipush (v := 97) hx hb dX4_isLetter_1 rfl ?_
  refine lv_icmp_lt (tgt := 16) hx hb dX4_isLetter_3 rfl (fun cq3 => ?_) (fun cq3 => ?_)
  · skip
    refine lv_iconst (v := 0) hx hb dX4_isLetter_16 rfl ?_
    exact x_zret E hA rt hw (by decide) dX4_isLetter_17 (by simp [inI, bI, cq3]) rfl
  · skip
    refine lv_iload_n hx hb dX4_isLetter_6 rfl (lv_at hl 0 rfl) ?_
    refine lv_bipush (v := 122) hx hb dX4_isLetter_7 rfl ?_
    refine lv_icmp_gt (tgt := 16) hx hb dX4_isLetter_9 rfl (fun cq9 => ?_) (fun cq9 => ?_)
    · skip
      refine lv_iconst (v := 0) hx hb dX4_isLetter_16 rfl ?_
      exact x_zret E hA rt hw (by decide) dX4_isLetter_17 (by simp [inI, bI, cq3, cq9]) rfl
    · skip
      refine lv_iconst (v := 1) hx hb dX4_isLetter_12 rfl ?_
      refine lv_goto (tgt := 17) hx hb dX4_isLetter_13 rfl ?_
      exact x_zret E hA rt hw (by decide) dX4_isLetter_17 (by simp [inI, bI, cq3, cq9]) rfl
set_option maxHeartbeats 1000000 in
set_option maxRecDepth 100000 in
theorem c_X4_isFigure (l : Launch) (G : GG) (x : Int32) : CT l G yX4_isFigure cX4_isFigure 1 (some .boolean) 0 0 [.int x] ([]) (some (.int (bI (inI x 48 57)))) ([]) := by
  refine CT.mk (own := RX4) (la := [(0, .int x)]) (by decide) rfl (Nat.le_of_ble_eq_true rfl) rfl ?_
  intro p e s m args below meth c A Q E hA hw rt ls hl
  have hx := E.1
  have hb := E.2.1
  refine lv_iload_n hx hb dX4_isFigure_0 rfl (lv_at hl 0 rfl) ?_
  refine lv_bipush (v := 48) hx hb dX4_isFigure_1 rfl ?_
  refine lv_icmp_lt (tgt := 16) hx hb dX4_isFigure_3 rfl (fun cq3 => ?_) (fun cq3 => ?_)
  · skip
    refine lv_iconst (v := 0) hx hb dX4_isFigure_16 rfl ?_
    exact x_zret E hA rt hw (by decide) dX4_isFigure_17 (by simp [inI, bI, cq3]) rfl
  · skip
    refine lv_iload_n hx hb dX4_isFigure_6 rfl (lv_at hl 0 rfl) ?_
    refine lv_bipush (v := 57) hx hb dX4_isFigure_7 rfl ?_
    refine lv_icmp_gt (tgt := 16) hx hb dX4_isFigure_9 rfl (fun cq9 => ?_) (fun cq9 => ?_)
    · skip
      refine lv_iconst (v := 0) hx hb dX4_isFigure_16 rfl ?_
      exact x_zret E hA rt hw (by decide) dX4_isFigure_17 (by simp [inI, bI, cq3, cq9]) rfl
    · skip
      refine lv_iconst (v := 1) hx hb dX4_isFigure_12 rfl ?_
      refine lv_goto (tgt := 17) hx hb dX4_isFigure_13 rfl ?_
      exact x_zret E hA rt hw (by decide) dX4_isFigure_17 (by simp [inI, bI, cq3, cq9]) rfl
set_option maxHeartbeats 1000000 in
set_option maxRecDepth 100000 in
theorem c_X4_isWord (K : KA) (l : Launch) (G : GG) (a : Nat → Nat) (f : Nat → Int32) (z : Nat) (S : Cs) (i : Nat) (hi : i < 3) (hst : S.2.1 ≤ S.1) (hp : S.1 ≤ z) (hz : z ≤ 150) : CK K l G yX4_isWord cX4_isWord 3 (some .boolean) 4 85 [.ref (a 0), .ref (K.1 i)] (xT G a f (nI z) (nI S.1) (nI S.2.1) S.2.2.1 S.2.2.2) (some (.int (bI (isW f S.2.1 S.1 i)))) (xT G a f (nI z) (nI S.1) (nI S.2.1) S.2.2.1 S.2.2.2) := by
  refine CK.mk (own := RX4) (la := [(0, .ref (a 0)), (1, .ref (K.1 i))]) (by decide) rfl (Nat.le_of_ble_eq_true rfl) rfl ?_
  intro p e s m args below meth c A Q E hA hw rt ls hl hS
  have hx := E.1
  have hb := E.2.1
  have hkl := kLen_lt i
  refine lv_aload_n hx hb dX4_isWord_0 rfl (lv_at hl 0 rfl) ?_
  refine x_get E hw fw_X4_25 0 rfl rfl dX4_isWord_1 ?_
  refine lv_aload_n hx hb dX4_isWord_4 rfl (lv_at hl 0 rfl) ?_
  refine x_get E hw fw_X4_44 0 rfl rfl dX4_isWord_5 ?_
  refine lv_isub hx hb dX4_isWord_8 ?_
  refine x_topi (y := nI (S.1 - S.2.1)) (pk_sub hst) ?_
  refine lv_aload_n hx hb dX4_isWord_9 rfl (lv_at hl 1 rfl) ?_
  refine k_callR (is := []) (As := []) (rest := [.int (nI (S.1 - S.2.1))]) (st1 := [.int (nI (kLen.getD i 0)), .int (nI (S.1 - S.2.1))]) (ws' := xT G a f (nI z) (nI S.1) (nI S.2.1) S.2.2.1 S.2.2.2) E hS (c_len K l G i (hi)) jw_97 hw [] rfl (k_recv hS hi hw) rfl rfl rfl hl.1 rfl rfl (Nat.le_of_ble_eq_true rfl) ⟨Nat.le_of_ble_eq_true rfl, Nat.le_of_ble_eq_true rfl⟩ (Nat.zero_le _) (Nat.zero_le _) dX4_isWord_10 rfl rfl (fun H locs hw => ?_)
  refine lv_icmp_eq (tgt := 18) hx hb dX4_isWord_13 rfl (fun cq13 => ?_) (fun cq13 => ?_)
  · skip
    have cq13 : S.1 - S.2.1 = kLen.getD i 0 := (cv_eq (a := S.1 - S.2.1) (b := kLen.getD i 0) rfl rfl (by omega) (by omega)).mp cq13
    refine lv_iconst (v := 0) hx hb dX4_isWord_18 rfl ?_
    refine lv_istore_n (lv' := [(2, .int 0), (0, .ref (a 0)), (1, .ref (K.1 i))]) hx hb dX4_isWord_19 rfl hl (by decide) rfl (fun ls hl => ?_)
    have lp20 : ∀ (fuel : Nat), ∀ (k : Nat) (hk : k ≤ kLen.getD i 0) (hiv : wcA f S.2.1 i k = true), (kLen.getD i 0 - k) < fuel → ∀ (H : Heap) (locs : List Loc) (ls : Array Slot), Wd G A s H locs (xT G a f (nI z) (nI S.1) (nI S.2.1) S.2.2.1 S.2.2.2) → lv_has ls 3 [(0, .ref (a 0)), (1, .ref (K.1 i)), (2, .int (nI k))] → W p l e (rmx 4 85) s m args below meth c H locs 0 0 Q (F0 m 20 ls []) := by
      intro fuel
      induction fuel with
      | zero => intro k hk hiv hfu; exact absurd hfu (Nat.not_lt_zero _)
      | succ fuel ih20 =>
        intro k hk hiv hfu H locs ls hw hl
        refine lv_iload_n hx hb dX4_isWord_20 rfl (lv_at hl 2 rfl) ?_
        refine lv_aload_n hx hb dX4_isWord_21 rfl (lv_at hl 1 rfl) ?_
        refine k_callR (is := []) (As := []) (rest := [.int (nI k)]) (st1 := [.int (nI (kLen.getD i 0)), .int (nI k)]) (ws' := xT G a f (nI z) (nI S.1) (nI S.2.1) S.2.2.1 S.2.2.2) E hS (c_len K l G i (hi)) jw_97 hw [] rfl (k_recv hS hi hw) rfl rfl rfl hl.1 rfl rfl (Nat.le_of_ble_eq_true rfl) ⟨Nat.le_of_ble_eq_true rfl, Nat.le_of_ble_eq_true rfl⟩ (Nat.zero_le _) (Nat.zero_le _) dX4_isWord_22 rfl rfl (fun H locs hw => ?_)
        refine lv_icmp_ge (tgt := 55) hx hb dX4_isWord_25 rfl (fun cq25 => ?_) (fun cq25 => ?_)
        · skip
          have cq25 : kLen.getD i 0 ≤ k := (cv_le (a := kLen.getD i 0) (b := k) rfl rfl (by omega) (by omega)).mp cq25
          refine lv_iconst (v := 1) hx hb dX4_isWord_55 rfl ?_
          exact x_zret E hA rt hw (by decide) dX4_isWord_56 (by rw [isW, decide_eq_true cq13, show kLen.getD i 0 = k by omega, hiv]; rfl) rfl
        · skip
          have cq25 : ¬ kLen.getD i 0 ≤ k := fun h => cq25 ((cv_le (a := kLen.getD i 0) (b := k) rfl rfl (by omega) (by omega)).mpr h)
          refine lv_aload_n hx hb dX4_isWord_28 rfl (lv_at hl 0 rfl) ?_
          refine x_get E hw fw_X4_9 0 rfl rfl dX4_isWord_29 ?_
          refine lv_aload_n hx hb dX4_isWord_32 rfl (lv_at hl 0 rfl) ?_
          refine x_get E hw fw_X4_44 0 rfl rfl dX4_isWord_33 ?_
          refine lv_iload_n hx hb dX4_isWord_36 rfl (lv_at hl 2 rfl) ?_
          refine lv_iadd hx hb dX4_isWord_37 ?_
          refine x_bald E hw 1 rfl (S.2.1 + k) ((ix_add (a := S.2.1) (b := k) rfl rfl)) (by omega) (by omega) dX4_isWord_38 ?_
          refine lv_aload_n hx hb dX4_isWord_39 rfl (lv_at hl 1 rfl) ?_
          refine lv_iload_n hx hb dX4_isWord_40 rfl (lv_at hl 2 rfl) ?_
          refine k_callR (is := []) (As := [.int (nI k)]) (rest := [.int (f (S.2.1 + k))]) (st1 := [.int (((kByt.getD i []).getD k 0)), .int (f (S.2.1 + k))]) (ws' := xT G a f (nI z) (nI S.1) (nI S.2.1) S.2.2.1 S.2.2.2) E hS (c_chr K l G (nI k) k (rfl) i (hi) (by omega)) jw_102 hw [] rfl (k_recv hS hi hw) rfl rfl rfl hl.1 rfl rfl (Nat.le_of_ble_eq_true rfl) ⟨Nat.le_of_ble_eq_true rfl, Nat.le_of_ble_eq_true rfl⟩ (Nat.zero_le _) (Nat.zero_le _) dX4_isWord_41 rfl rfl (fun H locs hw => ?_)
          refine lv_icmp_eq (tgt := 49) hx hb dX4_isWord_44 rfl (fun cq44 => ?_) (fun cq44 => ?_)
          · skip
            refine lv_iinc (v := nI (k + 1)) (lv' := [(2, .int (nI (k + 1))), (0, .ref (a 0)), (1, .ref (K.1 i))]) hx hb dX4_isWord_49 hl (k := 2) rfl (nI_add _ 1) (by decide) rfl (fun ls hl => ?_)
            refine lv_goto (tgt := 20) hx hb dX4_isWord_52 rfl ?_
            exact ih20 (k + 1) (by omega) (by rw [wcA, hiv, decide_eq_true cq44]; rfl) (by omega) _ _ _ hw (lv_sub hl [1, 2, 0] rfl)
          · skip
            refine lv_iconst (v := 0) hx hb dX4_isWord_47 rfl ?_
            exact x_zret E hA rt hw (by decide) dX4_isWord_48 (by rw [isW, wcA_no cq44 _ (by omega), Bool.and_false]; rfl) rfl
    exact lp20 (kLen.getD i 0 - 0 + 1) 0 (Nat.zero_le _) (rfl) (by omega) _ _ _ hw (lv_sub hl [1, 2, 0] rfl)
  · skip
    have cq13 : ¬ S.1 - S.2.1 = kLen.getD i 0 := fun h => cq13 ((cv_eq (a := S.1 - S.2.1) (b := kLen.getD i 0) rfl rfl (by omega) (by omega)).mpr h)
    refine lv_iconst (v := 0) hx hb dX4_isWord_16 rfl ?_
    exact x_zret E hA rt hw (by decide) dX4_isWord_17 (by rw [isW, decide_eq_false cq13]; rfl) rfl
set_option maxHeartbeats 1000000 in
set_option maxRecDepth 100000 in
theorem c_X4_takeWord (K : KA) (l : Launch) (G : GG) (a : Nat → Nat) (f : Nat → Int32) (z : Nat) (S : Cs) (hst : S.2.1 ≤ S.1) (hp : S.1 ≤ z) (hz : z ≤ 150) : CK K l G yX4_takeWord cX4_takeWord 1 none 5 107 [.ref (a 0)] (xT G a f (nI z) (nI S.1) (nI S.2.1) S.2.2.1 S.2.2.2) none (xT G a f (nI z) (nI (leC f z (z - S.1) S.1)) (nI S.2.1) (wkC f S.2.1 (leC f z (z - S.1) S.1)) S.2.2.2) := by
  refine CK.mk (own := RX4) (la := [(0, .ref (a 0))]) (by decide) rfl (Nat.le_of_ble_eq_true rfl) rfl ?_
  intro p e s m args below meth c A Q E hA hw rt ls hl hS
  have hx := E.1
  have hb := E.2.1
  have lp0 : ∀ (fuel : Nat), ∀ (q : Nat) (hq1 : S.1 ≤ q) (hq2 : q ≤ z) (hiv : leC f z (z - q) q = leC f z (z - S.1) S.1), (z - q) < fuel → ∀ (H : Heap) (locs : List Loc) (ls : Array Slot), Wd G A s H locs (xT G a f (nI z) (nI q) (nI S.2.1) S.2.2.1 S.2.2.2) → lv_has ls 1 [(0, .ref (a 0))] → W p l e (rmx 5 107) s m args below meth c H locs 0 0 Q (F0 m 0 ls []) := by
    intro fuel
    induction fuel with
    | zero => intro q hq1 hq2 hiv hfu; exact absurd hfu (Nat.not_lt_zero _)
    | succ fuel ih0 =>
      intro q hq1 hq2 hiv hfu H locs ls hw hl
      refine lv_aload_n hx hb dX4_takeWord_0 rfl (lv_at hl 0 rfl) ?_
      refine x_get E hw fw_X4_25 0 rfl rfl dX4_takeWord_1 ?_
      refine lv_aload_n hx hb dX4_takeWord_4 rfl (lv_at hl 0 rfl) ?_
      refine x_get E hw fw_X4_15 0 rfl rfl dX4_takeWord_5 ?_
      refine lv_icmp_ge (tgt := 39) hx hb dX4_takeWord_8 rfl (fun cq8 => ?_) (fun cq8 => ?_)
      · skip
        have cq8 : z ≤ q := (cv_le (a := z) (b := q) rfl rfl (by omega) (by omega)).mp cq8
        have eq9 : q = leC f z (z - S.1) S.1 := by rw [← hiv]; exact (leC_end (by rw [hrM, if_pos cq8]; decide) _).symm
        refine lv_aload_n hx hb dX4_takeWord_39 rfl (lv_at hl 0 rfl) ?_
        refine va_ldcS hx hb E.2.2.2.1 hS.2.2.2.1 dX4_takeWord_40 ?_
        refine k_callV (is := [0, 1]) (q0 := 0) (As := [.ref (K.1 0)]) (rest := []) (st1 := [.int (bI (isW f (q, S.2.1, S.2.2.1, S.2.2.2).2.1 (q, S.2.1, S.2.2.1, S.2.2.2).1 0))]) (ws' := xT G a f (nI z) (nI q) (nI S.2.1) S.2.2.1 S.2.2.2) E hS (c_X4_isWord K l G a f z (q, S.2.1, S.2.2.1, S.2.2.2) 0 (by omega) (by show S.2.1 ≤ q; omega) (by show q ≤ z; omega) (hz)) vw_X4_89 hw [0, 1] rfl rfl rfl rfl rfl rfl rfl hl.1 rfl rfl (Nat.le_of_ble_eq_true rfl) ⟨Nat.le_of_ble_eq_true rfl, Nat.le_of_ble_eq_true rfl⟩ (Nat.zero_le _) (Nat.zero_le _) dX4_takeWord_42 rfl rfl (fun H locs hw => ?_)
        refine x_topi (y := bI (isW f S.2.1 q 0)) (rfl) ?_
        refine lv_if_eq (tgt := 56) hx hb dX4_takeWord_45 rfl (fun cq45 => ?_) (fun cq45 => ?_)
        · skip
          have cq45 := bI_0.mp cq45
          refine lv_aload_n hx hb dX4_takeWord_56 rfl (lv_at hl 0 rfl) ?_
          refine va_ldcS hx hb E.2.2.2.1 hS.2.2.2.2.1 dX4_takeWord_57 ?_
          refine k_callV (is := [0, 1]) (q0 := 0) (As := [.ref (K.1 1)]) (rest := []) (st1 := [.int (bI (isW f (q, S.2.1, S.2.2.1, S.2.2.2).2.1 (q, S.2.1, S.2.2.1, S.2.2.2).1 1))]) (ws' := xT G a f (nI z) (nI q) (nI S.2.1) S.2.2.1 S.2.2.2) E hS (c_X4_isWord K l G a f z (q, S.2.1, S.2.2.1, S.2.2.2) 1 (by omega) (by show S.2.1 ≤ q; omega) (by show q ≤ z; omega) (hz)) vw_X4_89 hw [0, 1] rfl rfl rfl rfl rfl rfl rfl hl.1 rfl rfl (Nat.le_of_ble_eq_true rfl) ⟨Nat.le_of_ble_eq_true rfl, Nat.le_of_ble_eq_true rfl⟩ (Nat.zero_le _) (Nat.zero_le _) dX4_takeWord_59 rfl rfl (fun H locs hw => ?_)
          refine x_topi (y := bI (isW f S.2.1 q 1)) (rfl) ?_
          refine lv_if_eq (tgt := 73) hx hb dX4_takeWord_62 rfl (fun cq62 => ?_) (fun cq62 => ?_)
          · skip
            have cq62 := bI_0.mp cq62
            refine lv_aload_n hx hb dX4_takeWord_73 rfl (lv_at hl 0 rfl) ?_
            refine lv_aload_n hx hb dX4_takeWord_74 rfl (lv_at hl 0 rfl) ?_
            refine va_ldcS hx hb E.2.2.2.1 hS.2.2.2.2.2 dX4_takeWord_75 ?_
            refine k_callV (is := [0, 1]) (q0 := 0) (As := [.ref (K.1 2)]) (rest := [.ref (a 0)]) (st1 := [.int (bI (isW f (q, S.2.1, S.2.2.1, S.2.2.2).2.1 (q, S.2.1, S.2.2.1, S.2.2.2).1 2)), .ref (a 0)]) (ws' := xT G a f (nI z) (nI q) (nI S.2.1) S.2.2.1 S.2.2.2) E hS (c_X4_isWord K l G a f z (q, S.2.1, S.2.2.1, S.2.2.2) 2 (by omega) (by show S.2.1 ≤ q; omega) (by show q ≤ z; omega) (hz)) vw_X4_89 hw [0, 1] rfl rfl rfl rfl rfl rfl rfl hl.1 rfl rfl (Nat.le_of_ble_eq_true rfl) ⟨Nat.le_of_ble_eq_true rfl, Nat.le_of_ble_eq_true rfl⟩ (Nat.zero_le _) (Nat.zero_le _) dX4_takeWord_77 rfl rfl (fun H locs hw => ?_)
            refine x_topi (y := bI (isW f S.2.1 q 2)) (rfl) ?_
            refine lv_if_eq (tgt := 87) hx hb dX4_takeWord_80 rfl (fun cq80 => ?_) (fun cq80 => ?_)
            · skip
              have cq80 := bI_0.mp cq80
              refine lv_bipush (v := 6) hx hb dX4_takeWord_87 rfl ?_
              refine x_put (ws' := xT G a f (nI z) (nI q) (nI S.2.1) 6 S.2.2.2) (ty := .int) E hw fw_X4_31 0 rfl rfl rfl (by decide +kernel) rfl rfl (Nat.le_of_ble_eq_true rfl) dX4_takeWord_89 rfl (fun H locs hw => ?_)
              exact x_vret E hA rt hw dX4_takeWord_92 (by rw [← eq9, wkC, if_neg (by rw [cq45]; decide), if_neg (by rw [cq62]; decide), if_neg (by rw [cq80]; decide)])
            · skip
              have cq80 := bI_n0.mp cq80
              refine lv_iconst (v := 5) hx hb dX4_takeWord_83 rfl ?_
              refine lv_goto (tgt := 89) hx hb dX4_takeWord_84 rfl ?_
              refine x_put (ws' := xT G a f (nI z) (nI q) (nI S.2.1) 5 S.2.2.2) (ty := .int) E hw fw_X4_31 0 rfl rfl rfl (by decide +kernel) rfl rfl (Nat.le_of_ble_eq_true rfl) dX4_takeWord_89 rfl (fun H locs hw => ?_)
              exact x_vret E hA rt hw dX4_takeWord_92 (by rw [← eq9, wkC, if_neg (by rw [cq45]; decide), if_neg (by rw [cq62]; decide), if_pos cq80])
          · skip
            have cq62 := bI_n0.mp cq62
            refine lv_aload_n hx hb dX4_takeWord_65 rfl (lv_at hl 0 rfl) ?_
            refine lv_iconst (v := 4) hx hb dX4_takeWord_66 rfl ?_
            refine x_put (ws' := xT G a f (nI z) (nI q) (nI S.2.1) 4 S.2.2.2) (ty := .int) E hw fw_X4_31 0 rfl rfl rfl (by decide +kernel) rfl rfl (Nat.le_of_ble_eq_true rfl) dX4_takeWord_67 rfl (fun H locs hw => ?_)
            refine lv_goto (tgt := 92) hx hb dX4_takeWord_70 rfl ?_
            exact x_vret E hA rt hw dX4_takeWord_92 (by rw [← eq9, wkC, if_neg (by rw [cq45]; decide), if_pos cq62])
        · skip
          have cq45 := bI_n0.mp cq45
          refine lv_aload_n hx hb dX4_takeWord_48 rfl (lv_at hl 0 rfl) ?_
          refine lv_iconst (v := 3) hx hb dX4_takeWord_49 rfl ?_
          refine x_put (ws' := xT G a f (nI z) (nI q) (nI S.2.1) 3 S.2.2.2) (ty := .int) E hw fw_X4_31 0 rfl rfl rfl (by decide +kernel) rfl rfl (Nat.le_of_ble_eq_true rfl) dX4_takeWord_50 rfl (fun H locs hw => ?_)
          refine lv_goto (tgt := 92) hx hb dX4_takeWord_53 rfl ?_
          exact x_vret E hA rt hw dX4_takeWord_92 (by rw [← eq9, wkC, if_pos cq45])
      · skip
        have cq8 : ¬ z ≤ q := fun h => cq8 ((cv_le (a := z) (b := q) rfl rfl (by omega) (by omega)).mpr h)
        refine lv_aload_n hx hb dX4_takeWord_11 rfl (lv_at hl 0 rfl) ?_
        refine x_get E hw fw_X4_9 0 rfl rfl dX4_takeWord_12 ?_
        refine lv_aload_n hx hb dX4_takeWord_15 rfl (lv_at hl 0 rfl) ?_
        refine x_get E hw fw_X4_25 0 rfl rfl dX4_takeWord_16 ?_
        refine x_bald E hw 1 rfl q (rfl) (by omega) (by omega) dX4_takeWord_19 ?_
        refine x_callS (is := []) (As := [.int (f q)]) (rest := []) (st1 := [.int (bI (inI (f q) 97 122))]) (ws' := xT G a f (nI z) (nI q) (nI S.2.1) S.2.2.1 S.2.2.2) E (c_X4_isLetter l G (f q)) sw_X4_75 hw [] rfl rfl rfl rfl hl.1 rfl rfl (Nat.le_of_ble_eq_true rfl) ⟨Nat.le_of_ble_eq_true rfl, Nat.le_of_ble_eq_true rfl⟩ (Nat.zero_le _) (Nat.zero_le _) dX4_takeWord_20 rfl rfl (fun H locs hw => ?_)
        refine lv_if_eq (tgt := 39) hx hb dX4_takeWord_23 rfl (fun cq23 => ?_) (fun cq23 => ?_)
        · skip
          have cq23 := bI_0.mp cq23
          have eq9 : q = leC f z (z - S.1) S.1 := by rw [← hiv]; exact (leC_end (by rw [hrM_in (by omega)]; exact cq23) _).symm
          refine lv_aload_n hx hb dX4_takeWord_39 rfl (lv_at hl 0 rfl) ?_
          refine va_ldcS hx hb E.2.2.2.1 hS.2.2.2.1 dX4_takeWord_40 ?_
          refine k_callV (is := [0, 1]) (q0 := 0) (As := [.ref (K.1 0)]) (rest := []) (st1 := [.int (bI (isW f (q, S.2.1, S.2.2.1, S.2.2.2).2.1 (q, S.2.1, S.2.2.1, S.2.2.2).1 0))]) (ws' := xT G a f (nI z) (nI q) (nI S.2.1) S.2.2.1 S.2.2.2) E hS (c_X4_isWord K l G a f z (q, S.2.1, S.2.2.1, S.2.2.2) 0 (by omega) (by show S.2.1 ≤ q; omega) (by show q ≤ z; omega) (hz)) vw_X4_89 hw [0, 1] rfl rfl rfl rfl rfl rfl rfl hl.1 rfl rfl (Nat.le_of_ble_eq_true rfl) ⟨Nat.le_of_ble_eq_true rfl, Nat.le_of_ble_eq_true rfl⟩ (Nat.zero_le _) (Nat.zero_le _) dX4_takeWord_42 rfl rfl (fun H locs hw => ?_)
          refine x_topi (y := bI (isW f S.2.1 q 0)) (rfl) ?_
          refine lv_if_eq (tgt := 56) hx hb dX4_takeWord_45 rfl (fun cq45 => ?_) (fun cq45 => ?_)
          · skip
            have cq45 := bI_0.mp cq45
            refine lv_aload_n hx hb dX4_takeWord_56 rfl (lv_at hl 0 rfl) ?_
            refine va_ldcS hx hb E.2.2.2.1 hS.2.2.2.2.1 dX4_takeWord_57 ?_
            refine k_callV (is := [0, 1]) (q0 := 0) (As := [.ref (K.1 1)]) (rest := []) (st1 := [.int (bI (isW f (q, S.2.1, S.2.2.1, S.2.2.2).2.1 (q, S.2.1, S.2.2.1, S.2.2.2).1 1))]) (ws' := xT G a f (nI z) (nI q) (nI S.2.1) S.2.2.1 S.2.2.2) E hS (c_X4_isWord K l G a f z (q, S.2.1, S.2.2.1, S.2.2.2) 1 (by omega) (by show S.2.1 ≤ q; omega) (by show q ≤ z; omega) (hz)) vw_X4_89 hw [0, 1] rfl rfl rfl rfl rfl rfl rfl hl.1 rfl rfl (Nat.le_of_ble_eq_true rfl) ⟨Nat.le_of_ble_eq_true rfl, Nat.le_of_ble_eq_true rfl⟩ (Nat.zero_le _) (Nat.zero_le _) dX4_takeWord_59 rfl rfl (fun H locs hw => ?_)
            refine x_topi (y := bI (isW f S.2.1 q 1)) (rfl) ?_
            refine lv_if_eq (tgt := 73) hx hb dX4_takeWord_62 rfl (fun cq62 => ?_) (fun cq62 => ?_)
            · skip
              have cq62 := bI_0.mp cq62
              refine lv_aload_n hx hb dX4_takeWord_73 rfl (lv_at hl 0 rfl) ?_
              refine lv_aload_n hx hb dX4_takeWord_74 rfl (lv_at hl 0 rfl) ?_
              refine va_ldcS hx hb E.2.2.2.1 hS.2.2.2.2.2 dX4_takeWord_75 ?_
              refine k_callV (is := [0, 1]) (q0 := 0) (As := [.ref (K.1 2)]) (rest := [.ref (a 0)]) (st1 := [.int (bI (isW f (q, S.2.1, S.2.2.1, S.2.2.2).2.1 (q, S.2.1, S.2.2.1, S.2.2.2).1 2)), .ref (a 0)]) (ws' := xT G a f (nI z) (nI q) (nI S.2.1) S.2.2.1 S.2.2.2) E hS (c_X4_isWord K l G a f z (q, S.2.1, S.2.2.1, S.2.2.2) 2 (by omega) (by show S.2.1 ≤ q; omega) (by show q ≤ z; omega) (hz)) vw_X4_89 hw [0, 1] rfl rfl rfl rfl rfl rfl rfl hl.1 rfl rfl (Nat.le_of_ble_eq_true rfl) ⟨Nat.le_of_ble_eq_true rfl, Nat.le_of_ble_eq_true rfl⟩ (Nat.zero_le _) (Nat.zero_le _) dX4_takeWord_77 rfl rfl (fun H locs hw => ?_)
              refine x_topi (y := bI (isW f S.2.1 q 2)) (rfl) ?_
              refine lv_if_eq (tgt := 87) hx hb dX4_takeWord_80 rfl (fun cq80 => ?_) (fun cq80 => ?_)
              · skip
                have cq80 := bI_0.mp cq80
                refine lv_bipush (v := 6) hx hb dX4_takeWord_87 rfl ?_
                refine x_put (ws' := xT G a f (nI z) (nI q) (nI S.2.1) 6 S.2.2.2) (ty := .int) E hw fw_X4_31 0 rfl rfl rfl (by decide +kernel) rfl rfl (Nat.le_of_ble_eq_true rfl) dX4_takeWord_89 rfl (fun H locs hw => ?_)
                exact x_vret E hA rt hw dX4_takeWord_92 (by rw [← eq9, wkC, if_neg (by rw [cq45]; decide), if_neg (by rw [cq62]; decide), if_neg (by rw [cq80]; decide)])
              · skip
                have cq80 := bI_n0.mp cq80
                refine lv_iconst (v := 5) hx hb dX4_takeWord_83 rfl ?_
                refine lv_goto (tgt := 89) hx hb dX4_takeWord_84 rfl ?_
                refine x_put (ws' := xT G a f (nI z) (nI q) (nI S.2.1) 5 S.2.2.2) (ty := .int) E hw fw_X4_31 0 rfl rfl rfl (by decide +kernel) rfl rfl (Nat.le_of_ble_eq_true rfl) dX4_takeWord_89 rfl (fun H locs hw => ?_)
                exact x_vret E hA rt hw dX4_takeWord_92 (by rw [← eq9, wkC, if_neg (by rw [cq45]; decide), if_neg (by rw [cq62]; decide), if_pos cq80])
            · skip
              have cq62 := bI_n0.mp cq62
              refine lv_aload_n hx hb dX4_takeWord_65 rfl (lv_at hl 0 rfl) ?_
              refine lv_iconst (v := 4) hx hb dX4_takeWord_66 rfl ?_
              refine x_put (ws' := xT G a f (nI z) (nI q) (nI S.2.1) 4 S.2.2.2) (ty := .int) E hw fw_X4_31 0 rfl rfl rfl (by decide +kernel) rfl rfl (Nat.le_of_ble_eq_true rfl) dX4_takeWord_67 rfl (fun H locs hw => ?_)
              refine lv_goto (tgt := 92) hx hb dX4_takeWord_70 rfl ?_
              exact x_vret E hA rt hw dX4_takeWord_92 (by rw [← eq9, wkC, if_neg (by rw [cq45]; decide), if_pos cq62])
          · skip
            have cq45 := bI_n0.mp cq45
            refine lv_aload_n hx hb dX4_takeWord_48 rfl (lv_at hl 0 rfl) ?_
            refine lv_iconst (v := 3) hx hb dX4_takeWord_49 rfl ?_
            refine x_put (ws' := xT G a f (nI z) (nI q) (nI S.2.1) 3 S.2.2.2) (ty := .int) E hw fw_X4_31 0 rfl rfl rfl (by decide +kernel) rfl rfl (Nat.le_of_ble_eq_true rfl) dX4_takeWord_50 rfl (fun H locs hw => ?_)
            refine lv_goto (tgt := 92) hx hb dX4_takeWord_53 rfl ?_
            exact x_vret E hA rt hw dX4_takeWord_92 (by rw [← eq9, wkC, if_pos cq45])
        · skip
          have cq23 := bI_n0.mp cq23
          refine lv_aload_n hx hb dX4_takeWord_26 rfl (lv_at hl 0 rfl) ?_
          refine lv_dup hx hb dX4_takeWord_27 rfl ?_
          refine x_get E hw fw_X4_25 0 rfl rfl dX4_takeWord_28 ?_
          refine lv_iconst (v := 1) hx hb dX4_takeWord_31 rfl ?_
          refine lv_iadd hx hb dX4_takeWord_32 ?_
          refine x_topi (y := nI (q + 1)) ((ix_add (a := q) (b := 1) rfl rfl)) ?_
          refine x_put (ws' := xT G a f (nI z) (nI (q + 1)) (nI S.2.1) S.2.2.1 S.2.2.2) (ty := .int) E hw fw_X4_25 0 rfl rfl rfl (by decide +kernel) rfl rfl (Nat.le_of_ble_eq_true rfl) dX4_takeWord_33 rfl (fun H locs hw => ?_)
          refine lv_goto (tgt := 0) hx hb dX4_takeWord_36 rfl ?_
          exact ih0 (q + 1) (by omega) (by omega) (by rw [← hiv]; exact (leC_step (by rw [hrM_in (by omega)]; exact cq23)).symm) (by omega) _ _ _ hw (lv_sub hl [0] rfl)
  exact lp0 (z - S.1 + 1) S.1 (by omega) (by omega) (rfl) (by omega) _ _ _ hw (lv_sub hl [0] rfl)
set_option maxHeartbeats 1000000 in
set_option maxRecDepth 100000 in
theorem c_X4_takeFigures (l : Launch) (G : GG) (a : Nat → Nat) (f : Nat → Int32) (z : Nat) (st : Nat) (tk : Int32) (vl : Int32) (hp : st ≤ z) (hz : z ≤ 150) : CT l G yX4_takeFigures cX4_takeFigures 1 none 1 20 [.ref (a 0)] (xT G a f (nI z) (nI st) (nI st) tk vl) none (xT G a f (nI z) (nI (vlM f z st (z - st) 0 st).2) (nI st) (if (vlM f z st (z - st) 0 st).2 - st ≤ 2 then 2 else 6) ((vlM f z st (z - st) 0 st).1)) := by
  refine CT.mk (own := RX4) (la := [(0, .ref (a 0))]) (by decide) rfl (Nat.le_of_ble_eq_true rfl) rfl ?_
  intro p e s m args below meth c A Q E hA hw rt ls hl
  have hx := E.1
  have hb := E.2.1
  refine lv_aload_n hx hb dX4_takeFigures_0 rfl (lv_at hl 0 rfl) ?_
  refine lv_iconst (v := 0) hx hb dX4_takeFigures_1 rfl ?_
  refine x_put (ws' := xT G a f (nI z) (nI st) (nI st) tk 0) (ty := .int) E hw fw_X4_51 0 rfl rfl rfl (by decide +kernel) rfl rfl (Nat.le_of_ble_eq_true rfl) dX4_takeFigures_2 rfl (fun H locs hw => ?_)
  have lp5 : ∀ (fuel : Nat), ∀ (q : Nat) (v : Int32) (hq1 : st ≤ q) (hq2 : q ≤ z) (hiv : vlM f z st (z - q) v q = vlM f z st (z - st) 0 st), (z - q) < fuel → ∀ (H : Heap) (locs : List Loc) (ls : Array Slot), Wd G A s H locs (xT G a f (nI z) (nI q) (nI st) tk v) → lv_has ls 1 [(0, .ref (a 0))] → W p l e (rmx 1 20) s m args below meth c H locs 0 0 Q (F0 m 5 ls []) := by
    intro fuel
    induction fuel with
    | zero => intro q v hq1 hq2 hiv hfu; exact absurd hfu (Nat.not_lt_zero _)
    | succ fuel ih5 =>
      intro q v hq1 hq2 hiv hfu H locs ls hw hl
      refine lv_aload_n hx hb dX4_takeFigures_5 rfl (lv_at hl 0 rfl) ?_
      refine x_get E hw fw_X4_25 0 rfl rfl dX4_takeFigures_6 ?_
      refine lv_aload_n hx hb dX4_takeFigures_9 rfl (lv_at hl 0 rfl) ?_
      refine x_get E hw fw_X4_15 0 rfl rfl dX4_takeFigures_10 ?_
      refine lv_icmp_ge (tgt := 81) hx hb dX4_takeFigures_13 rfl (fun cq13 => ?_) (fun cq13 => ?_)
      · skip
        have cq13 : z ≤ q := (cv_le (a := z) (b := q) rfl rfl (by omega) (by omega)).mp cq13
        have e9 : vlM f z st (z - st) 0 st = (v, q) := by rw [← hiv]; exact vlM_end (by rw [hrM, if_pos cq13]; decide) _
        refine lv_aload_n hx hb dX4_takeFigures_81 rfl (lv_at hl 0 rfl) ?_
        refine lv_aload_n hx hb dX4_takeFigures_82 rfl (lv_at hl 0 rfl) ?_
        refine x_get E hw fw_X4_25 0 rfl rfl dX4_takeFigures_83 ?_
        refine lv_aload_n hx hb dX4_takeFigures_86 rfl (lv_at hl 0 rfl) ?_
        refine x_get E hw fw_X4_44 0 rfl rfl dX4_takeFigures_87 ?_
        refine lv_isub hx hb dX4_takeFigures_90 ?_
        refine x_topi (y := nI (q - st)) (pk_sub hq1) ?_
        refine lv_iconst (v := 2) hx hb dX4_takeFigures_91 rfl ?_
        refine lv_icmp_gt (tgt := 99) hx hb dX4_takeFigures_92 rfl (fun cq92 => ?_) (fun cq92 => ?_)
        · skip
          have cq92 : 2 < q - st := (cv_lt (a := 2) (b := q - st) rfl rfl (by omega) (by omega)).mp cq92
          refine lv_bipush (v := 6) hx hb dX4_takeFigures_99 rfl ?_
          refine x_put (ws' := xT G a f (nI z) (nI q) (nI st) 6 v) (ty := .int) E hw fw_X4_31 0 rfl rfl rfl (by decide +kernel) rfl rfl (Nat.le_of_ble_eq_true rfl) dX4_takeFigures_101 rfl (fun H locs hw => ?_)
          exact x_vret E hA rt hw dX4_takeFigures_104 (by rw [e9]; show _ = xT G a f (nI z) (nI q) (nI st) (if q - st ≤ 2 then 2 else 6) v; rw [if_neg (by omega)])
        · skip
          have cq92 : ¬ 2 < q - st := fun h => cq92 ((cv_lt (a := 2) (b := q - st) rfl rfl (by omega) (by omega)).mpr h)
          refine lv_iconst (v := 2) hx hb dX4_takeFigures_95 rfl ?_
          refine lv_goto (tgt := 101) hx hb dX4_takeFigures_96 rfl ?_
          refine x_put (ws' := xT G a f (nI z) (nI q) (nI st) 2 v) (ty := .int) E hw fw_X4_31 0 rfl rfl rfl (by decide +kernel) rfl rfl (Nat.le_of_ble_eq_true rfl) dX4_takeFigures_101 rfl (fun H locs hw => ?_)
          exact x_vret E hA rt hw dX4_takeFigures_104 (by rw [e9]; show _ = xT G a f (nI z) (nI q) (nI st) (if q - st ≤ 2 then 2 else 6) v; rw [if_pos (by omega)])
      · skip
        have cq13 : ¬ z ≤ q := fun h => cq13 ((cv_le (a := z) (b := q) rfl rfl (by omega) (by omega)).mpr h)
        refine lv_aload_n hx hb dX4_takeFigures_16 rfl (lv_at hl 0 rfl) ?_
        refine x_get E hw fw_X4_9 0 rfl rfl dX4_takeFigures_17 ?_
        refine lv_aload_n hx hb dX4_takeFigures_20 rfl (lv_at hl 0 rfl) ?_
        refine x_get E hw fw_X4_25 0 rfl rfl dX4_takeFigures_21 ?_
        refine x_bald E hw 1 rfl q (rfl) (by omega) (by omega) dX4_takeFigures_24 ?_
        refine x_callS (is := []) (As := [.int (f q)]) (rest := []) (st1 := [.int (bI (inI (f q) 48 57))]) (ws' := xT G a f (nI z) (nI q) (nI st) tk v) E (c_X4_isFigure l G (f q)) sw_X4_81 hw [] rfl rfl rfl rfl hl.1 rfl rfl (Nat.le_of_ble_eq_true rfl) ⟨Nat.le_of_ble_eq_true rfl, Nat.le_of_ble_eq_true rfl⟩ (Nat.zero_le _) (Nat.zero_le _) dX4_takeFigures_25 rfl rfl (fun H locs hw => ?_)
        refine lv_if_eq (tgt := 81) hx hb dX4_takeFigures_28 rfl (fun cq28 => ?_) (fun cq28 => ?_)
        · skip
          have cq28 := bI_0.mp cq28
          have e9 : vlM f z st (z - st) 0 st = (v, q) := by rw [← hiv]; exact vlM_end (by rw [hrM_in (by omega)]; exact cq28) _
          refine lv_aload_n hx hb dX4_takeFigures_81 rfl (lv_at hl 0 rfl) ?_
          refine lv_aload_n hx hb dX4_takeFigures_82 rfl (lv_at hl 0 rfl) ?_
          refine x_get E hw fw_X4_25 0 rfl rfl dX4_takeFigures_83 ?_
          refine lv_aload_n hx hb dX4_takeFigures_86 rfl (lv_at hl 0 rfl) ?_
          refine x_get E hw fw_X4_44 0 rfl rfl dX4_takeFigures_87 ?_
          refine lv_isub hx hb dX4_takeFigures_90 ?_
          refine x_topi (y := nI (q - st)) (pk_sub hq1) ?_
          refine lv_iconst (v := 2) hx hb dX4_takeFigures_91 rfl ?_
          refine lv_icmp_gt (tgt := 99) hx hb dX4_takeFigures_92 rfl (fun cq92 => ?_) (fun cq92 => ?_)
          · skip
            have cq92 : 2 < q - st := (cv_lt (a := 2) (b := q - st) rfl rfl (by omega) (by omega)).mp cq92
            refine lv_bipush (v := 6) hx hb dX4_takeFigures_99 rfl ?_
            refine x_put (ws' := xT G a f (nI z) (nI q) (nI st) 6 v) (ty := .int) E hw fw_X4_31 0 rfl rfl rfl (by decide +kernel) rfl rfl (Nat.le_of_ble_eq_true rfl) dX4_takeFigures_101 rfl (fun H locs hw => ?_)
            exact x_vret E hA rt hw dX4_takeFigures_104 (by rw [e9]; show _ = xT G a f (nI z) (nI q) (nI st) (if q - st ≤ 2 then 2 else 6) v; rw [if_neg (by omega)])
          · skip
            have cq92 : ¬ 2 < q - st := fun h => cq92 ((cv_lt (a := 2) (b := q - st) rfl rfl (by omega) (by omega)).mpr h)
            refine lv_iconst (v := 2) hx hb dX4_takeFigures_95 rfl ?_
            refine lv_goto (tgt := 101) hx hb dX4_takeFigures_96 rfl ?_
            refine x_put (ws' := xT G a f (nI z) (nI q) (nI st) 2 v) (ty := .int) E hw fw_X4_31 0 rfl rfl rfl (by decide +kernel) rfl rfl (Nat.le_of_ble_eq_true rfl) dX4_takeFigures_101 rfl (fun H locs hw => ?_)
            exact x_vret E hA rt hw dX4_takeFigures_104 (by rw [e9]; show _ = xT G a f (nI z) (nI q) (nI st) (if q - st ≤ 2 then 2 else 6) v; rw [if_pos (by omega)])
        · skip
          have cq28 := bI_n0.mp cq28
          refine lv_aload_n hx hb dX4_takeFigures_31 rfl (lv_at hl 0 rfl) ?_
          refine x_get E hw fw_X4_25 0 rfl rfl dX4_takeFigures_32 ?_
          refine lv_aload_n hx hb dX4_takeFigures_35 rfl (lv_at hl 0 rfl) ?_
          refine x_get E hw fw_X4_44 0 rfl rfl dX4_takeFigures_36 ?_
          refine lv_isub hx hb dX4_takeFigures_39 ?_
          refine x_topi (y := nI (q - st)) (pk_sub hq1) ?_
          refine lv_iconst (v := 2) hx hb dX4_takeFigures_40 rfl ?_
          refine lv_icmp_ge (tgt := 68) hx hb dX4_takeFigures_41 rfl (fun cq41 => ?_) (fun cq41 => ?_)
          · skip
            have cq41 : 2 ≤ q - st := (cv_le (a := 2) (b := q - st) rfl rfl (by omega) (by omega)).mp cq41
            refine lv_aload_n hx hb dX4_takeFigures_68 rfl (lv_at hl 0 rfl) ?_
            refine lv_dup hx hb dX4_takeFigures_69 rfl ?_
            refine x_get E hw fw_X4_25 0 rfl rfl dX4_takeFigures_70 ?_
            refine lv_iconst (v := 1) hx hb dX4_takeFigures_73 rfl ?_
            refine lv_iadd hx hb dX4_takeFigures_74 ?_
            refine x_topi (y := nI (q + 1)) ((ix_add (a := q) (b := 1) rfl rfl)) ?_
            refine x_put (ws' := xT G a f (nI z) (nI (q + 1)) (nI st) tk v) (ty := .int) E hw fw_X4_25 0 rfl rfl rfl (by decide +kernel) rfl rfl (Nat.le_of_ble_eq_true rfl) dX4_takeFigures_75 rfl (fun H locs hw => ?_)
            refine lv_goto (tgt := 5) hx hb dX4_takeFigures_78 rfl ?_
            exact ih5 (q + 1) v (by omega) (by omega) (by rw [← hiv, vlM_step (e := q) (by rw [hrM_in (by omega)]; exact cq28), if_pos cq41]) (by omega) _ _ _ hw (lv_sub hl [0] rfl)
          · skip
            have cq41 : ¬ 2 ≤ q - st := fun h => cq41 ((cv_le (a := 2) (b := q - st) rfl rfl (by omega) (by omega)).mpr h)
            refine lv_aload_n hx hb dX4_takeFigures_44 rfl (lv_at hl 0 rfl) ?_
            refine lv_bipush (v := 10) hx hb dX4_takeFigures_45 rfl ?_
            refine lv_aload_n hx hb dX4_takeFigures_47 rfl (lv_at hl 0 rfl) ?_
            refine x_get E hw fw_X4_51 0 rfl rfl dX4_takeFigures_48 ?_
            refine lv_imul hx hb dX4_takeFigures_51 ?_
            refine lv_aload_n hx hb dX4_takeFigures_52 rfl (lv_at hl 0 rfl) ?_
            refine x_get E hw fw_X4_9 0 rfl rfl dX4_takeFigures_53 ?_
            refine lv_aload_n hx hb dX4_takeFigures_56 rfl (lv_at hl 0 rfl) ?_
            refine x_get E hw fw_X4_25 0 rfl rfl dX4_takeFigures_57 ?_
            refine x_bald E hw 1 rfl q (rfl) (by omega) (by omega) dX4_takeFigures_60 ?_
            refine lv_iadd hx hb dX4_takeFigures_61 ?_
            refine lv_bipush (v := 48) hx hb dX4_takeFigures_62 rfl ?_
            refine lv_isub hx hb dX4_takeFigures_64 ?_
            refine x_put (ws' := xT G a f (nI z) (nI q) (nI st) tk (((10 * v) + (f q)) - 48)) (ty := .int) E hw fw_X4_51 0 rfl rfl rfl (by decide +kernel) rfl rfl (Nat.le_of_ble_eq_true rfl) dX4_takeFigures_65 rfl (fun H locs hw => ?_)
            refine lv_aload_n hx hb dX4_takeFigures_68 rfl (lv_at hl 0 rfl) ?_
            refine lv_dup hx hb dX4_takeFigures_69 rfl ?_
            refine x_get E hw fw_X4_25 0 rfl rfl dX4_takeFigures_70 ?_
            refine lv_iconst (v := 1) hx hb dX4_takeFigures_73 rfl ?_
            refine lv_iadd hx hb dX4_takeFigures_74 ?_
            refine x_topi (y := nI (q + 1)) ((ix_add (a := q) (b := 1) rfl rfl)) ?_
            refine x_put (ws' := xT G a f (nI z) (nI (q + 1)) (nI st) tk (((10 * v) + (f q)) - 48)) (ty := .int) E hw fw_X4_25 0 rfl rfl rfl (by decide +kernel) rfl rfl (Nat.le_of_ble_eq_true rfl) dX4_takeFigures_75 rfl (fun H locs hw => ?_)
            refine lv_goto (tgt := 5) hx hb dX4_takeFigures_78 rfl ?_
            exact ih5 (q + 1) (((10 * v) + (f q)) - 48) (by omega) (by omega) (by rw [← hiv, vlM_step (e := q) (by rw [hrM_in (by omega)]; exact cq28), if_neg cq41, hrM_in (by omega)]) (by omega) _ _ _ hw (lv_sub hl [0] rfl)
  exact lp5 (z - st + 1) st 0 (by omega) (by omega) (rfl) (by omega) _ _ _ hw (lv_sub hl [0] rfl)
set_option maxHeartbeats 1000000 in
set_option maxRecDepth 100000 in
theorem c_X4_nextToken (K : KA) (l : Launch) (G : GG) (a : Nat → Nat) (f : Nat → Int32) (z : Nat) (S : Cs) (T : Cs) (hp : S.1 ≤ z) (hz : z ≤ 150) (hT : nxk f z S = T) : CK K l G yX4_nextToken cX4_nextToken 1 none 6 127 [.ref (a 0)] (xT G a f (nI z) (nI S.1) (nI S.2.1) S.2.2.1 S.2.2.2) none (xT G a f (nI z) (nI T.1) (nI T.2.1) T.2.2.1 T.2.2.2) := by
  refine CK.mk (own := RX4) (la := [(0, .ref (a 0))]) (by decide) rfl (Nat.le_of_ble_eq_true rfl) rfl ?_
  intro p e s m args below meth c A Q E hA hw rt ls hl hS
  have hx := E.1
  have hb := E.2.1
  have lp0 : ∀ (fuel : Nat), ∀ (q : Nat) (hq2 : q ≤ z) (hiv : skM f z (z - q) q = skM f z (z - S.1) S.1), (z - q) < fuel → ∀ (H : Heap) (locs : List Loc) (ls : Array Slot), Wd G A s H locs (xT G a f (nI z) (nI q) (nI S.2.1) S.2.2.1 S.2.2.2) → lv_has ls 1 [(0, .ref (a 0))] → W p l e (rmx 6 127) s m args below meth c H locs 0 0 Q (F0 m 0 ls []) := by
    intro fuel
    induction fuel with
    | zero => intro q hq2 hiv hfu; exact absurd hfu (Nat.not_lt_zero _)
    | succ fuel ih0 =>
      intro q hq2 hiv hfu H locs ls hw hl
      refine lv_aload_n hx hb dX4_nextToken_0 rfl (lv_at hl 0 rfl) ?_
      refine x_get E hw fw_X4_25 0 rfl rfl dX4_nextToken_1 ?_
      refine lv_aload_n hx hb dX4_nextToken_4 rfl (lv_at hl 0 rfl) ?_
      refine x_get E hw fw_X4_15 0 rfl rfl dX4_nextToken_5 ?_
      refine lv_icmp_ge (tgt := 38) hx hb dX4_nextToken_8 rfl (fun cq8 => ?_) (fun cq8 => ?_)
      · skip
        have cq8 : z ≤ q := (cv_le (a := z) (b := q) rfl rfl (by omega) (by omega)).mp cq8
        have eq9 : skM f z (z - S.1) S.1 = q := by rw [← hiv]; exact skM_end (by rw [hrM, if_pos cq8]; decide) _
        refine lv_aload_n hx hb dX4_nextToken_38 rfl (lv_at hl 0 rfl) ?_
        refine lv_aload_n hx hb dX4_nextToken_39 rfl (lv_at hl 0 rfl) ?_
        refine x_get E hw fw_X4_25 0 rfl rfl dX4_nextToken_40 ?_
        refine x_put (ws' := xT G a f (nI z) (nI q) (nI q) S.2.2.1 S.2.2.2) (ty := .int) E hw fw_X4_44 0 rfl rfl rfl (by decide +kernel) rfl rfl (Nat.le_of_ble_eq_true rfl) dX4_nextToken_43 rfl (fun H locs hw => ?_)
        refine lv_aload_n hx hb dX4_nextToken_46 rfl (lv_at hl 0 rfl) ?_
        refine x_get E hw fw_X4_44 0 rfl rfl dX4_nextToken_47 ?_
        refine lv_aload_n hx hb dX4_nextToken_50 rfl (lv_at hl 0 rfl) ?_
        refine x_get E hw fw_X4_15 0 rfl rfl dX4_nextToken_51 ?_
        refine lv_icmp_lt (tgt := 65) hx hb dX4_nextToken_54 rfl (fun cq54 => ?_) (fun cq54 => ?_)
        · skip
          have cq54 : q < z := (cv_lt (a := q) (b := z) rfl rfl (by omega) (by omega)).mp cq54
          refine lv_aload_n hx hb dX4_nextToken_65 rfl (lv_at hl 0 rfl) ?_
          refine x_get E hw fw_X4_9 0 rfl rfl dX4_nextToken_66 ?_
          refine lv_aload_n hx hb dX4_nextToken_69 rfl (lv_at hl 0 rfl) ?_
          refine x_get E hw fw_X4_44 0 rfl rfl dX4_nextToken_70 ?_
          refine x_bald E hw 1 rfl q (rfl) (by omega) (by omega) dX4_nextToken_73 ?_
          refine x_callS (is := []) (As := [.int (f q)]) (rest := []) (st1 := [.int (bI (inI (f q) 97 122))]) (ws' := xT G a f (nI z) (nI q) (nI q) S.2.2.1 S.2.2.2) E (c_X4_isLetter l G (f q)) sw_X4_75 hw [] rfl rfl rfl rfl hl.1 rfl rfl (Nat.le_of_ble_eq_true rfl) ⟨Nat.le_of_ble_eq_true rfl, Nat.le_of_ble_eq_true rfl⟩ (Nat.zero_le _) (Nat.zero_le _) dX4_nextToken_74 rfl rfl (fun H locs hw => ?_)
          refine lv_if_eq (tgt := 87) hx hb dX4_nextToken_77 rfl (fun cq77 => ?_) (fun cq77 => ?_)
          · skip
            have cq77 := bI_0.mp cq77
            refine lv_aload_n hx hb dX4_nextToken_87 rfl (lv_at hl 0 rfl) ?_
            refine x_get E hw fw_X4_9 0 rfl rfl dX4_nextToken_88 ?_
            refine lv_aload_n hx hb dX4_nextToken_91 rfl (lv_at hl 0 rfl) ?_
            refine x_get E hw fw_X4_44 0 rfl rfl dX4_nextToken_92 ?_
            refine x_bald E hw 1 rfl q (rfl) (by omega) (by omega) dX4_nextToken_95 ?_
            refine x_callS (is := []) (As := [.int (f q)]) (rest := []) (st1 := [.int (bI (inI (f q) 48 57))]) (ws' := xT G a f (nI z) (nI q) (nI q) S.2.2.1 S.2.2.2) E (c_X4_isFigure l G (f q)) sw_X4_81 hw [] rfl rfl rfl rfl hl.1 rfl rfl (Nat.le_of_ble_eq_true rfl) ⟨Nat.le_of_ble_eq_true rfl, Nat.le_of_ble_eq_true rfl⟩ (Nat.zero_le _) (Nat.zero_le _) dX4_nextToken_96 rfl rfl (fun H locs hw => ?_)
            refine lv_if_eq (tgt := 109) hx hb dX4_nextToken_99 rfl (fun cq99 => ?_) (fun cq99 => ?_)
            · skip
              have cq99 := bI_0.mp cq99
              refine lv_aload_n hx hb dX4_nextToken_109 rfl (lv_at hl 0 rfl) ?_
              refine lv_aload_n hx hb dX4_nextToken_110 rfl (lv_at hl 0 rfl) ?_
              refine x_get E hw fw_X4_9 0 rfl rfl dX4_nextToken_111 ?_
              refine lv_aload_n hx hb dX4_nextToken_114 rfl (lv_at hl 0 rfl) ?_
              refine x_get E hw fw_X4_44 0 rfl rfl dX4_nextToken_115 ?_
              refine x_bald E hw 1 rfl q (rfl) (by omega) (by omega) dX4_nextToken_118 ?_
              refine lv_bipush (v := 59) hx hb dX4_nextToken_119 rfl ?_
              refine lv_icmp_ne (tgt := 128) hx hb dX4_nextToken_121 rfl (fun cq121 => ?_) (fun cq121 => ?_)
              · skip
                refine lv_bipush (v := 6) hx hb dX4_nextToken_128 rfl ?_
                refine x_put (ws' := xT G a f (nI z) (nI q) (nI q) 6 S.2.2.2) (ty := .int) E hw fw_X4_31 0 rfl rfl rfl (by decide +kernel) rfl rfl (Nat.le_of_ble_eq_true rfl) dX4_nextToken_130 rfl (fun H locs hw => ?_)
                refine lv_aload_n hx hb dX4_nextToken_133 rfl (lv_at hl 0 rfl) ?_
                refine lv_dup hx hb dX4_nextToken_134 rfl ?_
                refine x_get E hw fw_X4_25 0 rfl rfl dX4_nextToken_135 ?_
                refine lv_iconst (v := 1) hx hb dX4_nextToken_138 rfl ?_
                refine lv_iadd hx hb dX4_nextToken_139 ?_
                refine x_topi (y := nI (q + 1)) ((ix_add (a := q) (b := 1) rfl rfl)) ?_
                refine x_put (ws' := xT G a f (nI z) (nI (q + 1)) (nI q) 6 S.2.2.2) (ty := .int) E hw fw_X4_25 0 rfl rfl rfl (by decide +kernel) rfl rfl (Nat.le_of_ble_eq_true rfl) dX4_nextToken_140 rfl (fun H locs hw => ?_)
                exact x_vret E hA rt hw dX4_nextToken_143 ((congrArg (fun T : Cs => xT G a f (nI z) (nI T.1) (nI T.2.1) T.2.2.1 T.2.2.2) (show T = (q + 1, q, 6, S.2.2.2) from by rw [← hT, nxk, eq9, ntk, if_neg (by omega), if_neg (by rw [cq77]; decide), if_neg (by rw [cq99]; decide), if_neg cq121])).symm)
              · skip
                refine lv_iconst (v := 1) hx hb dX4_nextToken_124 rfl ?_
                refine lv_goto (tgt := 130) hx hb dX4_nextToken_125 rfl ?_
                refine x_put (ws' := xT G a f (nI z) (nI q) (nI q) 1 S.2.2.2) (ty := .int) E hw fw_X4_31 0 rfl rfl rfl (by decide +kernel) rfl rfl (Nat.le_of_ble_eq_true rfl) dX4_nextToken_130 rfl (fun H locs hw => ?_)
                refine lv_aload_n hx hb dX4_nextToken_133 rfl (lv_at hl 0 rfl) ?_
                refine lv_dup hx hb dX4_nextToken_134 rfl ?_
                refine x_get E hw fw_X4_25 0 rfl rfl dX4_nextToken_135 ?_
                refine lv_iconst (v := 1) hx hb dX4_nextToken_138 rfl ?_
                refine lv_iadd hx hb dX4_nextToken_139 ?_
                refine x_topi (y := nI (q + 1)) ((ix_add (a := q) (b := 1) rfl rfl)) ?_
                refine x_put (ws' := xT G a f (nI z) (nI (q + 1)) (nI q) 1 S.2.2.2) (ty := .int) E hw fw_X4_25 0 rfl rfl rfl (by decide +kernel) rfl rfl (Nat.le_of_ble_eq_true rfl) dX4_nextToken_140 rfl (fun H locs hw => ?_)
                exact x_vret E hA rt hw dX4_nextToken_143 ((congrArg (fun T : Cs => xT G a f (nI z) (nI T.1) (nI T.2.1) T.2.2.1 T.2.2.2) (show T = (q + 1, q, 1, S.2.2.2) from by rw [← hT, nxk, eq9, ntk, if_neg (by omega), if_neg (by rw [cq77]; decide), if_neg (by rw [cq99]; decide), if_pos cq121])).symm)
            · skip
              have cq99 := bI_n0.mp cq99
              refine lv_aload_n hx hb dX4_nextToken_102 rfl (lv_at hl 0 rfl) ?_
              refine x_callV (is := [0, 1]) (q0 := 0) (As := []) (rest := []) (st1 := []) (ws' := xT G a f (nI z) (nI (vlM f z q (z - q) 0 q).2) (nI q) (if (vlM f z q (z - q) 0 q).2 - q ≤ 2 then 2 else 6) ((vlM f z q (z - q) 0 q).1)) E (c_X4_takeFigures l G a f z q S.2.2.1 S.2.2.2 (by omega) (hz)) vw_X4_84 hw [0, 1] rfl rfl rfl rfl rfl rfl rfl hl.1 rfl rfl (Nat.le_of_ble_eq_true rfl) ⟨Nat.le_of_ble_eq_true rfl, Nat.le_of_ble_eq_true rfl⟩ (Nat.zero_le _) (Nat.zero_le _) dX4_nextToken_103 rfl rfl (fun H locs hw => ?_)
              refine lv_goto (tgt := 143) hx hb dX4_nextToken_106 rfl ?_
              exact x_vret E hA rt hw dX4_nextToken_143 ((congrArg (fun T : Cs => xT G a f (nI z) (nI T.1) (nI T.2.1) T.2.2.1 T.2.2.2) (show T = ((vlM f z q (z - q) 0 q).2, q, (if (vlM f z q (z - q) 0 q).2 - q ≤ 2 then 2 else 6), (vlM f z q (z - q) 0 q).1) from by rw [← hT, nxk, eq9, ntk, if_neg (by omega), if_neg (by rw [cq77]; decide), if_pos cq99])).symm)
          · skip
            have cq77 := bI_n0.mp cq77
            refine lv_aload_n hx hb dX4_nextToken_80 rfl (lv_at hl 0 rfl) ?_
            refine k_callV (is := [0, 1]) (q0 := 0) (As := []) (rest := []) (st1 := []) (ws' := xT G a f (nI z) (nI (leC f z (z - (q, q, S.2.2.1, S.2.2.2).1) (q, q, S.2.2.1, S.2.2.2).1)) (nI q) (wkC f (q, q, S.2.2.1, S.2.2.2).2.1 (leC f z (z - (q, q, S.2.2.1, S.2.2.2).1) (q, q, S.2.2.1, S.2.2.2).1)) S.2.2.2) E hS (c_X4_takeWord K l G a f z (q, q, S.2.2.1, S.2.2.2) (Nat.le_refl q) (hq2) (hz)) vw_X4_78 hw [0, 1] rfl rfl rfl rfl rfl rfl rfl hl.1 rfl rfl (Nat.le_of_ble_eq_true rfl) ⟨Nat.le_of_ble_eq_true rfl, Nat.le_of_ble_eq_true rfl⟩ (Nat.zero_le _) (Nat.zero_le _) dX4_nextToken_81 rfl rfl (fun H locs hw => ?_)
            refine lv_goto (tgt := 143) hx hb dX4_nextToken_84 rfl ?_
            exact x_vret E hA rt hw dX4_nextToken_143 ((congrArg (fun T : Cs => xT G a f (nI z) (nI T.1) (nI T.2.1) T.2.2.1 T.2.2.2) (show T = (leC f z (z - (q, q, S.2.2.1, S.2.2.2).1) (q, q, S.2.2.1, S.2.2.2).1, q, wkC f (q, q, S.2.2.1, S.2.2.2).2.1 (leC f z (z - (q, q, S.2.2.1, S.2.2.2).1) (q, q, S.2.2.1, S.2.2.2).1), S.2.2.2) from by rw [← hT, nxk, eq9, ntk, if_neg (by omega), if_pos cq77])).symm)
        · skip
          have cq54 : ¬ q < z := fun h => cq54 ((cv_lt (a := q) (b := z) rfl rfl (by omega) (by omega)).mpr h)
          refine lv_aload_n hx hb dX4_nextToken_57 rfl (lv_at hl 0 rfl) ?_
          refine lv_iconst (v := 0) hx hb dX4_nextToken_58 rfl ?_
          refine x_put (ws' := xT G a f (nI z) (nI q) (nI q) 0 S.2.2.2) (ty := .int) E hw fw_X4_31 0 rfl rfl rfl (by decide +kernel) rfl rfl (Nat.le_of_ble_eq_true rfl) dX4_nextToken_59 rfl (fun H locs hw => ?_)
          refine lv_goto (tgt := 143) hx hb dX4_nextToken_62 rfl ?_
          exact x_vret E hA rt hw dX4_nextToken_143 ((congrArg (fun T : Cs => xT G a f (nI z) (nI T.1) (nI T.2.1) T.2.2.1 T.2.2.2) (show T = (q, q, 0, S.2.2.2) from by rw [← hT, nxk, eq9, ntk, if_pos (by omega)])).symm)
      · skip
        have cq8 : ¬ z ≤ q := fun h => cq8 ((cv_le (a := z) (b := q) rfl rfl (by omega) (by omega)).mpr h)
        refine lv_aload_n hx hb dX4_nextToken_11 rfl (lv_at hl 0 rfl) ?_
        refine x_get E hw fw_X4_9 0 rfl rfl dX4_nextToken_12 ?_
        refine lv_aload_n hx hb dX4_nextToken_15 rfl (lv_at hl 0 rfl) ?_
        refine x_get E hw fw_X4_25 0 rfl rfl dX4_nextToken_16 ?_
        refine x_bald E hw 1 rfl q (rfl) (by omega) (by omega) dX4_nextToken_19 ?_
        refine lv_bipush (v := 32) hx hb dX4_nextToken_20 rfl ?_
        refine lv_icmp_ne (tgt := 38) hx hb dX4_nextToken_22 rfl (fun cq22 => ?_) (fun cq22 => ?_)
        · skip
          have eq9 : skM f z (z - S.1) S.1 = q := by rw [← hiv]; exact skM_end (by rw [hrM_in (by omega)]; exact cq22) _
          refine lv_aload_n hx hb dX4_nextToken_38 rfl (lv_at hl 0 rfl) ?_
          refine lv_aload_n hx hb dX4_nextToken_39 rfl (lv_at hl 0 rfl) ?_
          refine x_get E hw fw_X4_25 0 rfl rfl dX4_nextToken_40 ?_
          refine x_put (ws' := xT G a f (nI z) (nI q) (nI q) S.2.2.1 S.2.2.2) (ty := .int) E hw fw_X4_44 0 rfl rfl rfl (by decide +kernel) rfl rfl (Nat.le_of_ble_eq_true rfl) dX4_nextToken_43 rfl (fun H locs hw => ?_)
          refine lv_aload_n hx hb dX4_nextToken_46 rfl (lv_at hl 0 rfl) ?_
          refine x_get E hw fw_X4_44 0 rfl rfl dX4_nextToken_47 ?_
          refine lv_aload_n hx hb dX4_nextToken_50 rfl (lv_at hl 0 rfl) ?_
          refine x_get E hw fw_X4_15 0 rfl rfl dX4_nextToken_51 ?_
          refine lv_icmp_lt (tgt := 65) hx hb dX4_nextToken_54 rfl (fun cq54 => ?_) (fun cq54 => ?_)
          · skip
            have cq54 : q < z := (cv_lt (a := q) (b := z) rfl rfl (by omega) (by omega)).mp cq54
            refine lv_aload_n hx hb dX4_nextToken_65 rfl (lv_at hl 0 rfl) ?_
            refine x_get E hw fw_X4_9 0 rfl rfl dX4_nextToken_66 ?_
            refine lv_aload_n hx hb dX4_nextToken_69 rfl (lv_at hl 0 rfl) ?_
            refine x_get E hw fw_X4_44 0 rfl rfl dX4_nextToken_70 ?_
            refine x_bald E hw 1 rfl q (rfl) (by omega) (by omega) dX4_nextToken_73 ?_
            refine x_callS (is := []) (As := [.int (f q)]) (rest := []) (st1 := [.int (bI (inI (f q) 97 122))]) (ws' := xT G a f (nI z) (nI q) (nI q) S.2.2.1 S.2.2.2) E (c_X4_isLetter l G (f q)) sw_X4_75 hw [] rfl rfl rfl rfl hl.1 rfl rfl (Nat.le_of_ble_eq_true rfl) ⟨Nat.le_of_ble_eq_true rfl, Nat.le_of_ble_eq_true rfl⟩ (Nat.zero_le _) (Nat.zero_le _) dX4_nextToken_74 rfl rfl (fun H locs hw => ?_)
            refine lv_if_eq (tgt := 87) hx hb dX4_nextToken_77 rfl (fun cq77 => ?_) (fun cq77 => ?_)
            · skip
              have cq77 := bI_0.mp cq77
              refine lv_aload_n hx hb dX4_nextToken_87 rfl (lv_at hl 0 rfl) ?_
              refine x_get E hw fw_X4_9 0 rfl rfl dX4_nextToken_88 ?_
              refine lv_aload_n hx hb dX4_nextToken_91 rfl (lv_at hl 0 rfl) ?_
              refine x_get E hw fw_X4_44 0 rfl rfl dX4_nextToken_92 ?_
              refine x_bald E hw 1 rfl q (rfl) (by omega) (by omega) dX4_nextToken_95 ?_
              refine x_callS (is := []) (As := [.int (f q)]) (rest := []) (st1 := [.int (bI (inI (f q) 48 57))]) (ws' := xT G a f (nI z) (nI q) (nI q) S.2.2.1 S.2.2.2) E (c_X4_isFigure l G (f q)) sw_X4_81 hw [] rfl rfl rfl rfl hl.1 rfl rfl (Nat.le_of_ble_eq_true rfl) ⟨Nat.le_of_ble_eq_true rfl, Nat.le_of_ble_eq_true rfl⟩ (Nat.zero_le _) (Nat.zero_le _) dX4_nextToken_96 rfl rfl (fun H locs hw => ?_)
              refine lv_if_eq (tgt := 109) hx hb dX4_nextToken_99 rfl (fun cq99 => ?_) (fun cq99 => ?_)
              · skip
                have cq99 := bI_0.mp cq99
                refine lv_aload_n hx hb dX4_nextToken_109 rfl (lv_at hl 0 rfl) ?_
                refine lv_aload_n hx hb dX4_nextToken_110 rfl (lv_at hl 0 rfl) ?_
                refine x_get E hw fw_X4_9 0 rfl rfl dX4_nextToken_111 ?_
                refine lv_aload_n hx hb dX4_nextToken_114 rfl (lv_at hl 0 rfl) ?_
                refine x_get E hw fw_X4_44 0 rfl rfl dX4_nextToken_115 ?_
                refine x_bald E hw 1 rfl q (rfl) (by omega) (by omega) dX4_nextToken_118 ?_
                refine lv_bipush (v := 59) hx hb dX4_nextToken_119 rfl ?_
                refine lv_icmp_ne (tgt := 128) hx hb dX4_nextToken_121 rfl (fun cq121 => ?_) (fun cq121 => ?_)
                · skip
                  refine lv_bipush (v := 6) hx hb dX4_nextToken_128 rfl ?_
                  refine x_put (ws' := xT G a f (nI z) (nI q) (nI q) 6 S.2.2.2) (ty := .int) E hw fw_X4_31 0 rfl rfl rfl (by decide +kernel) rfl rfl (Nat.le_of_ble_eq_true rfl) dX4_nextToken_130 rfl (fun H locs hw => ?_)
                  refine lv_aload_n hx hb dX4_nextToken_133 rfl (lv_at hl 0 rfl) ?_
                  refine lv_dup hx hb dX4_nextToken_134 rfl ?_
                  refine x_get E hw fw_X4_25 0 rfl rfl dX4_nextToken_135 ?_
                  refine lv_iconst (v := 1) hx hb dX4_nextToken_138 rfl ?_
                  refine lv_iadd hx hb dX4_nextToken_139 ?_
                  refine x_topi (y := nI (q + 1)) ((ix_add (a := q) (b := 1) rfl rfl)) ?_
                  refine x_put (ws' := xT G a f (nI z) (nI (q + 1)) (nI q) 6 S.2.2.2) (ty := .int) E hw fw_X4_25 0 rfl rfl rfl (by decide +kernel) rfl rfl (Nat.le_of_ble_eq_true rfl) dX4_nextToken_140 rfl (fun H locs hw => ?_)
                  exact x_vret E hA rt hw dX4_nextToken_143 ((congrArg (fun T : Cs => xT G a f (nI z) (nI T.1) (nI T.2.1) T.2.2.1 T.2.2.2) (show T = (q + 1, q, 6, S.2.2.2) from by rw [← hT, nxk, eq9, ntk, if_neg (by omega), if_neg (by rw [cq77]; decide), if_neg (by rw [cq99]; decide), if_neg cq121])).symm)
                · skip
                  refine lv_iconst (v := 1) hx hb dX4_nextToken_124 rfl ?_
                  refine lv_goto (tgt := 130) hx hb dX4_nextToken_125 rfl ?_
                  refine x_put (ws' := xT G a f (nI z) (nI q) (nI q) 1 S.2.2.2) (ty := .int) E hw fw_X4_31 0 rfl rfl rfl (by decide +kernel) rfl rfl (Nat.le_of_ble_eq_true rfl) dX4_nextToken_130 rfl (fun H locs hw => ?_)
                  refine lv_aload_n hx hb dX4_nextToken_133 rfl (lv_at hl 0 rfl) ?_
                  refine lv_dup hx hb dX4_nextToken_134 rfl ?_
                  refine x_get E hw fw_X4_25 0 rfl rfl dX4_nextToken_135 ?_
                  refine lv_iconst (v := 1) hx hb dX4_nextToken_138 rfl ?_
                  refine lv_iadd hx hb dX4_nextToken_139 ?_
                  refine x_topi (y := nI (q + 1)) ((ix_add (a := q) (b := 1) rfl rfl)) ?_
                  refine x_put (ws' := xT G a f (nI z) (nI (q + 1)) (nI q) 1 S.2.2.2) (ty := .int) E hw fw_X4_25 0 rfl rfl rfl (by decide +kernel) rfl rfl (Nat.le_of_ble_eq_true rfl) dX4_nextToken_140 rfl (fun H locs hw => ?_)
                  exact x_vret E hA rt hw dX4_nextToken_143 ((congrArg (fun T : Cs => xT G a f (nI z) (nI T.1) (nI T.2.1) T.2.2.1 T.2.2.2) (show T = (q + 1, q, 1, S.2.2.2) from by rw [← hT, nxk, eq9, ntk, if_neg (by omega), if_neg (by rw [cq77]; decide), if_neg (by rw [cq99]; decide), if_pos cq121])).symm)
              · skip
                have cq99 := bI_n0.mp cq99
                refine lv_aload_n hx hb dX4_nextToken_102 rfl (lv_at hl 0 rfl) ?_
                refine x_callV (is := [0, 1]) (q0 := 0) (As := []) (rest := []) (st1 := []) (ws' := xT G a f (nI z) (nI (vlM f z q (z - q) 0 q).2) (nI q) (if (vlM f z q (z - q) 0 q).2 - q ≤ 2 then 2 else 6) ((vlM f z q (z - q) 0 q).1)) E (c_X4_takeFigures l G a f z q S.2.2.1 S.2.2.2 (by omega) (hz)) vw_X4_84 hw [0, 1] rfl rfl rfl rfl rfl rfl rfl hl.1 rfl rfl (Nat.le_of_ble_eq_true rfl) ⟨Nat.le_of_ble_eq_true rfl, Nat.le_of_ble_eq_true rfl⟩ (Nat.zero_le _) (Nat.zero_le _) dX4_nextToken_103 rfl rfl (fun H locs hw => ?_)
                refine lv_goto (tgt := 143) hx hb dX4_nextToken_106 rfl ?_
                exact x_vret E hA rt hw dX4_nextToken_143 ((congrArg (fun T : Cs => xT G a f (nI z) (nI T.1) (nI T.2.1) T.2.2.1 T.2.2.2) (show T = ((vlM f z q (z - q) 0 q).2, q, (if (vlM f z q (z - q) 0 q).2 - q ≤ 2 then 2 else 6), (vlM f z q (z - q) 0 q).1) from by rw [← hT, nxk, eq9, ntk, if_neg (by omega), if_neg (by rw [cq77]; decide), if_pos cq99])).symm)
            · skip
              have cq77 := bI_n0.mp cq77
              refine lv_aload_n hx hb dX4_nextToken_80 rfl (lv_at hl 0 rfl) ?_
              refine k_callV (is := [0, 1]) (q0 := 0) (As := []) (rest := []) (st1 := []) (ws' := xT G a f (nI z) (nI (leC f z (z - (q, q, S.2.2.1, S.2.2.2).1) (q, q, S.2.2.1, S.2.2.2).1)) (nI q) (wkC f (q, q, S.2.2.1, S.2.2.2).2.1 (leC f z (z - (q, q, S.2.2.1, S.2.2.2).1) (q, q, S.2.2.1, S.2.2.2).1)) S.2.2.2) E hS (c_X4_takeWord K l G a f z (q, q, S.2.2.1, S.2.2.2) (Nat.le_refl q) (hq2) (hz)) vw_X4_78 hw [0, 1] rfl rfl rfl rfl rfl rfl rfl hl.1 rfl rfl (Nat.le_of_ble_eq_true rfl) ⟨Nat.le_of_ble_eq_true rfl, Nat.le_of_ble_eq_true rfl⟩ (Nat.zero_le _) (Nat.zero_le _) dX4_nextToken_81 rfl rfl (fun H locs hw => ?_)
              refine lv_goto (tgt := 143) hx hb dX4_nextToken_84 rfl ?_
              exact x_vret E hA rt hw dX4_nextToken_143 ((congrArg (fun T : Cs => xT G a f (nI z) (nI T.1) (nI T.2.1) T.2.2.1 T.2.2.2) (show T = (leC f z (z - (q, q, S.2.2.1, S.2.2.2).1) (q, q, S.2.2.1, S.2.2.2).1, q, wkC f (q, q, S.2.2.1, S.2.2.2).2.1 (leC f z (z - (q, q, S.2.2.1, S.2.2.2).1) (q, q, S.2.2.1, S.2.2.2).1), S.2.2.2) from by rw [← hT, nxk, eq9, ntk, if_neg (by omega), if_pos cq77])).symm)
          · skip
            have cq54 : ¬ q < z := fun h => cq54 ((cv_lt (a := q) (b := z) rfl rfl (by omega) (by omega)).mpr h)
            refine lv_aload_n hx hb dX4_nextToken_57 rfl (lv_at hl 0 rfl) ?_
            refine lv_iconst (v := 0) hx hb dX4_nextToken_58 rfl ?_
            refine x_put (ws' := xT G a f (nI z) (nI q) (nI q) 0 S.2.2.2) (ty := .int) E hw fw_X4_31 0 rfl rfl rfl (by decide +kernel) rfl rfl (Nat.le_of_ble_eq_true rfl) dX4_nextToken_59 rfl (fun H locs hw => ?_)
            refine lv_goto (tgt := 143) hx hb dX4_nextToken_62 rfl ?_
            exact x_vret E hA rt hw dX4_nextToken_143 ((congrArg (fun T : Cs => xT G a f (nI z) (nI T.1) (nI T.2.1) T.2.2.1 T.2.2.2) (show T = (q, q, 0, S.2.2.2) from by rw [← hT, nxk, eq9, ntk, if_pos (by omega)])).symm)
        · skip
          refine lv_aload_n hx hb dX4_nextToken_25 rfl (lv_at hl 0 rfl) ?_
          refine lv_dup hx hb dX4_nextToken_26 rfl ?_
          refine x_get E hw fw_X4_25 0 rfl rfl dX4_nextToken_27 ?_
          refine lv_iconst (v := 1) hx hb dX4_nextToken_30 rfl ?_
          refine lv_iadd hx hb dX4_nextToken_31 ?_
          refine x_topi (y := nI (q + 1)) ((ix_add (a := q) (b := 1) rfl rfl)) ?_
          refine x_put (ws' := xT G a f (nI z) (nI (q + 1)) (nI S.2.1) S.2.2.1 S.2.2.2) (ty := .int) E hw fw_X4_25 0 rfl rfl rfl (by decide +kernel) rfl rfl (Nat.le_of_ble_eq_true rfl) dX4_nextToken_32 rfl (fun H locs hw => ?_)
          refine lv_goto (tgt := 0) hx hb dX4_nextToken_35 rfl ?_
          exact ih0 (q + 1) (by omega) (by rw [← hiv]; exact (skM_step (by rw [hrM_in (by omega)]; exact cq22)).symm) (by omega) _ _ _ hw (lv_sub hl [0] rfl)
  exact lp0 (z - S.1 + 1) S.1 (hp) (rfl) (by omega) _ _ _ hw (lv_sub hl [0] rfl)
set_option maxHeartbeats 1000000 in
set_option maxRecDepth 100000 in
theorem c_X4_nextNumber (K : KA) (l : Launch) (G : GG) (a : Nat → Nat) (x : Int32) (f : Nat → Int32) (z : Nat) (S : Cs) (T : Cs) (hp : S.1 ≤ z) (hz : z ≤ 150) (hT : nxk f z S = T) : CK K l G yX4_nextNumber cX4_nextNumber 2 (some .boolean) 7 147 [.ref (a 0), .int x] (xT G a f (nI z) (nI S.1) (nI S.2.1) S.2.2.1 S.2.2.2) (some (.int (bI (nbC T x)))) (xT G a f (nI z) (nI T.1) (nI T.2.1) T.2.2.1 T.2.2.2) := by
  refine CK.mk (own := RX4) (la := [(0, .ref (a 0)), (1, .int x)]) (by decide) rfl (Nat.le_of_ble_eq_true rfl) rfl ?_
  intro p e s m args below meth c A Q E hA hw rt ls hl hS
  have hx := E.1
  have hb := E.2.1
  refine lv_aload_n hx hb dX4_nextNumber_0 rfl (lv_at hl 0 rfl) ?_
  refine k_callV (is := [0, 1]) (q0 := 0) (As := []) (rest := []) (st1 := []) (ws' := xT G a f (nI z) (nI T.1) (nI T.2.1) T.2.2.1 T.2.2.2) E hS (c_X4_nextToken K l G a f z S T (by omega) (hz) (hT)) vw_X4_28 hw [0, 1] rfl rfl rfl rfl rfl rfl rfl hl.1 rfl rfl (Nat.le_of_ble_eq_true rfl) ⟨Nat.le_of_ble_eq_true rfl, Nat.le_of_ble_eq_true rfl⟩ (Nat.zero_le _) (Nat.zero_le _) dX4_nextNumber_1 rfl rfl (fun H locs hw => ?_)
  refine lv_aload_n hx hb dX4_nextNumber_4 rfl (lv_at hl 0 rfl) ?_
  refine x_get E hw fw_X4_31 0 rfl rfl dX4_nextNumber_5 ?_
  refine lv_iconst (v := 2) hx hb dX4_nextNumber_8 rfl ?_
  refine lv_icmp_ne (tgt := 24) hx hb dX4_nextNumber_9 rfl (fun cq9 => ?_) (fun cq9 => ?_)
  · skip
    refine lv_iconst (v := 0) hx hb dX4_nextNumber_24 rfl ?_
    exact x_zret E hA rt hw (by decide) dX4_nextNumber_25 (by simp [nbC, bI, cq9]) rfl
  · skip
    refine lv_aload_n hx hb dX4_nextNumber_12 rfl (lv_at hl 0 rfl) ?_
    refine x_get E hw fw_X4_51 0 rfl rfl dX4_nextNumber_13 ?_
    refine lv_iload_n hx hb dX4_nextNumber_16 rfl (lv_at hl 1 rfl) ?_
    refine lv_icmp_gt (tgt := 24) hx hb dX4_nextNumber_17 rfl (fun cq17 => ?_) (fun cq17 => ?_)
    · skip
      refine lv_iconst (v := 0) hx hb dX4_nextNumber_24 rfl ?_
      exact x_zret E hA rt hw (by decide) dX4_nextNumber_25 (by simp [nbC, bI, cq9, cq17]) rfl
    · skip
      refine lv_iconst (v := 1) hx hb dX4_nextNumber_20 rfl ?_
      refine lv_goto (tgt := 25) hx hb dX4_nextNumber_21 rfl ?_
      exact x_zret E hA rt hw (by decide) dX4_nextNumber_25 (by simp [nbC, bI, cq9, cq17]) rfl
set_option maxHeartbeats 1000000 in
set_option maxRecDepth 100000 in
theorem c_X4_nextMark (K : KA) (l : Launch) (G : GG) (a : Nat → Nat) (f : Nat → Int32) (z : Nat) (S : Cs) (T : Cs) (hp : S.1 ≤ z) (hz : z ≤ 150) (hT : nxk f z S = T) : CK K l G yX4_nextMark cX4_nextMark 1 (some .boolean) 7 147 [.ref (a 0)] (xT G a f (nI z) (nI S.1) (nI S.2.1) S.2.2.1 S.2.2.2) (some (.int (bI (mkC T)))) (xT G a f (nI z) (nI T.1) (nI T.2.1) T.2.2.1 T.2.2.2) := by
  refine CK.mk (own := RX4) (la := [(0, .ref (a 0))]) (by decide) rfl (Nat.le_of_ble_eq_true rfl) rfl ?_
  intro p e s m args below meth c A Q E hA hw rt ls hl hS
  have hx := E.1
  have hb := E.2.1
  refine lv_aload_n hx hb dX4_nextMark_0 rfl (lv_at hl 0 rfl) ?_
  refine k_callV (is := [0, 1]) (q0 := 0) (As := []) (rest := []) (st1 := []) (ws' := xT G a f (nI z) (nI T.1) (nI T.2.1) T.2.2.1 T.2.2.2) E hS (c_X4_nextToken K l G a f z S T (by omega) (hz) (hT)) vw_X4_28 hw [0, 1] rfl rfl rfl rfl rfl rfl rfl hl.1 rfl rfl (Nat.le_of_ble_eq_true rfl) ⟨Nat.le_of_ble_eq_true rfl, Nat.le_of_ble_eq_true rfl⟩ (Nat.zero_le _) (Nat.zero_le _) dX4_nextMark_1 rfl rfl (fun H locs hw => ?_)
  refine lv_aload_n hx hb dX4_nextMark_4 rfl (lv_at hl 0 rfl) ?_
  refine x_get E hw fw_X4_31 0 rfl rfl dX4_nextMark_5 ?_
  refine lv_iconst (v := 1) hx hb dX4_nextMark_8 rfl ?_
  refine lv_icmp_ne (tgt := 16) hx hb dX4_nextMark_9 rfl (fun cq9 => ?_) (fun cq9 => ?_)
  · skip
    refine lv_iconst (v := 0) hx hb dX4_nextMark_16 rfl ?_
    exact x_zret E hA rt hw (by decide) dX4_nextMark_17 (by simp [mkC, bI, cq9]) rfl
  · skip
    refine lv_iconst (v := 1) hx hb dX4_nextMark_12 rfl ?_
    refine lv_goto (tgt := 17) hx hb dX4_nextMark_13 rfl ?_
    exact x_zret E hA rt hw (by decide) dX4_nextMark_17 (by simp [mkC, bI, cq9]) rfl

set_option maxHeartbeats 1000000 in
set_option maxRecDepth 100000 in
theorem c_X6_goes (l : Launch) (G : GG) (q : Nat) (t : Nat → Int32) (len : Nat) (n : Nat) (h35 : 35 ≤ len) (hlen : len < 2147483648) (hc : t 22 = nI n) (hn : n ≤ 6) : CT l G yX6_goes cX6_goes 3 none 5 112 [.ref q] (aW G q len t) none (aW G q len (goM t n)) := by
  refine CT.mk (own := RX6) (la := [(0, .ref q)]) (by decide) rfl (Nat.le_of_ble_eq_true rfl) rfl ?_
  intro p e s m args below meth c A Q E hA hw rt ls hl
  have hx := E.1
  have hb := E.2.1
  refine lv_aload_n hx hb dX6_goes_0 rfl (lv_at hl 0 rfl) ?_
  refine x_callS (is := [0]) (As := [.ref q]) (rest := []) (st1 := [.int (bitrM t n)]) (ws' := aW G q len t) E (c_X6_biters l G q t len n (by omega) (by omega) (hc) (by omega)) sw_X6_176 hw [0] rfl rfl rfl rfl hl.1 rfl rfl (Nat.le_of_ble_eq_true rfl) ⟨Nat.le_of_ble_eq_true rfl, Nat.le_of_ble_eq_true rfl⟩ (Nat.zero_le _) (Nat.zero_le _) dX6_goes_1 rfl rfl (fun H locs hw => ?_)
  refine lv_istore_n (lv' := [(1, .int (bitrM t n)), (0, .ref q)]) hx hb dX6_goes_4 rfl hl (by decide) rfl (fun ls hl => ?_)
  refine lv_iconst (v := 0) hx hb dX6_goes_5 rfl ?_
  refine lv_istore_n (lv' := [(2, .int 0), (1, .int (bitrM t n)), (0, .ref q)]) hx hb dX6_goes_6 rfl hl (by decide) rfl (fun ls hl => ?_)
  have lp7 : ∀ (fuel : Nat), ∀ (k : Nat) (u : Nat → Int32) (hk : k ≤ n) (huu : u = gM (bitrM t n) (whJ t n) t k), (n - k) < fuel → ∀ (H : Heap) (locs : List Loc) (ls : Array Slot), Wd G A s H locs (aW G q len u) → lv_has ls 3 [(0, .ref q), (1, .int (bitrM t n)), (2, .int (nI k))] → W p l e (rmx 5 112) s m args below meth c H locs 0 0 Q (F0 m 7 ls []) := by
    intro fuel
    induction fuel with
    | zero => intro k u hk huu hfu; exact absurd hfu (Nat.not_lt_zero _)
    | succ fuel ih7 =>
      intro k u hk huu hfu H locs ls hw hl
      have ho : ∀ i, i < 6 ∨ 18 ≤ i → u i = t i := fun i hi => by rw [huu]; exact gM_out hn hi k hk
      refine lv_iload_n hx hb dX6_goes_7 rfl (lv_at hl 2 rfl) ?_
      refine lv_aload_n hx hb dX6_goes_8 rfl (lv_at hl 0 rfl) ?_
      refine lv_bipush (v := 22) hx hb dX6_goes_9 rfl ?_
      refine x_iald E hw 0 rfl 22 (rfl) (by omega) (by omega) dX6_goes_11 ?_
      refine lv_icmp_ge (tgt := 85) hx hb dX6_goes_12 rfl (fun cq12 => ?_) (fun cq12 => ?_)
      · skip
        have cq12 : n ≤ k := (cv_le (a := n) (b := k) ((ho 22 (by omega)).trans hc) rfl (by omega) (by omega)).mp cq12
        have ek : k = n := by omega
        refine lv_aload_n hx hb dX6_goes_85 rfl (lv_at hl 0 rfl) ?_
        refine lv_bipush (v := 19) hx hb dX6_goes_86 rfl ?_
        refine lv_iload_n hx hb dX6_goes_88 rfl (lv_at hl 1 rfl) ?_
        refine x_callS (is := []) (As := [.int (bitrM t n)]) (rest := [.int 19, .ref q]) (st1 := [.int (bitsV (bitrM t n)), .int 19, .ref q]) (ws' := aW G q len u) E (c_X6_bits l G (bitrM t n)) sw_X6_184 hw [] rfl rfl rfl rfl hl.1 rfl rfl (Nat.le_of_ble_eq_true rfl) ⟨Nat.le_of_ble_eq_true rfl, Nat.le_of_ble_eq_true rfl⟩ (Nat.zero_le _) (Nat.zero_le _) dX6_goes_89 rfl rfl (fun H locs hw => ?_)
        refine x_iast (ws' := aW G q len (upd u 19 (bitsV (bitrM t n)))) E hw 0 rfl 19 (rfl) (by omega) (by omega) dX6_goes_92 rfl (fun H locs hw => ?_)
        refine lv_aload_n hx hb dX6_goes_93 rfl (lv_at hl 0 rfl) ?_
        refine lv_bipush (v := 18) hx hb dX6_goes_94 rfl ?_
        refine lv_dup2_11 hx hb dX6_goes_96 rfl rfl ?_
        refine x_iald E hw 0 rfl 18 (rfl) (by omega) (by omega) dX6_goes_97 ?_
        refine lv_aload_n hx hb dX6_goes_98 rfl (lv_at hl 0 rfl) ?_
        refine lv_bipush (v := 19) hx hb dX6_goes_99 rfl ?_
        refine x_iald E hw 0 rfl 19 (rfl) (by omega) (by omega) dX6_goes_101 ?_
        refine lv_iadd hx hb dX6_goes_102 ?_
        refine x_iast (ws' := aW G q len (upd (upd u 19 (bitsV (bitrM t n))) 18 (((upd u 19 (bitsV (bitrM t n))) 18) + ((upd u 19 (bitsV (bitrM t n))) 19)))) E hw 0 rfl 18 (rfl) (by omega) (by omega) dX6_goes_103 rfl (fun H locs hw => ?_)
        refine lv_aload_n hx hb dX6_goes_104 rfl (lv_at hl 0 rfl) ?_
        refine lv_bipush (v := 21) hx hb dX6_goes_105 rfl ?_
        refine lv_dup2_11 hx hb dX6_goes_107 rfl rfl ?_
        refine x_iald E hw 0 rfl 21 (rfl) (by omega) (by omega) dX6_goes_108 ?_
        refine lv_iconst (v := 1) hx hb dX6_goes_109 rfl ?_
        refine lv_iadd hx hb dX6_goes_110 ?_
        refine x_iast (ws' := aW G q len (upd (upd (upd u 19 (bitsV (bitrM t n))) 18 (((upd u 19 (bitsV (bitrM t n))) 18) + ((upd u 19 (bitsV (bitrM t n))) 19))) 21 (((upd (upd u 19 (bitsV (bitrM t n))) 18 (((upd u 19 (bitsV (bitrM t n))) 18) + ((upd u 19 (bitsV (bitrM t n))) 19))) 21) + 1))) E hw 0 rfl 21 (rfl) (by omega) (by omega) dX6_goes_111 rfl (fun H locs hw => ?_)
        exact x_vret E hA rt hw dX6_goes_112 (by rw [huu, ek]; rfl)
      · skip
        have cq12 : ¬ n ≤ k := fun h => cq12 ((cv_le (a := n) (b := k) ((ho 22 (by omega)).trans hc) rfl (by omega) (by omega)).mpr h)
        refine lv_iload_n hx hb dX6_goes_15 rfl (lv_at hl 1 rfl) ?_
        refine lv_iload_n hx hb dX6_goes_16 rfl (lv_at hl 2 rfl) ?_
        refine x_callS (is := []) (As := [.int (bitrM t n), .int (nI k)]) (rest := []) (st1 := [.int (bI (hasI (bitrM t n) (nI k)))]) (ws' := aW G q len u) E (c_X6_has l G (bitrM t n) (nI k)) sw_X6_180 hw [] rfl rfl rfl rfl hl.1 rfl rfl (Nat.le_of_ble_eq_true rfl) ⟨Nat.le_of_ble_eq_true rfl, Nat.le_of_ble_eq_true rfl⟩ (Nat.zero_le _) (Nat.zero_le _) dX6_goes_17 rfl rfl (fun H locs hw => ?_)
        refine lv_if_eq (tgt := 54) hx hb dX6_goes_20 rfl (fun cq20 => ?_) (fun cq20 => ?_)
        · skip
          have cq20 := bI_0.mp cq20
          refine lv_aload_n hx hb dX6_goes_54 rfl (lv_at hl 0 rfl) ?_
          refine lv_bipush (v := 6) hx hb dX6_goes_55 rfl ?_
          refine lv_iload_n hx hb dX6_goes_57 rfl (lv_at hl 2 rfl) ?_
          refine lv_iadd hx hb dX6_goes_58 ?_
          refine lv_dup2_11 hx hb dX6_goes_59 rfl rfl ?_
          refine x_iald E hw 0 rfl (6 + k) ((ix_add (a := 6) (b := k) rfl rfl)) (by omega) (by omega) dX6_goes_60 ?_
          refine lv_aload_n hx hb dX6_goes_61 rfl (lv_at hl 0 rfl) ?_
          refine lv_bipush (v := 6) hx hb dX6_goes_62 rfl ?_
          refine lv_iload_n hx hb dX6_goes_64 rfl (lv_at hl 2 rfl) ?_
          refine lv_iadd hx hb dX6_goes_65 ?_
          refine x_iald E hw 0 rfl (6 + k) ((ix_add (a := 6) (b := k) rfl rfl)) (by omega) (by omega) dX6_goes_66 ?_
          refine lv_bipush (v := 30) hx hb dX6_goes_67 rfl ?_
          refine lv_icmp_ge (tgt := 76) hx hb dX6_goes_69 rfl (fun cq69 => ?_) (fun cq69 => ?_)
          · skip
            refine lv_iconst (v := 0) hx hb dX6_goes_76 rfl ?_
            refine lv_iadd hx hb dX6_goes_77 ?_
            refine x_iast (ws' := aW G q len (upd u (6 + k) ((u (6 + k)) + 0))) E hw 0 rfl (6 + k) ((ix_add (a := 6) (b := k) rfl rfl)) (by omega) (by omega) dX6_goes_78 rfl (fun H locs hw => ?_)
            refine lv_iinc (v := nI (k + 1)) (lv' := [(2, .int (nI (k + 1))), (0, .ref q), (1, .int (bitrM t n))]) hx hb dX6_goes_79 hl (k := 2) rfl (nI_add _ 1) (by decide) rfl (fun ls hl => ?_)
            refine lv_goto (tgt := 7) hx hb dX6_goes_82 rfl ?_
            exact ih7 (k + 1) (upd u (6 + k) ((u (6 + k)) + 0)) (by omega) (by rw [gM, ← huu]; simp [gS, cq20, cq69]) (by omega) _ _ _ hw (lv_sub hl [1, 2, 0] rfl)
          · skip
            refine lv_iconst (v := 1) hx hb dX6_goes_72 rfl ?_
            refine lv_goto (tgt := 77) hx hb dX6_goes_73 rfl ?_
            refine lv_iadd hx hb dX6_goes_77 ?_
            refine x_iast (ws' := aW G q len (upd u (6 + k) ((u (6 + k)) + 1))) E hw 0 rfl (6 + k) ((ix_add (a := 6) (b := k) rfl rfl)) (by omega) (by omega) dX6_goes_78 rfl (fun H locs hw => ?_)
            refine lv_iinc (v := nI (k + 1)) (lv' := [(2, .int (nI (k + 1))), (0, .ref q), (1, .int (bitrM t n))]) hx hb dX6_goes_79 hl (k := 2) rfl (nI_add _ 1) (by decide) rfl (fun ls hl => ?_)
            refine lv_goto (tgt := 7) hx hb dX6_goes_82 rfl ?_
            exact ih7 (k + 1) (upd u (6 + k) ((u (6 + k)) + 1)) (by omega) (by rw [gM, ← huu]; simp [gS, cq20, cq69]) (by omega) _ _ _ hw (lv_sub hl [1, 2, 0] rfl)
        · skip
          have cq20 := bI_n0.mp cq20
          obtain ⟨jw, hjw, ejw⟩ := bitrM_has hn cq20 (by omega)
          have hjk : whJ t n k = jw := by rw [whJ, ejw, nI_clamp (by omega)]
          refine lv_aload_n hx hb dX6_goes_23 rfl (lv_at hl 0 rfl) ?_
          refine lv_bipush (v := 12) hx hb dX6_goes_24 rfl ?_
          refine lv_aload_n hx hb dX6_goes_26 rfl (lv_at hl 0 rfl) ?_
          refine lv_iload_n hx hb dX6_goes_27 rfl (lv_at hl 2 rfl) ?_
          refine x_callS (is := [0]) (As := [.ref q, .int (nI k)]) (rest := [.int 12, .ref q]) (st1 := [.int (whM u n (u k)), .int 12, .ref q]) (ws' := aW G q len u) E (c_X6_whom l G q (nI k) k (rfl) u len n (by omega) (by omega) ((ho 22 (by omega)).trans hc) (by omega) (by omega)) sw_X6_170 hw [0] rfl rfl rfl rfl hl.1 rfl rfl (Nat.le_of_ble_eq_true rfl) ⟨Nat.le_of_ble_eq_true rfl, Nat.le_of_ble_eq_true rfl⟩ (Nat.zero_le _) (Nat.zero_le _) dX6_goes_28 rfl rfl (fun H locs hw => ?_)
          refine x_topi (y := nI jw) (by rw [whM_congr (fun i hi => ho i (by omega)), ho k (by omega)]; exact ejw) ?_
          refine lv_iadd hx hb dX6_goes_31 ?_
          refine lv_dup2_11 hx hb dX6_goes_32 rfl rfl ?_
          refine x_iald E hw 0 rfl (12 + jw) ((ix_add (a := 12) (b := jw) rfl rfl)) (by omega) (by omega) dX6_goes_33 ?_
          refine lv_iconst (v := 1) hx hb dX6_goes_34 rfl ?_
          refine lv_iadd hx hb dX6_goes_35 ?_
          refine x_iast (ws' := aW G q len (upd u (12 + jw) ((u (12 + jw)) + 1))) E hw 0 rfl (12 + jw) ((ix_add (a := 12) (b := jw) rfl rfl)) (by omega) (by omega) dX6_goes_36 rfl (fun H locs hw => ?_)
          refine lv_aload_n hx hb dX6_goes_37 rfl (lv_at hl 0 rfl) ?_
          refine lv_bipush (v := 6) hx hb dX6_goes_38 rfl ?_
          refine lv_iload_n hx hb dX6_goes_40 rfl (lv_at hl 2 rfl) ?_
          refine lv_iadd hx hb dX6_goes_41 ?_
          refine lv_aload_n hx hb dX6_goes_42 rfl (lv_at hl 0 rfl) ?_
          refine lv_bipush (v := 6) hx hb dX6_goes_43 rfl ?_
          refine lv_iload_n hx hb dX6_goes_45 rfl (lv_at hl 2 rfl) ?_
          refine lv_iadd hx hb dX6_goes_46 ?_
          refine x_iald E hw 0 rfl (6 + k) ((ix_add (a := 6) (b := k) rfl rfl)) (by omega) (by omega) dX6_goes_47 ?_
          refine lv_bipush (v := 8) hx hb dX6_goes_48 rfl ?_
          refine x_callS (is := []) (As := [.int ((upd u (12 + jw) ((u (12 + jw)) + 1)) (6 + k)), .int 8]) (rest := [.int (6 + (nI k)), .ref q]) (st1 := [.int (lsr ((upd u (12 + jw) ((u (12 + jw)) + 1)) (6 + k)) 8), .int (6 + (nI k)), .ref q]) (ws' := aW G q len (upd u (12 + jw) ((u (12 + jw)) + 1))) E (c_X6_lesser l G ((upd u (12 + jw) ((u (12 + jw)) + 1)) (6 + k)) 8) sw_X6_128 hw [] rfl rfl rfl rfl hl.1 rfl rfl (Nat.le_of_ble_eq_true rfl) ⟨Nat.le_of_ble_eq_true rfl, Nat.le_of_ble_eq_true rfl⟩ (Nat.zero_le _) (Nat.zero_le _) dX6_goes_50 rfl rfl (fun H locs hw => ?_)
          refine x_iast (ws' := aW G q len (upd (upd u (12 + jw) ((u (12 + jw)) + 1)) (6 + k) (lsr ((upd u (12 + jw) ((u (12 + jw)) + 1)) (6 + k)) 8))) E hw 0 rfl (6 + k) ((ix_add (a := 6) (b := k) rfl rfl)) (by omega) (by omega) dX6_goes_53 rfl (fun H locs hw => ?_)
          refine lv_aload_n hx hb dX6_goes_54 rfl (lv_at hl 0 rfl) ?_
          refine lv_bipush (v := 6) hx hb dX6_goes_55 rfl ?_
          refine lv_iload_n hx hb dX6_goes_57 rfl (lv_at hl 2 rfl) ?_
          refine lv_iadd hx hb dX6_goes_58 ?_
          refine lv_dup2_11 hx hb dX6_goes_59 rfl rfl ?_
          refine x_iald E hw 0 rfl (6 + k) ((ix_add (a := 6) (b := k) rfl rfl)) (by omega) (by omega) dX6_goes_60 ?_
          refine lv_aload_n hx hb dX6_goes_61 rfl (lv_at hl 0 rfl) ?_
          refine lv_bipush (v := 6) hx hb dX6_goes_62 rfl ?_
          refine lv_iload_n hx hb dX6_goes_64 rfl (lv_at hl 2 rfl) ?_
          refine lv_iadd hx hb dX6_goes_65 ?_
          refine x_iald E hw 0 rfl (6 + k) ((ix_add (a := 6) (b := k) rfl rfl)) (by omega) (by omega) dX6_goes_66 ?_
          refine lv_bipush (v := 30) hx hb dX6_goes_67 rfl ?_
          refine lv_icmp_ge (tgt := 76) hx hb dX6_goes_69 rfl (fun cq69 => ?_) (fun cq69 => ?_)
          · skip
            refine lv_iconst (v := 0) hx hb dX6_goes_76 rfl ?_
            refine lv_iadd hx hb dX6_goes_77 ?_
            refine x_iast (ws' := aW G q len (upd (upd (upd u (12 + jw) ((u (12 + jw)) + 1)) (6 + k) (lsr ((upd u (12 + jw) ((u (12 + jw)) + 1)) (6 + k)) 8)) (6 + k) (((upd (upd u (12 + jw) ((u (12 + jw)) + 1)) (6 + k) (lsr ((upd u (12 + jw) ((u (12 + jw)) + 1)) (6 + k)) 8)) (6 + k)) + 0))) E hw 0 rfl (6 + k) ((ix_add (a := 6) (b := k) rfl rfl)) (by omega) (by omega) dX6_goes_78 rfl (fun H locs hw => ?_)
            refine lv_iinc (v := nI (k + 1)) (lv' := [(2, .int (nI (k + 1))), (0, .ref q), (1, .int (bitrM t n))]) hx hb dX6_goes_79 hl (k := 2) rfl (nI_add _ 1) (by decide) rfl (fun ls hl => ?_)
            refine lv_goto (tgt := 7) hx hb dX6_goes_82 rfl ?_
            exact ih7 (k + 1) (upd (upd (upd u (12 + jw) ((u (12 + jw)) + 1)) (6 + k) (lsr ((upd u (12 + jw) ((u (12 + jw)) + 1)) (6 + k)) 8)) (6 + k) (((upd (upd u (12 + jw) ((u (12 + jw)) + 1)) (6 + k) (lsr ((upd u (12 + jw) ((u (12 + jw)) + 1)) (6 + k)) 8)) (6 + k)) + 0)) (by omega) (by rw [gM, ← huu]; simp [gS, cq20, cq69, hjk]) (by omega) _ _ _ hw (lv_sub hl [1, 2, 0] rfl)
          · skip
            refine lv_iconst (v := 1) hx hb dX6_goes_72 rfl ?_
            refine lv_goto (tgt := 77) hx hb dX6_goes_73 rfl ?_
            refine lv_iadd hx hb dX6_goes_77 ?_
            refine x_iast (ws' := aW G q len (upd (upd (upd u (12 + jw) ((u (12 + jw)) + 1)) (6 + k) (lsr ((upd u (12 + jw) ((u (12 + jw)) + 1)) (6 + k)) 8)) (6 + k) (((upd (upd u (12 + jw) ((u (12 + jw)) + 1)) (6 + k) (lsr ((upd u (12 + jw) ((u (12 + jw)) + 1)) (6 + k)) 8)) (6 + k)) + 1))) E hw 0 rfl (6 + k) ((ix_add (a := 6) (b := k) rfl rfl)) (by omega) (by omega) dX6_goes_78 rfl (fun H locs hw => ?_)
            refine lv_iinc (v := nI (k + 1)) (lv' := [(2, .int (nI (k + 1))), (0, .ref q), (1, .int (bitrM t n))]) hx hb dX6_goes_79 hl (k := 2) rfl (nI_add _ 1) (by decide) rfl (fun ls hl => ?_)
            refine lv_goto (tgt := 7) hx hb dX6_goes_82 rfl ?_
            exact ih7 (k + 1) (upd (upd (upd u (12 + jw) ((u (12 + jw)) + 1)) (6 + k) (lsr ((upd u (12 + jw) ((u (12 + jw)) + 1)) (6 + k)) 8)) (6 + k) (((upd (upd u (12 + jw) ((u (12 + jw)) + 1)) (6 + k) (lsr ((upd u (12 + jw) ((u (12 + jw)) + 1)) (6 + k)) 8)) (6 + k)) + 1)) (by omega) (by rw [gM, ← huu]; simp [gS, cq20, cq69, hjk]) (by omega) _ _ _ hw (lv_sub hl [1, 2, 0] rfl)
  exact lp7 (n - 0 + 1) 0 t (by omega) (rfl) (by omega) _ _ _ hw (lv_sub hl [2, 1, 0] rfl)
set_option maxHeartbeats 1000000 in
set_option maxRecDepth 100000 in
theorem c_X6_bad (l : Launch) (G : GG) (b : Nat → Nat) (nw : Nat → Int32) (rd : Nat → Int32) (asd : Nat → Int32) (img : Nat → Int32) (kpt : Nat → Int32) (txt : Nat → Int32) (sz : Int32) (abv : Int64) (blw : Int64) (bds : Int32) (nos : Int32) (fls : Int32) (att : Int32) (bgn : Int32) (tkn : Int32) (wrd : Int64) (vlu : Int32) (sts : Nat → Int32) (bst : Nat → Int32) : CT l G yX6_bad cX6_bad 1 (some .int) 0 0 [.ref (b 0)] (mW G b nw rd asd img kpt txt sz abv blw bds nos fls att bgn tkn wrd vlu sts bst) (some (.int (-2))) (mW G b nw rd asd img kpt txt sz abv blw (bds + 1) nos fls att bgn tkn wrd vlu sts bst) := by
  refine CT.mk (own := RX6) (la := [(0, .ref (b 0))]) (by decide) rfl (Nat.le_of_ble_eq_true rfl) rfl ?_
  intro p e s m args below meth c A Q E hA hw rt ls hl
  have hx := E.1
  have hb := E.2.1
  refine lv_aload_n hx hb dX6_bad_0 rfl (lv_at hl 0 rfl) ?_
  refine lv_dup hx hb dX6_bad_1 rfl ?_
  refine x_get E hw fw_X6_43 0 rfl rfl dX6_bad_2 ?_
  refine lv_iconst (v := 1) hx hb dX6_bad_5 rfl ?_
  refine lv_iadd hx hb dX6_bad_6 ?_
  refine x_put (ws' := mW G b nw rd asd img kpt txt sz abv blw (bds + 1) nos fls att bgn tkn wrd vlu sts bst) (ty := .int) E hw fw_X6_43 0 rfl rfl rfl (by decide +kernel) rfl rfl (Nat.le_of_ble_eq_true rfl) dX6_bad_7 rfl (fun H locs hw => ?_)
  refine lv_bipush (v := -2) hx hb dX6_bad_10 rfl ?_
  exact x_iret E hA rt hw dX6_bad_12 (rfl) rfl
set_option maxHeartbeats 1000000 in
set_option maxRecDepth 100000 in
theorem c_X6_worse (l : Launch) (G : GG) (b : Nat → Nat) (nw : Nat → Int32) (rd : Nat → Int32) (asd : Nat → Int32) (img : Nat → Int32) (kpt : Nat → Int32) (txt : Nat → Int32) (sz : Int32) (abv : Int64) (blw : Int64) (bds : Int32) (nos : Int32) (fls : Int32) (att : Int32) (bgn : Int32) (tkn : Int32) (wrd : Int64) (vlu : Int32) (sts : Nat → Int32) (bst : Nat → Int32) : CT l G yX6_worse cX6_worse 1 (some .int) 0 0 [.ref (b 0)] (mW G b nw rd asd img kpt txt sz abv blw bds nos fls att bgn tkn wrd vlu sts bst) (some (.int (-10))) (mW G b nw rd asd img kpt txt sz abv blw (bds + 1) nos fls att bgn tkn wrd vlu sts bst) := by
  refine CT.mk (own := RX6) (la := [(0, .ref (b 0))]) (by decide) rfl (Nat.le_of_ble_eq_true rfl) rfl ?_
  intro p e s m args below meth c A Q E hA hw rt ls hl
  have hx := E.1
  have hb := E.2.1
  refine lv_aload_n hx hb dX6_worse_0 rfl (lv_at hl 0 rfl) ?_
  refine lv_dup hx hb dX6_worse_1 rfl ?_
  refine x_get E hw fw_X6_43 0 rfl rfl dX6_worse_2 ?_
  refine lv_iconst (v := 1) hx hb dX6_worse_5 rfl ?_
  refine lv_iadd hx hb dX6_worse_6 ?_
  refine x_put (ws' := mW G b nw rd asd img kpt txt sz abv blw (bds + 1) nos fls att bgn tkn wrd vlu sts bst) (ty := .int) E hw fw_X6_43 0 rfl rfl rfl (by decide +kernel) rfl rfl (Nat.le_of_ble_eq_true rfl) dX6_worse_7 rfl (fun H locs hw => ?_)
  refine lv_bipush (v := -10) hx hb dX6_worse_10 rfl ?_
  exact x_iret E hA rt hw dX6_worse_12 (rfl) rfl
set_option maxHeartbeats 1000000 in
set_option maxRecDepth 100000 in
theorem c_X6_no (l : Launch) (G : GG) (b : Nat → Nat) (nw : Nat → Int32) (rd : Nat → Int32) (asd : Nat → Int32) (img : Nat → Int32) (kpt : Nat → Int32) (txt : Nat → Int32) (sz : Int32) (abv : Int64) (blw : Int64) (bds : Int32) (nos : Int32) (fls : Int32) (att : Int32) (bgn : Int32) (tkn : Int32) (wrd : Int64) (vlu : Int32) (sts : Nat → Int32) (bst : Nat → Int32) : CT l G yX6_no cX6_no 1 (some .int) 0 0 [.ref (b 0)] (mW G b nw rd asd img kpt txt sz abv blw bds nos fls att bgn tkn wrd vlu sts bst) (some (.int (-3))) (mW G b nw rd asd img kpt txt sz abv blw bds (nos + 1) fls att bgn tkn wrd vlu sts bst) := by
  refine CT.mk (own := RX6) (la := [(0, .ref (b 0))]) (by decide) rfl (Nat.le_of_ble_eq_true rfl) rfl ?_
  intro p e s m args below meth c A Q E hA hw rt ls hl
  have hx := E.1
  have hb := E.2.1
  refine lv_aload_n hx hb dX6_no_0 rfl (lv_at hl 0 rfl) ?_
  refine lv_dup hx hb dX6_no_1 rfl ?_
  refine x_get E hw fw_X6_47 0 rfl rfl dX6_no_2 ?_
  refine lv_iconst (v := 1) hx hb dX6_no_5 rfl ?_
  refine lv_iadd hx hb dX6_no_6 ?_
  refine x_put (ws' := mW G b nw rd asd img kpt txt sz abv blw bds (nos + 1) fls att bgn tkn wrd vlu sts bst) (ty := .int) E hw fw_X6_47 0 rfl rfl rfl (by decide +kernel) rfl rfl (Nat.le_of_ble_eq_true rfl) dX6_no_7 rfl (fun H locs hw => ?_)
  refine lv_bipush (v := -3) hx hb dX6_no_10 rfl ?_
  exact x_iret E hA rt hw dX6_no_12 (rfl) rfl
set_option maxHeartbeats 1000000 in
set_option maxRecDepth 100000 in
theorem c_X6_full (l : Launch) (G : GG) (b : Nat → Nat) (nw : Nat → Int32) (rd : Nat → Int32) (asd : Nat → Int32) (img : Nat → Int32) (kpt : Nat → Int32) (txt : Nat → Int32) (sz : Int32) (abv : Int64) (blw : Int64) (bds : Int32) (nos : Int32) (fls : Int32) (att : Int32) (bgn : Int32) (tkn : Int32) (wrd : Int64) (vlu : Int32) (sts : Nat → Int32) (bst : Nat → Int32) : CT l G yX6_full cX6_full 1 (some .int) 0 0 [.ref (b 0)] (mW G b nw rd asd img kpt txt sz abv blw bds nos fls att bgn tkn wrd vlu sts bst) (some (.int (-4))) (mW G b nw rd asd img kpt txt sz abv blw bds nos (fls + 1) att bgn tkn wrd vlu sts bst) := by
  refine CT.mk (own := RX6) (la := [(0, .ref (b 0))]) (by decide) rfl (Nat.le_of_ble_eq_true rfl) rfl ?_
  intro p e s m args below meth c A Q E hA hw rt ls hl
  have hx := E.1
  have hb := E.2.1
  refine lv_aload_n hx hb dX6_full_0 rfl (lv_at hl 0 rfl) ?_
  refine lv_dup hx hb dX6_full_1 rfl ?_
  refine x_get E hw fw_X6_50 0 rfl rfl dX6_full_2 ?_
  refine lv_iconst (v := 1) hx hb dX6_full_5 rfl ?_
  refine lv_iadd hx hb dX6_full_6 ?_
  refine x_put (ws' := mW G b nw rd asd img kpt txt sz abv blw bds nos (fls + 1) att bgn tkn wrd vlu sts bst) (ty := .int) E hw fw_X6_50 0 rfl rfl rfl (by decide +kernel) rfl rfl (Nat.le_of_ble_eq_true rfl) dX6_full_7 rfl (fun H locs hw => ?_)
  refine lv_bipush (v := -4) hx hb dX6_full_10 rfl ?_
  exact x_iret E hA rt hw dX6_full_12 (rfl) rfl
set_option maxHeartbeats 1000000 in
set_option maxRecDepth 100000 in
theorem c_X6_isSeat (l : Launch) (G : GG) (x : Int32) : CT l G yX6_isSeat cX6_isSeat 1 (some .boolean) 1 25 [.int x] ([]) (some (.int (bI (inI x 0 7)))) ([]) := by
  refine CT.mk (own := RX6) (la := [(0, .int x)]) (by decide) rfl (Nat.le_of_ble_eq_true rfl) rfl ?_
  intro p e s m args below meth c A Q E hA hw rt ls hl
  have hx := E.1
  have hb := E.2.1
  refine lv_iload_n hx hb dX6_isSeat_0 rfl (lv_at hl 0 rfl) ?_
  refine lv_i2l (v := x.toInt64) hx hb dX6_isSeat_1 rfl ?_
  refine lv_lconst (v := 0) hx hb dX6_isSeat_2 rfl ?_
  refine lv_ldc2 hx hb E.2.2.2.1 (E.2.2.2.2.2.2.w kc_X6_53) dX6_isSeat_3 ?_
  refine x_callS (is := []) (As := [.long x.toInt64, .long 0, .long 7]) (rest := []) (st1 := [.int (bI (inL x.toInt64 0 7))]) E (c_X6_in l G x.toInt64 0 7) sw_X6_55 hw [] rfl rfl rfl rfl hl.1 rfl rfl (Nat.le_of_ble_eq_true rfl) ⟨Nat.le_of_ble_eq_true rfl, Nat.le_of_ble_eq_true rfl⟩ (Nat.zero_le _) (Nat.zero_le _) dX6_isSeat_6 rfl rfl (fun H locs hw => ?_)
  refine x_topi (y := bI (inI x 0 7)) (congrArg bI (inL_I x 0 7 rfl rfl)) ?_
  exact x_zret E hA rt hw (bI_nar _) dX6_isSeat_9 (rfl) rfl
set_option maxHeartbeats 1000000 in
set_option maxRecDepth 100000 in
theorem c_X6_isChild (l : Launch) (G : GG) (b : Nat → Nat) (x : Int32) (nw : Nat → Int32) (rd : Nat → Int32) (asd : Nat → Int32) (img : Nat → Int32) (kpt : Nat → Int32) (txt : Nat → Int32) (sz : Int32) (abv : Int64) (blw : Int64) (bds : Int32) (nos : Int32) (fls : Int32) (att : Int32) (bgn : Int32) (tkn : Int32) (wrd : Int64) (vlu : Int32) (sts : Nat → Int32) (bst : Nat → Int32) : CT l G yX6_isChild cX6_isChild 2 (some .boolean) 1 25 [.ref (b 0), .int x] (mW G b nw rd asd img kpt txt sz abv blw bds nos fls att bgn tkn wrd vlu sts bst) (some (.int (bI (inI x 0 (nw 22 - 1))))) (mW G b nw rd asd img kpt txt sz abv blw bds nos fls att bgn tkn wrd vlu sts bst) := by
  refine CT.mk (own := RX6) (la := [(0, .ref (b 0)), (1, .int x)]) (by decide) rfl (Nat.le_of_ble_eq_true rfl) rfl ?_
  intro p e s m args below meth c A Q E hA hw rt ls hl
  have hx := E.1
  have hb := E.2.1
  refine lv_iload_n hx hb dX6_isChild_0 rfl (lv_at hl 1 rfl) ?_
  refine lv_i2l (v := x.toInt64) hx hb dX6_isChild_1 rfl ?_
  refine lv_lconst (v := 0) hx hb dX6_isChild_2 rfl ?_
  refine lv_aload_n hx hb dX6_isChild_3 rfl (lv_at hl 0 rfl) ?_
  refine x_get E hw fw_X6_7 0 rfl rfl dX6_isChild_4 ?_
  refine lv_bipush (v := 22) hx hb dX6_isChild_7 rfl ?_
  refine x_iald E hw 1 rfl 22 (rfl) (by omega) (by omega) dX6_isChild_9 ?_
  refine lv_iconst (v := 1) hx hb dX6_isChild_10 rfl ?_
  refine lv_isub hx hb dX6_isChild_11 ?_
  refine lv_i2l (v := ((nw 22) - 1).toInt64) hx hb dX6_isChild_12 rfl ?_
  refine x_callS (is := []) (As := [.long x.toInt64, .long 0, .long (((nw 22) - 1).toInt64)]) (rest := []) (st1 := [.int (bI (inL x.toInt64 0 (((nw 22) - 1).toInt64)))]) (ws' := mW G b nw rd asd img kpt txt sz abv blw bds nos fls att bgn tkn wrd vlu sts bst) E (c_X6_in l G x.toInt64 0 (((nw 22) - 1).toInt64)) sw_X6_55 hw [] rfl rfl rfl rfl hl.1 rfl rfl (Nat.le_of_ble_eq_true rfl) ⟨Nat.le_of_ble_eq_true rfl, Nat.le_of_ble_eq_true rfl⟩ (Nat.zero_le _) (Nat.zero_le _) dX6_isChild_13 rfl rfl (fun H locs hw => ?_)
  refine x_topi (y := bI (inI x 0 ((nw 22) - 1))) (congrArg bI (inL_I x 0 ((nw 22) - 1) rfl rfl)) ?_
  exact x_zret E hA rt hw (bI_nar _) dX6_isChild_16 (rfl) rfl

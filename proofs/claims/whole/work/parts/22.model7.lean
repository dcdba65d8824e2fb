set_option maxHeartbeats 1000000 in
set_option maxRecDepth 100000 in
theorem c_X6_read (l : Launch) (G : GG) (b : Nat → Nat) (nw : Nat → Int32) (rd : Nat → Int32) (asd : Nat → Int32) (img : Nat → Int32) (kpt : Nat → Int32) (txt : Nat → Int32) (abv : Int64) (blw : Int64) (bds : Int32) (nos : Int32) (fls : Int32) (att : Int32) (bgn : Int32) (tkn : Int32) (wrd : Int64) (vlu : Int32) (sts : Nat → Int32) (bst : Nat → Int32) (z : Nat) (hz : z ≤ 150) : CE l G yX6_read cX6_read 2 (some .int) 5 113 [.ref (b 0)] (mW G b nw rd asd img kpt txt (nI z) abv blw bds nos fls att bgn tkn wrd vlu sts bst) (some (.int ((rdM txt z).1))) (fun uu : (Nat → Int32) × Int32 × Int32 × Int32 × Int64 × Int32 => mW G b (if (rdM txt z).2.1 then (rdM txt z).2.2 else nw) uu.1 asd img kpt txt (nI z) abv blw bds nos fls uu.2.1 uu.2.2.1 uu.2.2.2.1 uu.2.2.2.2.1 uu.2.2.2.2.2 sts bst) := by
  refine CE.mk (own := RX6) (la := [(0, .ref (b 0))]) (by decide) rfl (Nat.le_of_ble_eq_true rfl) rfl ?_
  intro p e s m args below meth c A Q E hA hw rt ls hl
  have hx := E.1
  have hb := E.2.1
  refine lv_aload_n hx hb dX6_read_0 rfl (lv_at hl 0 rfl) ?_
  refine x_get E hw fw_X6_13 0 rfl rfl dX6_read_1 ?_
  refine lv_iconst (v := 0) hx hb dX6_read_4 rfl ?_
  refine x_callS (is := [2]) (As := [.ref (b 2), .int 0]) (rest := []) (st1 := []) (ws' := mW G b nw (upd bg0 20 0) asd img kpt txt (nI z) abv blw bds nos fls att bgn tkn wrd vlu sts bst) E (c_X6_begins l G (b 2) 0 rd) sw_X6_39 hw [2] rfl rfl rfl rfl hl.1 rfl rfl (Nat.le_of_ble_eq_true rfl) ⟨Nat.le_of_ble_eq_true rfl, Nat.le_of_ble_eq_true rfl⟩ (Nat.zero_le _) (Nat.zero_le _) dX6_read_5 rfl rfl (fun H locs hw => ?_)
  refine lv_aload_n hx hb dX6_read_8 rfl (lv_at hl 0 rfl) ?_
  refine lv_iconst (v := 0) hx hb dX6_read_9 rfl ?_
  refine x_put (ws' := mW G b nw (upd bg0 20 0) asd img kpt txt (nI z) abv blw bds nos fls 0 bgn tkn wrd vlu sts bst) (ty := .int) E hw fw_X6_92 0 rfl rfl rfl (by decide +kernel) rfl rfl (Nat.le_of_ble_eq_true rfl) dX6_read_10 rfl (fun H locs hw => ?_)
  refine lv_iconst (v := 0) hx hb dX6_read_13 rfl ?_
  refine lv_istore_n (lv' := [(1, .int 0), (0, .ref (b 0))]) hx hb dX6_read_14 rfl hl (by decide) rfl (fun ls hl => ?_)
  refine lv_aload_n hx hb dX6_read_15 rfl (lv_at hl 1 rfl) ?_
  refine x_callV (is := [0, 1, 2, 3, 4, 5, 6, 7, 8]) (q0 := 0) (As := []) (rest := []) (st1 := []) (ws' := mW G b nw (upd bg0 20 0) asd img kpt txt (nI z) abv blw bds nos fls (nI (stM txt z 0).1) ((stM txt z 0).2.1) ((stM txt z 0).2.2.1) ((stM txt z 0).2.2.2.1) ((stM txt z 0).2.2.2.2) sts bst) E (c_X6_step l G b nw (upd bg0 20 0) asd img kpt txt abv blw bds nos fls bgn tkn wrd vlu sts bst z 0 (by omega) (Nat.zero_le z)) vw_X6_122 hw [0, 1, 2, 3, 4, 5, 6, 7, 8] rfl rfl rfl rfl rfl rfl rfl hl.1 rfl rfl (Nat.le_of_ble_eq_true rfl) ⟨Nat.le_of_ble_eq_true rfl, Nat.le_of_ble_eq_true rfl⟩ (Nat.zero_le _) (Nat.zero_le _) dX6_read_16 rfl rfl (fun H locs hw => ?_)
  have lp19 : ∀ (fuel : Nat), ∀ (i : Nat) (Sv : Sc) (rdv : Nat → Int32) (nv : Nat) (f_ : Nat) (hSv : Sv.1 ≤ z) (hiS : i ≤ Sv.1) (hcn : rdv 22 = nI nv) (hnv : nv ≤ 6) (hff : z - Sv.1 < f_) (hL : rdM txt z = rdL txt z f_ i Sv rdv nv), (z - Sv.1) < fuel → ∀ (H : Heap) (locs : List Loc) (ls : Array Slot), Wd G A s H locs (mW G b nw rdv asd img kpt txt (nI z) abv blw bds nos fls (nI Sv.1) Sv.2.1 Sv.2.2.1 Sv.2.2.2.1 Sv.2.2.2.2 sts bst) → lv_has ls 2 [(0, .ref (b 0)), (1, .int (nI i))] → W p l e (rmx 5 113) s m args below meth c H locs 0 0 Q (F0 m 19 ls []) := by
    intro fuel
    induction fuel with
    | zero => intro i Sv rdv nv f_ hSv hiS hcn hnv hff hL hfu; exact absurd hfu (Nat.not_lt_zero _)
    | succ fuel ih19 =>
      intro i Sv rdv nv f_ hSv hiS hcn hnv hff hL hfu H locs ls hw hl
      refine lv_iload_n hx hb dX6_read_19 rfl (lv_at hl 1 rfl) ?_
      refine lv_if_eq (tgt := 30) hx hb dX6_read_20 rfl (fun cq20 => ?_) (fun cq20 => ?_)
      · skip
        have cq20 : i = 0 := (cv_eq (a := i) (b := 0) rfl rfl (by omega) (by omega)).mp cq20
        refine lv_aload_n hx hb dX6_read_30 rfl (lv_at hl 0 rfl) ?_
        refine lv_iload_n hx hb dX6_read_31 rfl (lv_at hl 1 rfl) ?_
        refine lv_if_ne (tgt := 39) hx hb dX6_read_32 rfl (fun cq32 => ?_) (fun cq32 => ?_)
        · skip
          have cq32 : ¬ i = 0 := fun h => cq32 ((cv_eq (a := i) (b := 0) rfl rfl (by omega) (by omega)).mpr h)
          exact absurd cq20 cq32
        · skip
          have cq32 : i = 0 := (cv_eq (a := i) (b := 0) rfl rfl (by omega) (by omega)).mp cq32
          refine lv_iconst (v := 1) hx hb dX6_read_35 rfl ?_
          refine lv_goto (tgt := 40) hx hb dX6_read_36 rfl ?_
          refine x_callV (is := [0, 1, 2, 3, 4, 5, 6, 7, 8]) (q0 := 0) (As := [.int 1]) (rest := []) (st1 := [.int (bI (riM txt z (Sv.1, Sv.2.1, Sv.2.2.1, Sv.2.2.2.1, Sv.2.2.2.2) (!decide (1 = 0)) rdv nv).1)]) (ws' := mW G b nw ((riM txt z (Sv.1, Sv.2.1, Sv.2.2.1, Sv.2.2.2.1, Sv.2.2.2.2) (!decide (1 = 0)) rdv nv).2.2.1) asd img kpt txt (nI z) abv blw bds nos fls (nI ((riM txt z (Sv.1, Sv.2.1, Sv.2.2.1, Sv.2.2.2.1, Sv.2.2.2.2) (!decide (1 = 0)) rdv nv).2.1).1) (((riM txt z (Sv.1, Sv.2.1, Sv.2.2.1, Sv.2.2.2.1, Sv.2.2.2.2) (!decide (1 = 0)) rdv nv).2.1).2.1) (((riM txt z (Sv.1, Sv.2.1, Sv.2.2.1, Sv.2.2.2.1, Sv.2.2.2.2) (!decide (1 = 0)) rdv nv).2.1).2.2.1) (((riM txt z (Sv.1, Sv.2.1, Sv.2.2.1, Sv.2.2.2.1, Sv.2.2.2.2) (!decide (1 = 0)) rdv nv).2.1).2.2.2.1) (((riM txt z (Sv.1, Sv.2.1, Sv.2.2.1, Sv.2.2.2.1, Sv.2.2.2.2) (!decide (1 = 0)) rdv nv).2.1).2.2.2.2) sts bst) E (c_X6_readsItem l G b 1 nw rdv asd img kpt txt abv blw bds nos fls Sv.2.1 Sv.2.2.1 Sv.2.2.2.1 Sv.2.2.2.2 sts bst z Sv.1 nv (by omega) (hSv) (hcn) (hnv)) vw_X6_148 hw [0, 1, 2, 3, 4, 5, 6, 7, 8] rfl rfl rfl rfl rfl rfl rfl hl.1 rfl rfl (Nat.le_of_ble_eq_true rfl) ⟨Nat.le_of_ble_eq_true rfl, Nat.le_of_ble_eq_true rfl⟩ (Nat.zero_le _) (Nat.zero_le _) dX6_read_40 rfl rfl (fun H locs hw => ?_)
          obtain ⟨R1, hR1⟩ : ∃ q, q = riM txt z Sv (decide (i = 0)) rdv nv := ⟨_, rfl⟩
          have eR : riM txt z (Sv.1, Sv.2.1, Sv.2.2.1, Sv.2.2.2.1, Sv.2.2.2.2) (!decide ((1 : Int32) = 0)) rdv nv = R1 := by rw [hR1, decide_eq_true cq20]; rfl
          rw [eR] at hw ⊢
          have hok := riM_ok (txt := txt) (fs := decide (i = 0)) hSv hcn hnv
          rw [← hR1] at hok
          have hp1 : R1.2.1.1 ≤ z := hok.2.2.2
          refine lv_if_ne (tgt := 54) hx hb dX6_read_43 rfl (fun cq43 => ?_) (fun cq43 => ?_)
          · skip
            have cq43 := bI_n0.mp cq43
            refine lv_aload_n hx hb dX6_read_54 rfl (lv_at hl 0 rfl) ?_
            refine x_callV (is := [0, 1, 2, 3, 4, 5, 6, 7, 8]) (q0 := 0) (As := []) (rest := []) (st1 := []) (ws' := mW G b nw R1.2.2.1 asd img kpt txt (nI z) abv blw bds nos fls (nI (stM txt z R1.2.1.1).1) ((stM txt z R1.2.1.1).2.1) ((stM txt z R1.2.1.1).2.2.1) ((stM txt z R1.2.1.1).2.2.2.1) ((stM txt z R1.2.1.1).2.2.2.2) sts bst) E (c_X6_step l G b nw R1.2.2.1 asd img kpt txt abv blw bds nos fls R1.2.1.2.1 R1.2.1.2.2.1 R1.2.1.2.2.2.1 R1.2.1.2.2.2.2 sts bst z R1.2.1.1 (by omega) (hp1)) vw_X6_122 hw [0, 1, 2, 3, 4, 5, 6, 7, 8] rfl rfl rfl rfl rfl rfl rfl hl.1 rfl rfl (Nat.le_of_ble_eq_true rfl) ⟨Nat.le_of_ble_eq_true rfl, Nat.le_of_ble_eq_true rfl⟩ (Nat.zero_le _) (Nat.zero_le _) dX6_read_55 rfl rfl (fun H locs hw => ?_)
            obtain ⟨S2, hS2⟩ : ∃ q, q = stM txt z R1.2.1.1 := ⟨_, rfl⟩
            rw [← hS2] at hw
            have hp2 : S2.1 ≤ z := by rw [hS2]; exact (stM_le hp1).2.1
            refine lv_aload_n hx hb dX6_read_58 rfl (lv_at hl 0 rfl) ?_
            refine x_get E hw fw_X6_115 0 rfl rfl dX6_read_59 ?_
            refine lv_iconst (v := 3) hx hb dX6_read_62 rfl ?_
            refine lv_icmp_eq (tgt := 74) hx hb dX6_read_63 rfl (fun cq63 => ?_) (fun cq63 => ?_)
            · skip
              have hgt : R1.2.1.1 < S2.1 := by have h8 := (stM_le (txt := txt) hp1).2.2.2; rw [← hS2] at h8; exact h8 (by rw [cq63]; decide)
              refine lv_iinc (v := nI (i + 1)) (lv' := [(1, .int (nI (i + 1))), (0, .ref (b 0))]) hx hb dX6_read_74 hl (k := 1) rfl (nI_add _ 1) (by decide) rfl (fun ls hl => ?_)
              refine lv_aload_n hx hb dX6_read_77 rfl (lv_at hl 1 rfl) ?_
              refine x_callV (is := [0, 1, 2, 3, 4, 5, 6, 7, 8]) (q0 := 0) (As := []) (rest := []) (st1 := []) (ws' := mW G b nw R1.2.2.1 asd img kpt txt (nI z) abv blw bds nos fls (nI (stM txt z S2.1).1) ((stM txt z S2.1).2.1) ((stM txt z S2.1).2.2.1) ((stM txt z S2.1).2.2.2.1) ((stM txt z S2.1).2.2.2.2) sts bst) E (c_X6_step l G b nw R1.2.2.1 asd img kpt txt abv blw bds nos fls S2.2.1 S2.2.2.1 S2.2.2.2.1 S2.2.2.2.2 sts bst z S2.1 (by omega) (hp2)) vw_X6_122 hw [0, 1, 2, 3, 4, 5, 6, 7, 8] rfl rfl rfl rfl rfl rfl rfl hl.1 rfl rfl (Nat.le_of_ble_eq_true rfl) ⟨Nat.le_of_ble_eq_true rfl, Nat.le_of_ble_eq_true rfl⟩ (Nat.zero_le _) (Nat.zero_le _) dX6_read_78 rfl rfl (fun H locs hw => ?_)
              refine lv_goto (tgt := 19) hx hb dX6_read_81 rfl ?_
              exact ih19 (i + 1) (stM txt z S2.1) R1.2.2.1 R1.2.2.2 (f_ - 1) ((stM_le hp2).2.1) (by have := (stM_le (txt := txt) hp2).1; omega) (hok.1) (hok.2.1) (by have := (stM_le (txt := txt) hp2).1; omega) (by rw [hL, rdL_eq (by omega), if_neg (fun h9 => h9.1 cq20), ← hR1, if_pos cq43, ← hS2, if_pos cq63]) (by have := (stM_le (txt := txt) hp2).1; omega) _ _ _ hw (lv_sub hl [1, 0] rfl)
            · skip
              refine lv_bipush (v := -10) hx hb dX6_read_66 rfl ?_
              refine lv_aload_n hx hb dX6_read_68 rfl (lv_at hl 0 rfl) ?_
              refine x_get E hw fw_X6_98 0 rfl rfl dX6_read_69 ?_
              refine lv_isub hx hb dX6_read_72 ?_
              exact x_iretE (R1.2.2.1, nI S2.1, S2.2.1, S2.2.2.1, S2.2.2.2.1, S2.2.2.2.2) E hA rt hw dX6_read_73 (by rw [show rdM txt z = (-10 - S2.2.1, false, rdv) from (by rw [hL, rdL_eq (by omega), if_neg (fun h9 => h9.1 cq20), ← hR1, if_pos cq43, ← hS2, if_neg cq63])]) (by rw [show rdM txt z = (-10 - S2.2.1, false, rdv) from (by rw [hL, rdL_eq (by omega), if_neg (fun h9 => h9.1 cq20), ← hR1, if_pos cq43, ← hS2, if_neg cq63])]; rfl)
          · skip
            have cq43 := bI_0.mp cq43
            refine lv_bipush (v := -10) hx hb dX6_read_46 rfl ?_
            refine lv_aload_n hx hb dX6_read_48 rfl (lv_at hl 0 rfl) ?_
            refine x_get E hw fw_X6_98 0 rfl rfl dX6_read_49 ?_
            refine lv_isub hx hb dX6_read_52 ?_
            exact x_iretE (R1.2.2.1, nI R1.2.1.1, R1.2.1.2.1, R1.2.1.2.2.1, R1.2.1.2.2.2.1, R1.2.1.2.2.2.2) E hA rt hw dX6_read_53 (by rw [show rdM txt z = (-10 - R1.2.1.2.1, false, rdv) from (by rw [hL, rdL_eq (by omega), if_neg (fun h9 => h9.1 cq20), ← hR1, if_neg (by rw [cq43]; decide)])]) (by rw [show rdM txt z = (-10 - R1.2.1.2.1, false, rdv) from (by rw [hL, rdL_eq (by omega), if_neg (fun h9 => h9.1 cq20), ← hR1, if_neg (by rw [cq43]; decide)])]; rfl)
      · skip
        have cq20 : ¬ i = 0 := fun h => cq20 ((cv_eq (a := i) (b := 0) rfl rfl (by omega) (by omega)).mpr h)
        refine lv_aload_n hx hb dX6_read_23 rfl (lv_at hl 0 rfl) ?_
        refine x_get E hw fw_X6_115 0 rfl rfl dX6_read_24 ?_
        refine lv_if_eq (tgt := 84) hx hb dX6_read_27 rfl (fun cq27 => ?_) (fun cq27 => ?_)
        · skip
          refine lv_aload_n hx hb dX6_read_84 rfl (lv_at hl 0 rfl) ?_
          refine x_get E hw fw_X6_13 0 rfl rfl dX6_read_85 ?_
          refine lv_iconst (v := 0) hx hb dX6_read_88 rfl ?_
          refine lv_aload_n hx hb dX6_read_89 rfl (lv_at hl 0 rfl) ?_
          refine x_get E hw fw_X6_7 0 rfl rfl dX6_read_90 ?_
          refine lv_iconst (v := 0) hx hb dX6_read_93 rfl ?_
          refine lv_sipush (v := 255) hx hb dX6_read_94 rfl ?_
          refine x_callS (is := [2, 1]) (As := [.ref (b 2), .int 0, .ref (b 1), .int 0, .int 255]) (rest := []) (st1 := []) (ws' := mW G b (va_cpy rdv nw 0 0 255) rdv asd img kpt txt (nI z) abv blw bds nos fls (nI Sv.1) Sv.2.1 Sv.2.2.1 Sv.2.2.2.1 Sv.2.2.2.2 sts bst) E (c_copies l G (b 2) (b 1) 0 0 (rfl) 0 0 (rfl) 255 255 (rfl) rdv nw 255 255 (by omega) (by omega) (by omega) (by omega)) sw_X6_152 hw [2, 1] rfl rfl rfl rfl hl.1 rfl rfl (Nat.le_of_ble_eq_true rfl) ⟨Nat.le_of_ble_eq_true rfl, Nat.le_of_ble_eq_true rfl⟩ (Nat.zero_le _) (Nat.zero_le _) dX6_read_97 rfl rfl (fun H locs hw => ?_)
          have hw := Wd.arr (ws' := mW G b rdv rdv asd img kpt txt (nI z) abv blw bds nos fls (nI Sv.1) Sv.2.1 Sv.2.2.1 Sv.2.2.2.1 Sv.2.2.2.2 sts bst) (g := rdv) hw 1 rfl (fun j hj => by rw [pk_cpy_in (Nat.zero_le j) (by omega)]; congr 1; omega) rfl
          refine lv_iload_n hx hb dX6_read_100 rfl (lv_at hl 1 rfl) ?_
          exact x_iretE (rdv, nI Sv.1, Sv.2.1, Sv.2.2.1, Sv.2.2.2.1, Sv.2.2.2.2) E hA rt hw dX6_read_101 (by rw [show rdM txt z = (nI i, true, rdv) from (by rw [hL, rdL_eq (by omega), if_pos ⟨cq20, cq27⟩])]) (by rw [show rdM txt z = (nI i, true, rdv) from (by rw [hL, rdL_eq (by omega), if_pos ⟨cq20, cq27⟩])]; rfl)
        · skip
          refine lv_aload_n hx hb dX6_read_30 rfl (lv_at hl 0 rfl) ?_
          refine lv_iload_n hx hb dX6_read_31 rfl (lv_at hl 1 rfl) ?_
          refine lv_if_ne (tgt := 39) hx hb dX6_read_32 rfl (fun cq32 => ?_) (fun cq32 => ?_)
          · skip
            have cq32 : ¬ i = 0 := fun h => cq32 ((cv_eq (a := i) (b := 0) rfl rfl (by omega) (by omega)).mpr h)
            refine lv_iconst (v := 0) hx hb dX6_read_39 rfl ?_
            refine x_callV (is := [0, 1, 2, 3, 4, 5, 6, 7, 8]) (q0 := 0) (As := [.int 0]) (rest := []) (st1 := [.int (bI (riM txt z (Sv.1, Sv.2.1, Sv.2.2.1, Sv.2.2.2.1, Sv.2.2.2.2) (!decide (0 = 0)) rdv nv).1)]) (ws' := mW G b nw ((riM txt z (Sv.1, Sv.2.1, Sv.2.2.1, Sv.2.2.2.1, Sv.2.2.2.2) (!decide (0 = 0)) rdv nv).2.2.1) asd img kpt txt (nI z) abv blw bds nos fls (nI ((riM txt z (Sv.1, Sv.2.1, Sv.2.2.1, Sv.2.2.2.1, Sv.2.2.2.2) (!decide (0 = 0)) rdv nv).2.1).1) (((riM txt z (Sv.1, Sv.2.1, Sv.2.2.1, Sv.2.2.2.1, Sv.2.2.2.2) (!decide (0 = 0)) rdv nv).2.1).2.1) (((riM txt z (Sv.1, Sv.2.1, Sv.2.2.1, Sv.2.2.2.1, Sv.2.2.2.2) (!decide (0 = 0)) rdv nv).2.1).2.2.1) (((riM txt z (Sv.1, Sv.2.1, Sv.2.2.1, Sv.2.2.2.1, Sv.2.2.2.2) (!decide (0 = 0)) rdv nv).2.1).2.2.2.1) (((riM txt z (Sv.1, Sv.2.1, Sv.2.2.1, Sv.2.2.2.1, Sv.2.2.2.2) (!decide (0 = 0)) rdv nv).2.1).2.2.2.2) sts bst) E (c_X6_readsItem l G b 0 nw rdv asd img kpt txt abv blw bds nos fls Sv.2.1 Sv.2.2.1 Sv.2.2.2.1 Sv.2.2.2.2 sts bst z Sv.1 nv (by omega) (hSv) (hcn) (hnv)) vw_X6_148 hw [0, 1, 2, 3, 4, 5, 6, 7, 8] rfl rfl rfl rfl rfl rfl rfl hl.1 rfl rfl (Nat.le_of_ble_eq_true rfl) ⟨Nat.le_of_ble_eq_true rfl, Nat.le_of_ble_eq_true rfl⟩ (Nat.zero_le _) (Nat.zero_le _) dX6_read_40 rfl rfl (fun H locs hw => ?_)
            obtain ⟨R1, hR1⟩ : ∃ q, q = riM txt z Sv (decide (i = 0)) rdv nv := ⟨_, rfl⟩
            have eR : riM txt z (Sv.1, Sv.2.1, Sv.2.2.1, Sv.2.2.2.1, Sv.2.2.2.2) (!decide ((0 : Int32) = 0)) rdv nv = R1 := by rw [hR1, decide_eq_false cq20]; rfl
            rw [eR] at hw ⊢
            have hok := riM_ok (txt := txt) (fs := decide (i = 0)) hSv hcn hnv
            rw [← hR1] at hok
            have hp1 : R1.2.1.1 ≤ z := hok.2.2.2
            refine lv_if_ne (tgt := 54) hx hb dX6_read_43 rfl (fun cq43 => ?_) (fun cq43 => ?_)
            · skip
              have cq43 := bI_n0.mp cq43
              refine lv_aload_n hx hb dX6_read_54 rfl (lv_at hl 0 rfl) ?_
              refine x_callV (is := [0, 1, 2, 3, 4, 5, 6, 7, 8]) (q0 := 0) (As := []) (rest := []) (st1 := []) (ws' := mW G b nw R1.2.2.1 asd img kpt txt (nI z) abv blw bds nos fls (nI (stM txt z R1.2.1.1).1) ((stM txt z R1.2.1.1).2.1) ((stM txt z R1.2.1.1).2.2.1) ((stM txt z R1.2.1.1).2.2.2.1) ((stM txt z R1.2.1.1).2.2.2.2) sts bst) E (c_X6_step l G b nw R1.2.2.1 asd img kpt txt abv blw bds nos fls R1.2.1.2.1 R1.2.1.2.2.1 R1.2.1.2.2.2.1 R1.2.1.2.2.2.2 sts bst z R1.2.1.1 (by omega) (hp1)) vw_X6_122 hw [0, 1, 2, 3, 4, 5, 6, 7, 8] rfl rfl rfl rfl rfl rfl rfl hl.1 rfl rfl (Nat.le_of_ble_eq_true rfl) ⟨Nat.le_of_ble_eq_true rfl, Nat.le_of_ble_eq_true rfl⟩ (Nat.zero_le _) (Nat.zero_le _) dX6_read_55 rfl rfl (fun H locs hw => ?_)
              obtain ⟨S2, hS2⟩ : ∃ q, q = stM txt z R1.2.1.1 := ⟨_, rfl⟩
              rw [← hS2] at hw
              have hp2 : S2.1 ≤ z := by rw [hS2]; exact (stM_le hp1).2.1
              refine lv_aload_n hx hb dX6_read_58 rfl (lv_at hl 0 rfl) ?_
              refine x_get E hw fw_X6_115 0 rfl rfl dX6_read_59 ?_
              refine lv_iconst (v := 3) hx hb dX6_read_62 rfl ?_
              refine lv_icmp_eq (tgt := 74) hx hb dX6_read_63 rfl (fun cq63 => ?_) (fun cq63 => ?_)
              · skip
                have hgt : R1.2.1.1 < S2.1 := by have h8 := (stM_le (txt := txt) hp1).2.2.2; rw [← hS2] at h8; exact h8 (by rw [cq63]; decide)
                refine lv_iinc (v := nI (i + 1)) (lv' := [(1, .int (nI (i + 1))), (0, .ref (b 0))]) hx hb dX6_read_74 hl (k := 1) rfl (nI_add _ 1) (by decide) rfl (fun ls hl => ?_)
                refine lv_aload_n hx hb dX6_read_77 rfl (lv_at hl 1 rfl) ?_
                refine x_callV (is := [0, 1, 2, 3, 4, 5, 6, 7, 8]) (q0 := 0) (As := []) (rest := []) (st1 := []) (ws' := mW G b nw R1.2.2.1 asd img kpt txt (nI z) abv blw bds nos fls (nI (stM txt z S2.1).1) ((stM txt z S2.1).2.1) ((stM txt z S2.1).2.2.1) ((stM txt z S2.1).2.2.2.1) ((stM txt z S2.1).2.2.2.2) sts bst) E (c_X6_step l G b nw R1.2.2.1 asd img kpt txt abv blw bds nos fls S2.2.1 S2.2.2.1 S2.2.2.2.1 S2.2.2.2.2 sts bst z S2.1 (by omega) (hp2)) vw_X6_122 hw [0, 1, 2, 3, 4, 5, 6, 7, 8] rfl rfl rfl rfl rfl rfl rfl hl.1 rfl rfl (Nat.le_of_ble_eq_true rfl) ⟨Nat.le_of_ble_eq_true rfl, Nat.le_of_ble_eq_true rfl⟩ (Nat.zero_le _) (Nat.zero_le _) dX6_read_78 rfl rfl (fun H locs hw => ?_)
                refine lv_goto (tgt := 19) hx hb dX6_read_81 rfl ?_
                exact ih19 (i + 1) (stM txt z S2.1) R1.2.2.1 R1.2.2.2 (f_ - 1) ((stM_le hp2).2.1) (by have := (stM_le (txt := txt) hp2).1; omega) (hok.1) (hok.2.1) (by have := (stM_le (txt := txt) hp2).1; omega) (by rw [hL, rdL_eq (by omega), if_neg (fun h9 => cq27 h9.2), ← hR1, if_pos cq43, ← hS2, if_pos cq63]) (by have := (stM_le (txt := txt) hp2).1; omega) _ _ _ hw (lv_sub hl [1, 0] rfl)
              · skip
                refine lv_bipush (v := -10) hx hb dX6_read_66 rfl ?_
                refine lv_aload_n hx hb dX6_read_68 rfl (lv_at hl 0 rfl) ?_
                refine x_get E hw fw_X6_98 0 rfl rfl dX6_read_69 ?_
                refine lv_isub hx hb dX6_read_72 ?_
                exact x_iretE (R1.2.2.1, nI S2.1, S2.2.1, S2.2.2.1, S2.2.2.2.1, S2.2.2.2.2) E hA rt hw dX6_read_73 (by rw [show rdM txt z = (-10 - S2.2.1, false, rdv) from (by rw [hL, rdL_eq (by omega), if_neg (fun h9 => cq27 h9.2), ← hR1, if_pos cq43, ← hS2, if_neg cq63])]) (by rw [show rdM txt z = (-10 - S2.2.1, false, rdv) from (by rw [hL, rdL_eq (by omega), if_neg (fun h9 => cq27 h9.2), ← hR1, if_pos cq43, ← hS2, if_neg cq63])]; rfl)
            · skip
              have cq43 := bI_0.mp cq43
              refine lv_bipush (v := -10) hx hb dX6_read_46 rfl ?_
              refine lv_aload_n hx hb dX6_read_48 rfl (lv_at hl 0 rfl) ?_
              refine x_get E hw fw_X6_98 0 rfl rfl dX6_read_49 ?_
              refine lv_isub hx hb dX6_read_52 ?_
              exact x_iretE (R1.2.2.1, nI R1.2.1.1, R1.2.1.2.1, R1.2.1.2.2.1, R1.2.1.2.2.2.1, R1.2.1.2.2.2.2) E hA rt hw dX6_read_53 (by rw [show rdM txt z = (-10 - R1.2.1.2.1, false, rdv) from (by rw [hL, rdL_eq (by omega), if_neg (fun h9 => cq27 h9.2), ← hR1, if_neg (by rw [cq43]; decide)])]) (by rw [show rdM txt z = (-10 - R1.2.1.2.1, false, rdv) from (by rw [hL, rdL_eq (by omega), if_neg (fun h9 => cq27 h9.2), ← hR1, if_neg (by rw [cq43]; decide)])]; rfl)
          · skip
            have cq32 : i = 0 := (cv_eq (a := i) (b := 0) rfl rfl (by omega) (by omega)).mp cq32
            exact absurd cq32 cq20
  exact lp19 (z - (stM txt z 0).1 + 1) 0 (stM txt z 0) (upd bg0 20 0) 0 (z + 1) ((stM_le (Nat.zero_le z)).2.1) (Nat.zero_le _) (rfl) (Nat.zero_le _) (by omega) (rfl) (Nat.lt_succ_self _) _ _ _ hw (lv_sub hl [1, 0] rfl)
set_option maxHeartbeats 1000000 in
set_option maxRecDepth 100000 in
theorem c_X6_seatsAll (l : Launch) (G : GG) (b : Nat → Nat) (nw : Nat → Int32) (rd : Nat → Int32) (asd : Nat → Int32) (img : Nat → Int32) (kpt : Nat → Int32) (txt : Nat → Int32) (sz : Int32) (abv : Int64) (blw : Int64) (bds : Int32) (nos : Int32) (fls : Int32) (att : Int32) (bgn : Int32) (tkn : Int32) (wrd : Int64) (vlu : Int32) (sts : Nat → Int32) (bst : Nat → Int32) (n : Nat) (F0_ : Nat) (r1 : Int32) (r2 : Nat → Int32) (hc : nw 22 = nI n) (hn : n ≤ 6) (hF : sqL n F0_ (1, 1000000, nw, upd sts 0 (-1), bst) = some (r1, r2)) : CE l G yX6_seatsAll cX6_seatsAll 5 (some .int) 5 112 [.ref (b 0)] (mW G b nw rd asd img kpt txt sz abv blw bds nos fls att bgn tkn wrd vlu sts bst) (some (.int r1)) (fun uu : (Nat → Int32) × (Nat → Int32) => mW G b nw rd uu.1 img kpt txt sz abv blw bds nos fls att bgn tkn wrd vlu uu.2 r2) := by
  refine CE.mk (own := RX6) (la := [(0, .ref (b 0))]) (by decide) rfl (Nat.le_of_ble_eq_true rfl) rfl ?_
  intro p e s m args below meth c A Q E hA hw rt ls hl
  have hx := E.1
  have hb := E.2.1
  refine lv_aload_n hx hb dX6_seatsAll_0 rfl (lv_at hl 0 rfl) ?_
  refine x_get E hw fw_X6_7 0 rfl rfl dX6_seatsAll_1 ?_
  refine lv_bipush (v := 22) hx hb dX6_seatsAll_4 rfl ?_
  refine x_iald E hw 1 rfl 22 (rfl) (by omega) (by omega) dX6_seatsAll_6 ?_
  refine lv_istore_n (lv' := [(1, .int (nw 22)), (0, .ref (b 0))]) hx hb dX6_seatsAll_7 rfl hl (by decide) rfl (fun ls hl => ?_)
  refine lv_ldc hx hb E.2.2.2.1 (E.2.2.2.2.2.2.w kc_X6_211) dX6_seatsAll_8 ?_
  refine lv_istore_n (lv' := [(2, .int 1000000), (1, .int (nw 22)), (0, .ref (b 0))]) hx hb dX6_seatsAll_10 rfl hl (by decide) rfl (fun ls hl => ?_)
  refine lv_aload_n hx hb dX6_seatsAll_11 rfl (lv_at hl 2 rfl) ?_
  refine x_callV (is := [0, 1, 2, 3, 4, 5, 6, 7, 8]) (q0 := 0) (As := []) (rest := []) (st1 := []) (ws' := mW G b nw rd nw img kpt txt sz abv blw bds nos fls att bgn tkn wrd vlu sts bst) E (c_X6_layAside l G b nw rd asd img kpt txt sz abv blw bds nos fls att bgn tkn wrd vlu sts bst) vw_X6_205 hw [0, 1, 2, 3, 4, 5, 6, 7, 8] rfl rfl rfl rfl rfl rfl rfl hl.1 rfl rfl (Nat.le_of_ble_eq_true rfl) ⟨Nat.le_of_ble_eq_true rfl, Nat.le_of_ble_eq_true rfl⟩ (Nat.zero_le _) (Nat.zero_le _) dX6_seatsAll_12 rfl rfl (fun H locs hw => ?_)
  refine lv_iconst (v := 0) hx hb dX6_seatsAll_15 rfl ?_
  refine lv_istore_n (lv' := [(3, .int 0), (2, .int 1000000), (1, .int (nw 22)), (0, .ref (b 0))]) hx hb dX6_seatsAll_16 rfl hl (by decide) rfl (fun ls hl => ?_)
  refine lv_aload_n hx hb dX6_seatsAll_17 rfl (lv_at hl 3 rfl) ?_
  refine x_get E hw fw_X6_33 0 rfl rfl dX6_seatsAll_18 ?_
  refine lv_iconst (v := 0) hx hb dX6_seatsAll_21 rfl ?_
  refine lv_iconst (v := -1) hx hb dX6_seatsAll_22 rfl ?_
  refine x_iast (ws' := mW G b nw rd nw img kpt txt sz abv blw bds nos fls att bgn tkn wrd vlu (upd sts 0 (-1)) bst) E hw 7 rfl 0 (rfl) (by omega) (by omega) dX6_seatsAll_23 rfl (fun H locs hw => ?_)
  have lp24 : ∀ (fuel : Nat), ∀ (kk : Nat) (few : Int32) (av : Nat → Int32) (sv : Nat → Int32) (bv : Nat → Int32) (f_ : Nat) (hkk : kk ≤ n + 1) (h22 : av 22 = nI n) (hFv : sqL n f_ (kk, few, av, sv, bv) = some (r1, r2)), f_ < fuel → ∀ (H : Heap) (locs : List Loc) (ls : Array Slot), Wd G A s H locs (mW G b nw rd av img kpt txt sz abv blw bds nos fls att bgn tkn wrd vlu sv bv) → lv_has ls 5 [(0, .ref (b 0)), (1, .int (nw 22)), (2, .int few), (3, .int (nI kk - 1))] → W p l e (rmx 5 112) s m args below meth c H locs 0 0 Q (F0 m 24 ls []) := by
    intro fuel
    induction fuel with
    | zero => intro kk few av sv bv f_ hkk h22 hFv hfu; exact absurd hfu (Nat.not_lt_zero _)
    | succ fuel ih24 =>
      intro kk few av sv bv f_ hkk h22 hFv hfu H locs ls hw hl
      refine lv_iload_n hx hb dX6_seatsAll_24 rfl (lv_at hl 3 rfl) ?_
      refine lv_if_lt (tgt := 176) hx hb dX6_seatsAll_25 rfl (fun cq25 => ?_) (fun cq25 => ?_)
      · skip
        have hk0 : kk = 0 := by rcases Nat.eq_zero_or_pos kk with h9 | h9; exact h9; exact absurd cq25 (by rw [show nI kk - 1 = nI (kk - 1) from pk_sub (a := kk) (b := 1) h9]; exact nI_pos (by omega))
        have hre := sqL_end hFv hk0
        refine lv_iload_n hx hb dX6_seatsAll_176 rfl (lv_at hl 2 rfl) ?_
        exact x_iretE (av, sv) E hA rt hw dX6_seatsAll_177 ((Prod.mk.inj hre).1.symm) (by rw [(Prod.mk.inj hre).2])
      · skip
        have hk1 : 1 ≤ kk := by rcases Nat.eq_zero_or_pos kk with h9 | h9; exact absurd (by rw [h9]; decide) cq25; exact h9
        have ekk : nI kk - 1 = nI (kk - 1) := pk_sub (a := kk) (b := 1) hk1
        refine lv_iload_n hx hb dX6_seatsAll_28 rfl (lv_at hl 3 rfl) ?_
        refine lv_iload_n hx hb dX6_seatsAll_29 rfl (lv_at hl 1 rfl) ?_
        refine lv_icmp_ne (tgt := 75) hx hb dX6_seatsAll_30 rfl (fun cq30 => ?_) (fun cq30 => ?_)
        · skip
          have cq30 : ¬ kk - 1 = n := fun h => cq30 ((cv_eq (a := kk - 1) (b := n) ekk hc (by omega) (by omega)).mpr h)
          refine lv_aload_n hx hb dX6_seatsAll_75 rfl (lv_at hl 0 rfl) ?_
          refine x_get E hw fw_X6_33 0 rfl rfl dX6_seatsAll_76 ?_
          refine lv_iload_n hx hb dX6_seatsAll_79 rfl (lv_at hl 3 rfl) ?_
          refine lv_dup2_11 hx hb dX6_seatsAll_80 rfl rfl ?_
          refine x_iald E hw 7 rfl (kk - 1) (ekk) (by omega) (by omega) dX6_seatsAll_81 ?_
          refine lv_iconst (v := 1) hx hb dX6_seatsAll_82 rfl ?_
          refine lv_iadd hx hb dX6_seatsAll_83 ?_
          refine x_iast (ws' := mW G b nw rd av img kpt txt sz abv blw bds nos fls att bgn tkn wrd vlu (upd sv (kk - 1) ((sv (kk - 1)) + 1)) bv) E hw 7 rfl (kk - 1) (ekk) (by omega) (by omega) dX6_seatsAll_84 rfl (fun H locs hw => ?_)
          refine lv_iload_n hx hb dX6_seatsAll_85 rfl (lv_at hl 3 rfl) ?_
          refine x_topi (y := nI (kk - 1)) (ekk) ?_
          refine lv_istore (lv' := [(4, .int (nI (kk - 1))), (0, .ref (b 0)), (1, .int (nw 22)), (2, .int few), (3, .int (nI kk - 1))]) hx hb dX6_seatsAll_86 hl (by decide) rfl (fun ls hl => ?_)
          have lp88 : ∀ (fuel : Nat), ∀ (j : Nat) (a2 : Nat → Int32) (hj1 : kk - 1 ≤ j) (hj : j ≤ n) (ha2 : a2 = clr av (kk - 1) j), (n - j) < fuel → ∀ (H : Heap) (locs : List Loc) (ls : Array Slot), Wd G A s H locs (mW G b nw rd a2 img kpt txt sz abv blw bds nos fls att bgn tkn wrd vlu (upd sv (kk - 1) ((sv (kk - 1)) + 1)) bv) → lv_has ls 5 [(0, .ref (b 0)), (1, .int (nw 22)), (2, .int few), (3, .int (nI kk - 1)), (4, .int (nI j))] → W p l e (rmx 5 112) s m args below meth c H locs 0 0 Q (F0 m 88 ls []) := by
            intro fuel
            induction fuel with
            | zero => intro j a2 hj1 hj ha2 hfu; exact absurd hfu (Nat.not_lt_zero _)
            | succ fuel ih88 =>
              intro j a2 hj1 hj ha2 hfu H locs ls hw hl
              refine lv_iload hx hb dX6_seatsAll_88 (lv_at hl 4 rfl) ?_
              refine lv_iload_n hx hb dX6_seatsAll_90 rfl (lv_at hl 1 rfl) ?_
              refine lv_icmp_ge (tgt := 110) hx hb dX6_seatsAll_91 rfl (fun cq91 => ?_) (fun cq91 => ?_)
              · skip
                have cq91 : n ≤ j := (cv_le (a := n) (b := j) hc rfl (by omega) (by omega)).mp cq91
                have ej : j = n := by omega
                rw [ha2, ej] at hw
                have hc2 : clr av (kk - 1) n 22 = nI n := by rw [clr_out (by omega)]; exact h22
                refine lv_aload_n hx hb dX6_seatsAll_110 rfl (lv_at hl 0 rfl) ?_
                refine x_get E hw fw_X6_33 0 rfl rfl dX6_seatsAll_111 ?_
                refine lv_iload_n hx hb dX6_seatsAll_114 rfl (lv_at hl 3 rfl) ?_
                refine x_iald E hw 7 rfl (kk - 1) (ekk) (by omega) (by omega) dX6_seatsAll_115 ?_
                refine x_topi (y := sv (kk - 1) + 1) (upd_at _ _ _) ?_
                refine lv_bipush (v := 7) hx hb dX6_seatsAll_116 rfl ?_
                refine lv_icmp_le (tgt := 127) hx hb dX6_seatsAll_118 rfl (fun cq118 => ?_) (fun cq118 => ?_)
                · skip
                  refine lv_aload_n hx hb dX6_seatsAll_127 rfl (lv_at hl 0 rfl) ?_
                  refine x_get E hw fw_X6_16 0 rfl rfl dX6_seatsAll_128 ?_
                  refine lv_aload_n hx hb dX6_seatsAll_131 rfl (lv_at hl 0 rfl) ?_
                  refine x_get E hw fw_X6_33 0 rfl rfl dX6_seatsAll_132 ?_
                  refine lv_iload_n hx hb dX6_seatsAll_135 rfl (lv_at hl 3 rfl) ?_
                  refine x_iald E hw 7 rfl (kk - 1) (ekk) (by omega) (by omega) dX6_seatsAll_136 ?_
                  refine x_topi (y := sv (kk - 1) + 1) (upd_at _ _ _) ?_
                  refine x_callS (is := [3]) (As := [.ref (b 3), .int (sv (kk - 1) + 1)]) (rest := []) (st1 := [.int (fi (clr av (kk - 1) n) (sv (kk - 1) + 1) n 0)]) (ws' := mW G b nw rd (clr av (kk - 1) n) img kpt txt sz abv blw bds nos fls att bgn tkn wrd vlu (upd sv (kk - 1) ((sv (kk - 1)) + 1)) bv) E (c_X6_whoIs l G (b 3) (sv (kk - 1) + 1) (clr av (kk - 1) n) 35 n (by omega) (by omega) (hc2) (by omega)) sw_X6_73 hw [3] rfl rfl rfl rfl hl.1 rfl rfl (Nat.le_of_ble_eq_true rfl) ⟨Nat.le_of_ble_eq_true rfl, Nat.le_of_ble_eq_true rfl⟩ (Nat.zero_le _) (Nat.zero_le _) dX6_seatsAll_137 rfl rfl (fun H locs hw => ?_)
                  refine lv_iconst (v := -1) hx hb dX6_seatsAll_140 rfl ?_
                  refine lv_icmp_ne (tgt := 24) hx hb dX6_seatsAll_141 rfl (fun cq141 => ?_) (fun cq141 => ?_)
                  · skip
                    exact ih24 kk few (clr av (kk - 1) n) (upd sv (kk - 1) ((sv (kk - 1)) + 1)) bv (f_ - 1) (by omega) (by rw [clr_out (by omega)]; exact h22) (by have h8 := (sqL_step hFv (by show ¬ kk = 0; omega)).2; rw [sqS] at h8; simp only [if_neg cq30, if_pos cq118, if_neg cq141] at h8; exact h8) (by have := (sqL_step hFv (by show ¬ kk = 0; omega)).1; omega) _ _ _ hw (lv_sub hl [0, 1, 2, 3] rfl)
                  · skip
                    refine lv_aload_n hx hb dX6_seatsAll_144 rfl (lv_at hl 0 rfl) ?_
                    refine x_get E hw fw_X6_16 0 rfl rfl dX6_seatsAll_145 ?_
                    refine lv_iconst (v := 0) hx hb dX6_seatsAll_148 rfl ?_
                    refine lv_iload_n hx hb dX6_seatsAll_149 rfl (lv_at hl 3 rfl) ?_
                    refine lv_iadd hx hb dX6_seatsAll_150 ?_
                    refine lv_aload_n hx hb dX6_seatsAll_151 rfl (lv_at hl 0 rfl) ?_
                    refine x_get E hw fw_X6_33 0 rfl rfl dX6_seatsAll_152 ?_
                    refine lv_iload_n hx hb dX6_seatsAll_155 rfl (lv_at hl 3 rfl) ?_
                    refine x_iald E hw 7 rfl (kk - 1) (ekk) (by omega) (by omega) dX6_seatsAll_156 ?_
                    refine x_topi (y := sv (kk - 1) + 1) (upd_at _ _ _) ?_
                    refine x_iast (ws' := mW G b nw rd (upd (clr av (kk - 1) n) (kk - 1) (sv (kk - 1) + 1)) img kpt txt sz abv blw bds nos fls att bgn tkn wrd vlu (upd sv (kk - 1) ((sv (kk - 1)) + 1)) bv) E hw 3 rfl (kk - 1) ((ix_0add (b := kk - 1) ekk)) (by omega) (by omega) dX6_seatsAll_157 rfl (fun H locs hw => ?_)
                    refine lv_iinc (v := nI (kk + 1) - 1) (lv' := [(3, .int (nI (kk + 1) - 1)), (0, .ref (b 0)), (1, .int (nw 22)), (2, .int few), (4, .int (nI j))]) hx hb dX6_seatsAll_158 hl (k := 3) rfl (by rw [ekk, show nI (kk + 1) - 1 = nI kk from nI_pred kk]; exact (nI_add (kk - 1) 1).trans (by rw [Nat.sub_add_cancel hk1])) (by decide) rfl (fun ls hl => ?_)
                    refine lv_iload_n hx hb dX6_seatsAll_161 rfl (lv_at hl 0 rfl) ?_
                    refine lv_iload_n hx hb dX6_seatsAll_162 rfl (lv_at hl 2 rfl) ?_
                    refine lv_icmp_ge (tgt := 24) hx hb dX6_seatsAll_163 rfl (fun cq163 => ?_) (fun cq163 => ?_)
                    · skip
                      have cq163 : n ≤ kk - 1 + 1 := (cv_le (a := n) (b := kk - 1 + 1) hc (by rw [nI_pred kk, Nat.sub_add_cancel hk1]) (by omega) (by omega)).mp cq163
                      exact ih24 (kk + 1) few (upd (clr av (kk - 1) n) (kk - 1) (sv (kk - 1) + 1)) (upd sv (kk - 1) ((sv (kk - 1)) + 1)) bv (f_ - 1) (by omega) (by rw [upd_ne _ _ (by omega), clr_out (by omega)]; exact h22) (by have h8 := (sqL_step hFv (by show ¬ kk = 0; omega)).2; rw [sqS] at h8; simp only [if_neg cq30, if_pos cq118, if_pos cq141, if_pos cq163] at h8; exact h8) (by have := (sqL_step hFv (by show ¬ kk = 0; omega)).1; omega) _ _ _ hw (lv_sub hl [1, 2, 3, 0] rfl)
                    · skip
                      have cq163 : ¬ n ≤ kk - 1 + 1 := fun h => cq163 ((cv_le (a := n) (b := kk - 1 + 1) hc (by rw [nI_pred kk, Nat.sub_add_cancel hk1]) (by omega) (by omega)).mpr h)
                      refine lv_aload_n hx hb dX6_seatsAll_166 rfl (lv_at hl 1 rfl) ?_
                      refine x_get E hw fw_X6_33 0 rfl rfl dX6_seatsAll_167 ?_
                      refine lv_iload_n hx hb dX6_seatsAll_170 rfl (lv_at hl 0 rfl) ?_
                      refine lv_iconst (v := -1) hx hb dX6_seatsAll_171 rfl ?_
                      refine x_iast (ws' := mW G b nw rd (upd (clr av (kk - 1) n) (kk - 1) (sv (kk - 1) + 1)) img kpt txt sz abv blw bds nos fls att bgn tkn wrd vlu (upd (upd sv (kk - 1) ((sv (kk - 1)) + 1)) (kk - 1 + 1) (-1)) bv) E hw 7 rfl (kk - 1 + 1) ((by rw [nI_pred kk, Nat.sub_add_cancel hk1])) (by omega) (by omega) dX6_seatsAll_172 rfl (fun H locs hw => ?_)
                      refine lv_goto (tgt := 24) hx hb dX6_seatsAll_173 rfl ?_
                      exact ih24 (kk + 1) few (upd (clr av (kk - 1) n) (kk - 1) (sv (kk - 1) + 1)) (upd (upd sv (kk - 1) ((sv (kk - 1)) + 1)) (kk - 1 + 1) (-1)) bv (f_ - 1) (by omega) (by rw [upd_ne _ _ (by omega), clr_out (by omega)]; exact h22) (by have h8 := (sqL_step hFv (by show ¬ kk = 0; omega)).2; rw [sqS] at h8; simp only [if_neg cq30, if_pos cq118, if_pos cq141, if_neg cq163] at h8; exact h8) (by have := (sqL_step hFv (by show ¬ kk = 0; omega)).1; omega) _ _ _ hw (lv_sub hl [1, 2, 3, 0] rfl)
                · skip
                  refine lv_iinc (v := nI (kk - 1) - 1) (lv' := [(3, .int (nI (kk - 1) - 1)), (0, .ref (b 0)), (1, .int (nw 22)), (2, .int few), (4, .int (nI j))]) hx hb dX6_seatsAll_121 hl (k := 3) rfl (by rw [ekk, Int32.sub_eq_add_neg, show Int32.ofInt (-1) = -1 by decide]) (by decide) rfl (fun ls hl => ?_)
                  refine lv_goto (tgt := 24) hx hb dX6_seatsAll_124 rfl ?_
                  exact ih24 (kk - 1) few (clr av (kk - 1) n) (upd sv (kk - 1) ((sv (kk - 1)) + 1)) bv (f_ - 1) (by omega) (by rw [clr_out (by omega)]; exact h22) (by have h8 := (sqL_step hFv (by show ¬ kk = 0; omega)).2; rw [sqS] at h8; simp only [if_neg cq30, if_neg cq118] at h8; exact h8) (by have := (sqL_step hFv (by show ¬ kk = 0; omega)).1; omega) _ _ _ hw (lv_sub hl [1, 2, 3, 0] rfl)
              · skip
                have cq91 : ¬ n ≤ j := fun h => cq91 ((cv_le (a := n) (b := j) hc rfl (by omega) (by omega)).mpr h)
                refine lv_aload_n hx hb dX6_seatsAll_94 rfl (lv_at hl 0 rfl) ?_
                refine x_get E hw fw_X6_16 0 rfl rfl dX6_seatsAll_95 ?_
                refine lv_iconst (v := 0) hx hb dX6_seatsAll_98 rfl ?_
                refine lv_iload hx hb dX6_seatsAll_99 (lv_at hl 4 rfl) ?_
                refine lv_iadd hx hb dX6_seatsAll_101 ?_
                refine lv_iconst (v := -1) hx hb dX6_seatsAll_102 rfl ?_
                refine x_iast (ws' := mW G b nw rd (upd a2 j (-1)) img kpt txt sz abv blw bds nos fls att bgn tkn wrd vlu (upd sv (kk - 1) ((sv (kk - 1)) + 1)) bv) E hw 3 rfl j ((ix_0add (b := j) rfl)) (by omega) (by omega) dX6_seatsAll_103 rfl (fun H locs hw => ?_)
                refine lv_iinc (v := nI (j + 1)) (lv' := [(4, .int (nI (j + 1))), (0, .ref (b 0)), (1, .int (nw 22)), (2, .int few), (3, .int (nI kk - 1))]) hx hb dX6_seatsAll_104 hl (k := 4) rfl (nI_add _ 1) (by decide) rfl (fun ls hl => ?_)
                refine lv_goto (tgt := 88) hx hb dX6_seatsAll_107 rfl ?_
                exact ih88 (j + 1) (upd a2 j (-1)) (by omega) (by omega) (by rw [ha2, clr_step _ hj1]) (by omega) _ _ _ hw (lv_sub hl [1, 2, 3, 4, 0] rfl)
          exact lp88 (n - (kk - 1) + 1) (kk - 1) av (by omega) (by omega) ((clr_0 _ _).symm) (by omega) _ _ _ hw (lv_sub hl [1, 2, 3, 4, 0] rfl)
        · skip
          have cq30 : kk - 1 = n := (cv_eq (a := kk - 1) (b := n) ekk hc (by omega) (by omega)).mp cq30
          refine lv_aload_n hx hb dX6_seatsAll_33 rfl (lv_at hl 0 rfl) ?_
          refine x_get E hw fw_X6_16 0 rfl rfl dX6_seatsAll_34 ?_
          refine x_callS (is := [3]) (As := [.ref (b 3)]) (rest := []) (st1 := [.int (bitrM av n)]) (ws' := mW G b nw rd av img kpt txt sz abv blw bds nos fls att bgn tkn wrd vlu sv bv) E (c_X6_biters l G (b 3) av 35 n (by omega) (by omega) (h22) (by omega)) sw_X6_176 hw [3] rfl rfl rfl rfl hl.1 rfl rfl (Nat.le_of_ble_eq_true rfl) ⟨Nat.le_of_ble_eq_true rfl, Nat.le_of_ble_eq_true rfl⟩ (Nat.zero_le _) (Nat.zero_le _) dX6_seatsAll_37 rfl rfl (fun H locs hw => ?_)
          refine x_callS (is := []) (As := [.int (bitrM av n)]) (rest := []) (st1 := [.int (bitsV (bitrM av n))]) (ws' := mW G b nw rd av img kpt txt sz abv blw bds nos fls att bgn tkn wrd vlu sv bv) E (c_X6_bits l G (bitrM av n)) sw_X6_184 hw [] rfl rfl rfl rfl hl.1 rfl rfl (Nat.le_of_ble_eq_true rfl) ⟨Nat.le_of_ble_eq_true rfl, Nat.le_of_ble_eq_true rfl⟩ (Nat.zero_le _) (Nat.zero_le _) dX6_seatsAll_40 rfl rfl (fun H locs hw => ?_)
          refine lv_istore (lv' := [(4, .int (bitsV (bitrM av n))), (0, .ref (b 0)), (1, .int (nw 22)), (2, .int few), (3, .int (nI kk - 1))]) hx hb dX6_seatsAll_43 hl (by decide) rfl (fun ls hl => ?_)
          refine lv_iload hx hb dX6_seatsAll_45 (lv_at hl 0 rfl) ?_
          refine lv_iload_n hx hb dX6_seatsAll_47 rfl (lv_at hl 3 rfl) ?_
          refine lv_icmp_ge (tgt := 69) hx hb dX6_seatsAll_48 rfl (fun cq48 => ?_) (fun cq48 => ?_)
          · skip
            refine lv_iinc (v := nI (kk - 1) - 1) (lv' := [(3, .int (nI (kk - 1) - 1)), (4, .int (bitsV (bitrM av n))), (0, .ref (b 0)), (1, .int (nw 22)), (2, .int few)]) hx hb dX6_seatsAll_69 hl (k := 4) rfl (by rw [ekk, Int32.sub_eq_add_neg, show Int32.ofInt (-1) = -1 by decide]) (by decide) rfl (fun ls hl => ?_)
            refine lv_goto (tgt := 24) hx hb dX6_seatsAll_72 rfl ?_
            exact ih24 (kk - 1) few av sv bv (f_ - 1) (by omega) (h22) (by have h8 := (sqL_step hFv (by show ¬ kk = 0; omega)).2; rw [sqS] at h8; simp only [if_pos cq30, if_pos cq48, if_pos cq48] at h8; exact h8) (by have := (sqL_step hFv (by show ¬ kk = 0; omega)).1; omega) _ _ _ hw (lv_sub hl [2, 3, 4, 0] rfl)
          · skip
            refine lv_iload hx hb dX6_seatsAll_51 (lv_at hl 0 rfl) ?_
            refine lv_istore_n (lv' := [(2, .int (bitsV (bitrM av n))), (4, .int (bitsV (bitrM av n))), (0, .ref (b 0)), (1, .int (nw 22)), (3, .int (nI kk - 1))]) hx hb dX6_seatsAll_53 rfl hl (by decide) rfl (fun ls hl => ?_)
            refine lv_aload_n hx hb dX6_seatsAll_54 rfl (lv_at hl 2 rfl) ?_
            refine x_get E hw fw_X6_16 0 rfl rfl dX6_seatsAll_55 ?_
            refine lv_iconst (v := 0) hx hb dX6_seatsAll_58 rfl ?_
            refine lv_aload_n hx hb dX6_seatsAll_59 rfl (lv_at hl 2 rfl) ?_
            refine x_get E hw fw_X6_36 0 rfl rfl dX6_seatsAll_60 ?_
            refine lv_iconst (v := 0) hx hb dX6_seatsAll_63 rfl ?_
            refine lv_bipush (v := 6) hx hb dX6_seatsAll_64 rfl ?_
            refine x_callS (is := [3, 8]) (As := [.ref (b 3), .int 0, .ref (b 8), .int 0, .int 6]) (rest := []) (st1 := []) (ws' := mW G b nw rd av img kpt txt sz abv blw bds nos fls att bgn tkn wrd vlu sv (va_cpy av bv 0 0 6)) E (c_copies l G (b 3) (b 8) 0 0 (rfl) 0 0 (rfl) 6 6 (rfl) av bv 35 6 (by omega) (by omega) (by omega) (by omega)) sw_X6_152 hw [3, 8] rfl rfl rfl rfl hl.1 rfl rfl (Nat.le_of_ble_eq_true rfl) ⟨Nat.le_of_ble_eq_true rfl, Nat.le_of_ble_eq_true rfl⟩ (Nat.zero_le _) (Nat.zero_le _) dX6_seatsAll_66 rfl rfl (fun H locs hw => ?_)
            have hw := Wd.arr (ws' := mW G b nw rd av img kpt txt sz abv blw bds nos fls att bgn tkn wrd vlu sv av) (g := av) hw 8 rfl (fun j hj => by rw [pk_cpy_in (Nat.zero_le j) (by omega)]; congr 1; omega) rfl
            refine lv_iinc (v := nI (kk - 1) - 1) (lv' := [(3, .int (nI (kk - 1) - 1)), (2, .int (bitsV (bitrM av n))), (4, .int (bitsV (bitrM av n))), (0, .ref (b 0)), (1, .int (nw 22))]) hx hb dX6_seatsAll_69 hl (k := 4) rfl (by rw [ekk, Int32.sub_eq_add_neg, show Int32.ofInt (-1) = -1 by decide]) (by decide) rfl (fun ls hl => ?_)
            refine lv_goto (tgt := 24) hx hb dX6_seatsAll_72 rfl ?_
            exact ih24 (kk - 1) (bitsV (bitrM av n)) av sv av (f_ - 1) (by omega) (h22) (by have h8 := (sqL_step hFv (by show ¬ kk = 0; omega)).2; rw [sqS] at h8; simp only [if_pos cq30, if_neg cq48, if_neg cq48] at h8; exact h8) (by have := (sqL_step hFv (by show ¬ kk = 0; omega)).1; omega) _ _ _ hw (lv_sub hl [3, 4, 1, 0] rfl)
  exact lp24 (F0_ + 1) 1 1000000 nw (upd sts 0 (-1)) bst F0_ (by omega) (hc) (hF) (by omega) _ _ _ hw (lv_sub hl [3, 2, 1, 0] rfl)
set_option maxHeartbeats 1000000 in
set_option maxRecDepth 100000 in
theorem c_X6_seated (l : Launch) (G : GG) (b : Nat → Nat) (x : Int32) (nw : Nat → Int32) (rd : Nat → Int32) (asd : Nat → Int32) (img : Nat → Int32) (kpt : Nat → Int32) (txt : Nat → Int32) (sz : Int32) (abv : Int64) (blw : Int64) (bds : Int32) (nos : Int32) (fls : Int32) (att : Int32) (bgn : Int32) (tkn : Int32) (wrd : Int64) (vlu : Int32) (sts : Nat → Int32) (bst : Nat → Int32) (n : Nat) (F0_ : Nat) (r1 : Int32) (r2 : Nat → Int32) (hc : nw 22 = nI n) (hn : n ≤ 6) (hF : sqL n F0_ (1, 1000000, nw, upd sts 0 (-1), bst) = some (r1, r2)) : CE l G yX6_seated cX6_seated 3 (some .int) 6 136 [.ref (b 0), .int x] (mW G b nw rd asd img kpt txt sz abv blw bds nos fls att bgn tkn wrd vlu sts bst) (some (.int (if x = -1 ∨ inI x 0 (nw 22 - 1) = true then (if x = -1 then r1 else r2 x.toNatClampNeg) else -10))) (fun uu : (Nat → Int32) × (Nat → Int32) × (Nat → Int32) => mW G b nw rd uu.1 img kpt txt sz abv blw (if x = -1 ∨ inI x 0 (nw 22 - 1) = true then bds else bds + 1) nos fls att bgn tkn wrd vlu uu.2.1 uu.2.2) := by
  refine CE.mk (own := RX6) (la := [(0, .ref (b 0)), (1, .int x)]) (by decide) rfl (Nat.le_of_ble_eq_true rfl) rfl ?_
  intro p e s m args below meth c A Q E hA hw rt ls hl
  have hx := E.1
  have hb := E.2.1
  refine lv_iload_n hx hb dX6_seated_0 rfl (lv_at hl 1 rfl) ?_
  refine lv_iconst (v := -1) hx hb dX6_seated_1 rfl ?_
  refine lv_icmp_eq (tgt := 18) hx hb dX6_seated_2 rfl (fun cq2 => ?_) (fun cq2 => ?_)
  · skip
    refine lv_aload_n hx hb dX6_seated_18 rfl (lv_at hl 0 rfl) ?_
    refine x_callVE (is := [0, 1, 2, 3, 4, 5, 6, 7, 8]) (q0 := 0) (As := []) (rest := []) (st1 := [.int r1]) (ws' := fun u19 : (Nat → Int32) × (Nat → Int32) => mW G b nw rd u19.1 img kpt txt sz abv blw bds nos fls att bgn tkn wrd vlu u19.2 r2) E (c_X6_seatsAll l G b nw rd asd img kpt txt sz abv blw bds nos fls att bgn tkn wrd vlu sts bst n F0_ r1 r2 (hc) (by omega) (hF)) vw_X6_212 hw [0, 1, 2, 3, 4, 5, 6, 7, 8] rfl rfl rfl rfl rfl rfl (fun _ => rfl) hl.1 rfl rfl (Nat.le_of_ble_eq_true rfl) ⟨Nat.le_of_ble_eq_true rfl, Nat.le_of_ble_eq_true rfl⟩ (Nat.zero_le _) (Nat.zero_le _) dX6_seated_19 (fun _ => rfl) rfl (fun u19 H locs hw => ?_)
    refine lv_istore_n (lv' := [(2, .int r1), (0, .ref (b 0)), (1, .int x)]) hx hb dX6_seated_22 rfl hl (by decide) rfl (fun ls hl => ?_)
    refine lv_iload_n hx hb dX6_seated_23 rfl (lv_at hl 2 rfl) ?_
    refine lv_iconst (v := -1) hx hb dX6_seated_24 rfl ?_
    refine lv_icmp_ne (tgt := 32) hx hb dX6_seated_25 rfl (fun cq25 => ?_) (fun cq25 => ?_)
    · skip
      exact absurd cq2 cq25
    · skip
      refine lv_iload_n hx hb dX6_seated_28 rfl (lv_at hl 0 rfl) ?_
      refine lv_goto (tgt := 38) hx hb dX6_seated_29 rfl ?_
      exact x_iretE (u19.1, u19.2, r2) E hA rt hw dX6_seated_38 (by simp [cq2, cq25]) (by simp [cq2, cq25])
  · skip
    refine lv_aload_n hx hb dX6_seated_5 rfl (lv_at hl 0 rfl) ?_
    refine lv_iload_n hx hb dX6_seated_6 rfl (lv_at hl 1 rfl) ?_
    refine x_callV (is := [0, 1, 2, 3, 4, 5, 6, 7, 8]) (q0 := 0) (As := [.int x]) (rest := []) (st1 := [.int (bI (inI x 0 (nw 22 - 1)))]) (ws' := mW G b nw rd asd img kpt txt sz abv blw bds nos fls att bgn tkn wrd vlu sts bst) E (c_X6_isChild l G b x nw rd asd img kpt txt sz abv blw bds nos fls att bgn tkn wrd vlu sts bst) vw_X6_197 hw [0, 1, 2, 3, 4, 5, 6, 7, 8] rfl rfl rfl rfl rfl rfl rfl hl.1 rfl rfl (Nat.le_of_ble_eq_true rfl) ⟨Nat.le_of_ble_eq_true rfl, Nat.le_of_ble_eq_true rfl⟩ (Nat.zero_le _) (Nat.zero_le _) dX6_seated_7 rfl rfl (fun H locs hw => ?_)
    refine lv_if_ne (tgt := 18) hx hb dX6_seated_10 rfl (fun cq10 => ?_) (fun cq10 => ?_)
    · skip
      have cq10 := bI_n0.mp cq10
      obtain ⟨k, hk, ek⟩ := inI_child hc hn cq10
      have exk : x.toNatClampNeg = k := by rw [ek, nI_clamp (by omega)]
      refine lv_aload_n hx hb dX6_seated_18 rfl (lv_at hl 0 rfl) ?_
      refine x_callVE (is := [0, 1, 2, 3, 4, 5, 6, 7, 8]) (q0 := 0) (As := []) (rest := []) (st1 := [.int r1]) (ws' := fun u19 : (Nat → Int32) × (Nat → Int32) => mW G b nw rd u19.1 img kpt txt sz abv blw bds nos fls att bgn tkn wrd vlu u19.2 r2) E (c_X6_seatsAll l G b nw rd asd img kpt txt sz abv blw bds nos fls att bgn tkn wrd vlu sts bst n F0_ r1 r2 (hc) (by omega) (hF)) vw_X6_212 hw [0, 1, 2, 3, 4, 5, 6, 7, 8] rfl rfl rfl rfl rfl rfl (fun _ => rfl) hl.1 rfl rfl (Nat.le_of_ble_eq_true rfl) ⟨Nat.le_of_ble_eq_true rfl, Nat.le_of_ble_eq_true rfl⟩ (Nat.zero_le _) (Nat.zero_le _) dX6_seated_19 (fun _ => rfl) rfl (fun u19 H locs hw => ?_)
      refine lv_istore_n (lv' := [(2, .int r1), (0, .ref (b 0)), (1, .int x)]) hx hb dX6_seated_22 rfl hl (by decide) rfl (fun ls hl => ?_)
      refine lv_iload_n hx hb dX6_seated_23 rfl (lv_at hl 2 rfl) ?_
      refine lv_iconst (v := -1) hx hb dX6_seated_24 rfl ?_
      refine lv_icmp_ne (tgt := 32) hx hb dX6_seated_25 rfl (fun cq25 => ?_) (fun cq25 => ?_)
      · skip
        refine lv_aload_n hx hb dX6_seated_32 rfl (lv_at hl 1 rfl) ?_
        refine x_get E hw fw_X6_36 0 rfl rfl dX6_seated_33 ?_
        refine lv_iload_n hx hb dX6_seated_36 rfl (lv_at hl 2 rfl) ?_
        refine x_iald E hw 8 rfl k (ek) (by omega) (by omega) dX6_seated_37 ?_
        exact x_iretE (u19.1, u19.2, r2) E hA rt hw dX6_seated_38 (by simp [cq2, cq10, cq25, exk]) (by simp [cq2, cq10, cq25])
      · skip
        exact absurd cq25 cq2
    · skip
      have cq10 := bI_0.mp cq10
      refine lv_aload_n hx hb dX6_seated_13 rfl (lv_at hl 0 rfl) ?_
      refine x_callV (is := [0, 1, 2, 3, 4, 5, 6, 7, 8]) (q0 := 0) (As := []) (rest := []) (st1 := [.int (-10)]) (ws' := mW G b nw rd asd img kpt txt sz abv blw (bds + 1) nos fls att bgn tkn wrd vlu sts bst) E (c_X6_worse l G b nw rd asd img kpt txt sz abv blw bds nos fls att bgn tkn wrd vlu sts bst) vw_X6_202 hw [0, 1, 2, 3, 4, 5, 6, 7, 8] rfl rfl rfl rfl rfl rfl rfl hl.1 rfl rfl (Nat.le_of_ble_eq_true rfl) ⟨Nat.le_of_ble_eq_true rfl, Nat.le_of_ble_eq_true rfl⟩ (Nat.zero_le _) (Nat.zero_le _) dX6_seated_14 rfl rfl (fun H locs hw => ?_)
      exact x_iretE (asd, sts, bst) E hA rt hw dX6_seated_17 (by simp [cq2, cq10]) (by simp [cq2, cq10])

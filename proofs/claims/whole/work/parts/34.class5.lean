set_option maxHeartbeats 1000000 in
set_option maxRecDepth 100000 in
theorem c_X5_ringGain (l : Launch) (G : GG) (x0 : Nat) (s0 : Nat) (t0 : Nat → Nat) (p0 : Nat → Nat) (n0 : Nat → Nat) (g0 : Nat) (k0 : Nat) (xt : Nat → Nat) (tr : Nat → Nat) (sg : Nat) (rf : Nat) (x : Int32) (pr : Int32) (xa : Int32) (xb : Int32) (ab : Int64) (bl : Int64) (wo : Int32) (mi : Int32) (bi : Int32) (la : Int32) (n : Nat) (ki : Nat → Int32) (se : Nat → Int32) (wd : Nat → Int32) (hu : Nat → Int32) (bt : Nat → Int32) (bs : Int32) (hn : n ≤ 6) (hbs : bitr wo la n ki se wd hu bt = bs) : CT l G yX5_ringGain cX5_ringGain 9 (some .int) 4 87 [.ref x0, .int x, .int pr, .int xa, .int xb] ([xO G x0 s0 g0 k0 xt tr sg rf ab bl, oS G s0 t0 p0 n0, tW G t0 wo mi bi la (nI n) ki se wd hu bt].flatten) (some (.int (rnC bs se n x pr xa xb))) ([xO G x0 s0 g0 k0 xt tr sg rf ab bl, oS G s0 t0 p0 n0, tW G t0 wo mi bi la (nI n) ki se wd hu bt].flatten) := by
  refine CT.mk (own := RX5) (la := [(0, .ref x0), (1, .int x), (2, .int pr), (3, .int xa), (4, .int xb)]) (by decide) rfl (Nat.le_of_ble_eq_true rfl) rfl ?_
  intro p e s m args below meth c A Q E hA hw rt ls hl
  have hx := E.1
  have hb := E.2.1
  refine lv_iload_n hx hb dX5_ringGain_0 rfl (lv_at hl 2 rfl) ?_
  refine lv_iconst (v := 1) hx hb dX5_ringGain_1 rfl ?_
  refine lv_iand hx hb dX5_ringGain_2 ?_
  refine lv_if_ne (tgt := 10) hx hb dX5_ringGain_3 rfl (fun cq3 => ?_) (fun cq3 => ?_)
  · skip
    refine lv_iconst (v := 0) hx hb dX5_ringGain_10 rfl ?_
    refine lv_istore (lv' := [(5, .int 0), (0, .ref x0), (1, .int x), (2, .int pr), (3, .int xa), (4, .int xb)]) hx hb dX5_ringGain_11 hl (by decide) rfl (fun ls hl => ?_)
    refine lv_iload_n hx hb dX5_ringGain_13 rfl (lv_at hl 3 rfl) ?_
    refine lv_iconst (v := 2) hx hb dX5_ringGain_14 rfl ?_
    refine lv_iand hx hb dX5_ringGain_15 ?_
    refine lv_if_ne (tgt := 23) hx hb dX5_ringGain_16 rfl (fun cq16 => ?_) (fun cq16 => ?_)
    · skip
      refine lv_iconst (v := 0) hx hb dX5_ringGain_23 rfl ?_
      refine lv_istore (lv' := [(6, .int 0), (5, .int 0), (0, .ref x0), (1, .int x), (2, .int pr), (3, .int xa), (4, .int xb)]) hx hb dX5_ringGain_24 hl (by decide) rfl (fun ls hl => ?_)
      refine lv_aload_n hx hb dX5_ringGain_26 rfl (lv_at hl 2 rfl) ?_
      refine b_get E hw fw_X5_10 0 0 rfl rfl rfl dX5_ringGain_27 ?_
      refine b_get E hw fw_X5_60 1 0 rfl rfl rfl dX5_ringGain_30 ?_
      refine b_callV (is := [2]) (wb := [tW G t0 wo mi bi la (nI n) ki se wd hu bt]) (wb' := [tW G t0 wo mi bi la (nI n) ki se wd hu bt]) (As := []) (rest := []) (st1 := [.int (bitr wo la n ki se wd hu bt)]) (bs' := [xO G x0 s0 g0 k0 xt tr sg rf ab bl, oS G s0 t0 p0 n0, tW G t0 wo mi bi la (nI n) ki se wd hu bt]) E (c_X3_biters l G t0 wo mi bi la n ki se wd hu bt (by omega)) vw_X5_150 hw [2] rfl 2 0 rfl rfl rfl rfl rfl rfl (flat1 _) (flat1 _) rfl hl.1 rfl rfl (Nat.le_of_ble_eq_true rfl) ⟨Nat.le_of_ble_eq_true rfl, Nat.le_of_ble_eq_true rfl⟩ (Nat.zero_le _) (Nat.zero_le _) dX5_ringGain_33 rfl rfl (fun H locs hw => ?_)
      refine x_topi (y := bs) (hbs) ?_
      refine lv_istore (lv' := [(7, .int bs), (6, .int 0), (5, .int 0), (0, .ref x0), (1, .int x), (2, .int pr), (3, .int xa), (4, .int xb)]) hx hb dX5_ringGain_36 hl (by decide) rfl (fun ls hl => ?_)
      refine lv_iload hx hb dX5_ringGain_38 (lv_at hl 2 rfl) ?_
      refine lv_if_eq (tgt := 53) hx hb dX5_ringGain_40 rfl (fun cq40 => ?_) (fun cq40 => ?_)
      · skip
        refine lv_iload hx hb dX5_ringGain_53 (lv_at hl 1 rfl) ?_
        refine lv_if_eq (tgt := 69) hx hb dX5_ringGain_55 rfl (fun cq55 => ?_) (fun cq55 => ?_)
        · skip
          refine lv_iload_n hx hb dX5_ringGain_69 rfl (lv_at hl 4 rfl) ?_
          refine lv_iload_n hx hb dX5_ringGain_70 rfl (lv_at hl 6 rfl) ?_
          refine lv_icmp_ne (tgt := 79) hx hb dX5_ringGain_71 rfl (fun cq71 => ?_) (fun cq71 => ?_)
          · skip
            refine lv_iload hx hb dX5_ringGain_79 (lv_at hl 1 rfl) ?_
            refine lv_istore (lv' := [(8, .int 0), (7, .int bs), (6, .int 0), (5, .int 0), (0, .ref x0), (1, .int x), (2, .int pr), (3, .int xa), (4, .int xb)]) hx hb dX5_ringGain_81 hl (by decide) rfl (fun ls hl => ?_)
            refine lv_iload hx hb dX5_ringGain_83 (lv_at hl 0 rfl) ?_
            refine lv_if_eq (tgt := 92) hx hb dX5_ringGain_85 rfl (fun cq85 => ?_) (fun cq85 => ?_)
            · skip
              refine lv_iconst (v := 1) hx hb dX5_ringGain_92 rfl ?_
              refine lv_iconst (v := 2) hx hb dX5_ringGain_93 rfl ?_
              refine lv_aload_n hx hb dX5_ringGain_94 rfl (lv_at hl 4 rfl) ?_
              refine b_get E hw fw_X5_10 0 0 rfl rfl rfl dX5_ringGain_95 ?_
              refine b_get E hw fw_X5_60 1 0 rfl rfl rfl dX5_ringGain_98 ?_
              refine lv_iload_n hx hb dX5_ringGain_101 rfl (lv_at hl 5 rfl) ?_
              refine lv_iload hx hb dX5_ringGain_102 (lv_at hl 1 rfl) ?_
              refine b_callV (is := [2]) (wb := [tW G t0 wo mi bi la (nI n) ki se wd hu bt]) (wb' := [tW G t0 wo mi bi la (nI n) ki se wd hu bt]) (As := [.int x, .int bs]) (rest := [.int 2, .int 1]) (st1 := [.int (tmS se n bs x n), .int 2, .int 1]) (bs' := [xO G x0 s0 g0 k0 xt tr sg rf ab bl, oS G s0 t0 p0 n0, tW G t0 wo mi bi la (nI n) ki se wd hu bt]) E (c_X3_timesBitten l G t0 x bs wo mi bi la n ki se wd hu bt (by omega)) vw_X5_236 hw [2] rfl 2 0 rfl rfl rfl rfl rfl rfl (flat1 _) (flat1 _) rfl hl.1 rfl rfl (Nat.le_of_ble_eq_true rfl) ⟨Nat.le_of_ble_eq_true rfl, Nat.le_of_ble_eq_true rfl⟩ (Nat.zero_le _) (Nat.zero_le _) dX5_ringGain_104 rfl rfl (fun H locs hw => ?_)
              refine lv_imul hx hb dX5_ringGain_107 ?_
              refine lv_isub hx hb dX5_ringGain_108 ?_
              exact x_iret E hA rt hw dX5_ringGain_109 (by simp [rnC, rnS, cq3, cq16, cq71]) rfl
            · skip
              exact absurd (by decide) cq85
          · skip
            refine lv_iload hx hb dX5_ringGain_74 (lv_at hl 2 rfl) ?_
            refine lv_goto (tgt := 81) hx hb dX5_ringGain_76 rfl ?_
            refine lv_istore (lv' := [(8, .int 0), (7, .int bs), (6, .int 0), (5, .int 0), (0, .ref x0), (1, .int x), (2, .int pr), (3, .int xa), (4, .int xb)]) hx hb dX5_ringGain_81 hl (by decide) rfl (fun ls hl => ?_)
            refine lv_iload hx hb dX5_ringGain_83 (lv_at hl 0 rfl) ?_
            refine lv_if_eq (tgt := 92) hx hb dX5_ringGain_85 rfl (fun cq85 => ?_) (fun cq85 => ?_)
            · skip
              refine lv_iconst (v := 1) hx hb dX5_ringGain_92 rfl ?_
              refine lv_iconst (v := 2) hx hb dX5_ringGain_93 rfl ?_
              refine lv_aload_n hx hb dX5_ringGain_94 rfl (lv_at hl 4 rfl) ?_
              refine b_get E hw fw_X5_10 0 0 rfl rfl rfl dX5_ringGain_95 ?_
              refine b_get E hw fw_X5_60 1 0 rfl rfl rfl dX5_ringGain_98 ?_
              refine lv_iload_n hx hb dX5_ringGain_101 rfl (lv_at hl 5 rfl) ?_
              refine lv_iload hx hb dX5_ringGain_102 (lv_at hl 1 rfl) ?_
              refine b_callV (is := [2]) (wb := [tW G t0 wo mi bi la (nI n) ki se wd hu bt]) (wb' := [tW G t0 wo mi bi la (nI n) ki se wd hu bt]) (As := [.int x, .int bs]) (rest := [.int 2, .int 1]) (st1 := [.int (tmS se n bs x n), .int 2, .int 1]) (bs' := [xO G x0 s0 g0 k0 xt tr sg rf ab bl, oS G s0 t0 p0 n0, tW G t0 wo mi bi la (nI n) ki se wd hu bt]) E (c_X3_timesBitten l G t0 x bs wo mi bi la n ki se wd hu bt (by omega)) vw_X5_236 hw [2] rfl 2 0 rfl rfl rfl rfl rfl rfl (flat1 _) (flat1 _) rfl hl.1 rfl rfl (Nat.le_of_ble_eq_true rfl) ⟨Nat.le_of_ble_eq_true rfl, Nat.le_of_ble_eq_true rfl⟩ (Nat.zero_le _) (Nat.zero_le _) dX5_ringGain_104 rfl rfl (fun H locs hw => ?_)
              refine lv_imul hx hb dX5_ringGain_107 ?_
              refine lv_isub hx hb dX5_ringGain_108 ?_
              exact x_iret E hA rt hw dX5_ringGain_109 (by simp [rnC, rnS, cq3, cq16, cq71]) rfl
            · skip
              exact absurd (by decide) cq85
        · skip
          exact absurd (by decide) cq55
      · skip
        exact absurd (by decide) cq40
    · skip
      refine lv_iconst (v := 1) hx hb dX5_ringGain_19 rfl ?_
      refine lv_goto (tgt := 24) hx hb dX5_ringGain_20 rfl ?_
      refine lv_istore (lv' := [(6, .int 1), (5, .int 0), (0, .ref x0), (1, .int x), (2, .int pr), (3, .int xa), (4, .int xb)]) hx hb dX5_ringGain_24 hl (by decide) rfl (fun ls hl => ?_)
      refine lv_aload_n hx hb dX5_ringGain_26 rfl (lv_at hl 2 rfl) ?_
      refine b_get E hw fw_X5_10 0 0 rfl rfl rfl dX5_ringGain_27 ?_
      refine b_get E hw fw_X5_60 1 0 rfl rfl rfl dX5_ringGain_30 ?_
      refine b_callV (is := [2]) (wb := [tW G t0 wo mi bi la (nI n) ki se wd hu bt]) (wb' := [tW G t0 wo mi bi la (nI n) ki se wd hu bt]) (As := []) (rest := []) (st1 := [.int (bitr wo la n ki se wd hu bt)]) (bs' := [xO G x0 s0 g0 k0 xt tr sg rf ab bl, oS G s0 t0 p0 n0, tW G t0 wo mi bi la (nI n) ki se wd hu bt]) E (c_X3_biters l G t0 wo mi bi la n ki se wd hu bt (by omega)) vw_X5_150 hw [2] rfl 2 0 rfl rfl rfl rfl rfl rfl (flat1 _) (flat1 _) rfl hl.1 rfl rfl (Nat.le_of_ble_eq_true rfl) ⟨Nat.le_of_ble_eq_true rfl, Nat.le_of_ble_eq_true rfl⟩ (Nat.zero_le _) (Nat.zero_le _) dX5_ringGain_33 rfl rfl (fun H locs hw => ?_)
      refine x_topi (y := bs) (hbs) ?_
      refine lv_istore (lv' := [(7, .int bs), (6, .int 1), (5, .int 0), (0, .ref x0), (1, .int x), (2, .int pr), (3, .int xa), (4, .int xb)]) hx hb dX5_ringGain_36 hl (by decide) rfl (fun ls hl => ?_)
      refine lv_iload hx hb dX5_ringGain_38 (lv_at hl 2 rfl) ?_
      refine lv_if_eq (tgt := 53) hx hb dX5_ringGain_40 rfl (fun cq40 => ?_) (fun cq40 => ?_)
      · skip
        refine lv_iload hx hb dX5_ringGain_53 (lv_at hl 1 rfl) ?_
        refine lv_if_eq (tgt := 69) hx hb dX5_ringGain_55 rfl (fun cq55 => ?_) (fun cq55 => ?_)
        · skip
          exact absurd cq55 (by decide)
        · skip
          refine lv_iload hx hb dX5_ringGain_58 (lv_at hl 0 rfl) ?_
          refine lv_iconst (v := 1) hx hb dX5_ringGain_60 rfl ?_
          refine lv_iload hx hb dX5_ringGain_61 (lv_at hl 7 rfl) ?_
          refine lv_ishl hx hb dX5_ringGain_63 ?_
          refine lv_iconst (v := -1) hx hb dX5_ringGain_64 rfl ?_
          refine lv_ixor hx hb dX5_ringGain_65 ?_
          refine lv_iand hx hb dX5_ringGain_66 ?_
          refine lv_istore (lv' := [(7, .int (bs &&& (((1 : Int32) <<< (xb &&& 31)) ^^^ (-1)))), (6, .int 1), (5, .int 0), (0, .ref x0), (1, .int x), (2, .int pr), (3, .int xa), (4, .int xb)]) hx hb dX5_ringGain_67 hl (by decide) rfl (fun ls hl => ?_)
          refine lv_iload_n hx hb dX5_ringGain_69 rfl (lv_at hl 4 rfl) ?_
          refine lv_iload_n hx hb dX5_ringGain_70 rfl (lv_at hl 6 rfl) ?_
          refine lv_icmp_ne (tgt := 79) hx hb dX5_ringGain_71 rfl (fun cq71 => ?_) (fun cq71 => ?_)
          · skip
            refine lv_iload hx hb dX5_ringGain_79 (lv_at hl 1 rfl) ?_
            refine lv_istore (lv' := [(8, .int 1), (7, .int (bs &&& (((1 : Int32) <<< (xb &&& 31)) ^^^ (-1)))), (6, .int 1), (5, .int 0), (0, .ref x0), (1, .int x), (2, .int pr), (3, .int xa), (4, .int xb)]) hx hb dX5_ringGain_81 hl (by decide) rfl (fun ls hl => ?_)
            refine lv_iload hx hb dX5_ringGain_83 (lv_at hl 0 rfl) ?_
            refine lv_if_eq (tgt := 92) hx hb dX5_ringGain_85 rfl (fun cq85 => ?_) (fun cq85 => ?_)
            · skip
              exact absurd cq85 (by decide)
            · skip
              refine lv_iconst (v := 0) hx hb dX5_ringGain_88 rfl ?_
              refine lv_goto (tgt := 93) hx hb dX5_ringGain_89 rfl ?_
              refine lv_iconst (v := 2) hx hb dX5_ringGain_93 rfl ?_
              refine lv_aload_n hx hb dX5_ringGain_94 rfl (lv_at hl 4 rfl) ?_
              refine b_get E hw fw_X5_10 0 0 rfl rfl rfl dX5_ringGain_95 ?_
              refine b_get E hw fw_X5_60 1 0 rfl rfl rfl dX5_ringGain_98 ?_
              refine lv_iload_n hx hb dX5_ringGain_101 rfl (lv_at hl 5 rfl) ?_
              refine lv_iload hx hb dX5_ringGain_102 (lv_at hl 1 rfl) ?_
              refine b_callV (is := [2]) (wb := [tW G t0 wo mi bi la (nI n) ki se wd hu bt]) (wb' := [tW G t0 wo mi bi la (nI n) ki se wd hu bt]) (As := [.int x, .int (bs &&& (((1 : Int32) <<< (xb &&& 31)) ^^^ (-1)))]) (rest := [.int 2, .int 0]) (st1 := [.int (tmS se n (bs &&& (((1 : Int32) <<< (xb &&& 31)) ^^^ (-1))) x n), .int 2, .int 0]) (bs' := [xO G x0 s0 g0 k0 xt tr sg rf ab bl, oS G s0 t0 p0 n0, tW G t0 wo mi bi la (nI n) ki se wd hu bt]) E (c_X3_timesBitten l G t0 x (bs &&& (((1 : Int32) <<< (xb &&& 31)) ^^^ (-1))) wo mi bi la n ki se wd hu bt (by omega)) vw_X5_236 hw [2] rfl 2 0 rfl rfl rfl rfl rfl rfl (flat1 _) (flat1 _) rfl hl.1 rfl rfl (Nat.le_of_ble_eq_true rfl) ⟨Nat.le_of_ble_eq_true rfl, Nat.le_of_ble_eq_true rfl⟩ (Nat.zero_le _) (Nat.zero_le _) dX5_ringGain_104 rfl rfl (fun H locs hw => ?_)
              refine lv_imul hx hb dX5_ringGain_107 ?_
              refine lv_isub hx hb dX5_ringGain_108 ?_
              exact x_iret E hA rt hw dX5_ringGain_109 (by simp [rnC, rnS, cq3, cq16, cq71]) rfl
          · skip
            refine lv_iload hx hb dX5_ringGain_74 (lv_at hl 2 rfl) ?_
            refine lv_goto (tgt := 81) hx hb dX5_ringGain_76 rfl ?_
            refine lv_istore (lv' := [(8, .int 0), (7, .int (bs &&& (((1 : Int32) <<< (xb &&& 31)) ^^^ (-1)))), (6, .int 1), (5, .int 0), (0, .ref x0), (1, .int x), (2, .int pr), (3, .int xa), (4, .int xb)]) hx hb dX5_ringGain_81 hl (by decide) rfl (fun ls hl => ?_)
            refine lv_iload hx hb dX5_ringGain_83 (lv_at hl 0 rfl) ?_
            refine lv_if_eq (tgt := 92) hx hb dX5_ringGain_85 rfl (fun cq85 => ?_) (fun cq85 => ?_)
            · skip
              refine lv_iconst (v := 1) hx hb dX5_ringGain_92 rfl ?_
              refine lv_iconst (v := 2) hx hb dX5_ringGain_93 rfl ?_
              refine lv_aload_n hx hb dX5_ringGain_94 rfl (lv_at hl 4 rfl) ?_
              refine b_get E hw fw_X5_10 0 0 rfl rfl rfl dX5_ringGain_95 ?_
              refine b_get E hw fw_X5_60 1 0 rfl rfl rfl dX5_ringGain_98 ?_
              refine lv_iload_n hx hb dX5_ringGain_101 rfl (lv_at hl 5 rfl) ?_
              refine lv_iload hx hb dX5_ringGain_102 (lv_at hl 1 rfl) ?_
              refine b_callV (is := [2]) (wb := [tW G t0 wo mi bi la (nI n) ki se wd hu bt]) (wb' := [tW G t0 wo mi bi la (nI n) ki se wd hu bt]) (As := [.int x, .int (bs &&& (((1 : Int32) <<< (xb &&& 31)) ^^^ (-1)))]) (rest := [.int 2, .int 1]) (st1 := [.int (tmS se n (bs &&& (((1 : Int32) <<< (xb &&& 31)) ^^^ (-1))) x n), .int 2, .int 1]) (bs' := [xO G x0 s0 g0 k0 xt tr sg rf ab bl, oS G s0 t0 p0 n0, tW G t0 wo mi bi la (nI n) ki se wd hu bt]) E (c_X3_timesBitten l G t0 x (bs &&& (((1 : Int32) <<< (xb &&& 31)) ^^^ (-1))) wo mi bi la n ki se wd hu bt (by omega)) vw_X5_236 hw [2] rfl 2 0 rfl rfl rfl rfl rfl rfl (flat1 _) (flat1 _) rfl hl.1 rfl rfl (Nat.le_of_ble_eq_true rfl) ⟨Nat.le_of_ble_eq_true rfl, Nat.le_of_ble_eq_true rfl⟩ (Nat.zero_le _) (Nat.zero_le _) dX5_ringGain_104 rfl rfl (fun H locs hw => ?_)
              refine lv_imul hx hb dX5_ringGain_107 ?_
              refine lv_isub hx hb dX5_ringGain_108 ?_
              exact x_iret E hA rt hw dX5_ringGain_109 (by simp [rnC, rnS, cq3, cq16, cq71]) rfl
            · skip
              exact absurd (by decide) cq85
      · skip
        exact absurd (by decide) cq40
  · skip
    refine lv_iconst (v := 1) hx hb dX5_ringGain_6 rfl ?_
    refine lv_goto (tgt := 11) hx hb dX5_ringGain_7 rfl ?_
    refine lv_istore (lv' := [(5, .int 1), (0, .ref x0), (1, .int x), (2, .int pr), (3, .int xa), (4, .int xb)]) hx hb dX5_ringGain_11 hl (by decide) rfl (fun ls hl => ?_)
    refine lv_iload_n hx hb dX5_ringGain_13 rfl (lv_at hl 3 rfl) ?_
    refine lv_iconst (v := 2) hx hb dX5_ringGain_14 rfl ?_
    refine lv_iand hx hb dX5_ringGain_15 ?_
    refine lv_if_ne (tgt := 23) hx hb dX5_ringGain_16 rfl (fun cq16 => ?_) (fun cq16 => ?_)
    · skip
      refine lv_iconst (v := 0) hx hb dX5_ringGain_23 rfl ?_
      refine lv_istore (lv' := [(6, .int 0), (5, .int 1), (0, .ref x0), (1, .int x), (2, .int pr), (3, .int xa), (4, .int xb)]) hx hb dX5_ringGain_24 hl (by decide) rfl (fun ls hl => ?_)
      refine lv_aload_n hx hb dX5_ringGain_26 rfl (lv_at hl 2 rfl) ?_
      refine b_get E hw fw_X5_10 0 0 rfl rfl rfl dX5_ringGain_27 ?_
      refine b_get E hw fw_X5_60 1 0 rfl rfl rfl dX5_ringGain_30 ?_
      refine b_callV (is := [2]) (wb := [tW G t0 wo mi bi la (nI n) ki se wd hu bt]) (wb' := [tW G t0 wo mi bi la (nI n) ki se wd hu bt]) (As := []) (rest := []) (st1 := [.int (bitr wo la n ki se wd hu bt)]) (bs' := [xO G x0 s0 g0 k0 xt tr sg rf ab bl, oS G s0 t0 p0 n0, tW G t0 wo mi bi la (nI n) ki se wd hu bt]) E (c_X3_biters l G t0 wo mi bi la n ki se wd hu bt (by omega)) vw_X5_150 hw [2] rfl 2 0 rfl rfl rfl rfl rfl rfl (flat1 _) (flat1 _) rfl hl.1 rfl rfl (Nat.le_of_ble_eq_true rfl) ⟨Nat.le_of_ble_eq_true rfl, Nat.le_of_ble_eq_true rfl⟩ (Nat.zero_le _) (Nat.zero_le _) dX5_ringGain_33 rfl rfl (fun H locs hw => ?_)
      refine x_topi (y := bs) (hbs) ?_
      refine lv_istore (lv' := [(7, .int bs), (6, .int 0), (5, .int 1), (0, .ref x0), (1, .int x), (2, .int pr), (3, .int xa), (4, .int xb)]) hx hb dX5_ringGain_36 hl (by decide) rfl (fun ls hl => ?_)
      refine lv_iload hx hb dX5_ringGain_38 (lv_at hl 2 rfl) ?_
      refine lv_if_eq (tgt := 53) hx hb dX5_ringGain_40 rfl (fun cq40 => ?_) (fun cq40 => ?_)
      · skip
        exact absurd cq40 (by decide)
      · skip
        refine lv_iload hx hb dX5_ringGain_43 (lv_at hl 0 rfl) ?_
        refine lv_iconst (v := 1) hx hb dX5_ringGain_45 rfl ?_
        refine lv_iload_n hx hb dX5_ringGain_46 rfl (lv_at hl 6 rfl) ?_
        refine lv_ishl hx hb dX5_ringGain_47 ?_
        refine lv_iconst (v := -1) hx hb dX5_ringGain_48 rfl ?_
        refine lv_ixor hx hb dX5_ringGain_49 ?_
        refine lv_iand hx hb dX5_ringGain_50 ?_
        refine lv_istore (lv' := [(7, .int (bs &&& (((1 : Int32) <<< (xa &&& 31)) ^^^ (-1)))), (6, .int 0), (5, .int 1), (0, .ref x0), (1, .int x), (2, .int pr), (3, .int xa), (4, .int xb)]) hx hb dX5_ringGain_51 hl (by decide) rfl (fun ls hl => ?_)
        refine lv_iload hx hb dX5_ringGain_53 (lv_at hl 1 rfl) ?_
        refine lv_if_eq (tgt := 69) hx hb dX5_ringGain_55 rfl (fun cq55 => ?_) (fun cq55 => ?_)
        · skip
          refine lv_iload_n hx hb dX5_ringGain_69 rfl (lv_at hl 4 rfl) ?_
          refine lv_iload_n hx hb dX5_ringGain_70 rfl (lv_at hl 6 rfl) ?_
          refine lv_icmp_ne (tgt := 79) hx hb dX5_ringGain_71 rfl (fun cq71 => ?_) (fun cq71 => ?_)
          · skip
            refine lv_iload hx hb dX5_ringGain_79 (lv_at hl 1 rfl) ?_
            refine lv_istore (lv' := [(8, .int 0), (7, .int (bs &&& (((1 : Int32) <<< (xa &&& 31)) ^^^ (-1)))), (6, .int 0), (5, .int 1), (0, .ref x0), (1, .int x), (2, .int pr), (3, .int xa), (4, .int xb)]) hx hb dX5_ringGain_81 hl (by decide) rfl (fun ls hl => ?_)
            refine lv_iload hx hb dX5_ringGain_83 (lv_at hl 0 rfl) ?_
            refine lv_if_eq (tgt := 92) hx hb dX5_ringGain_85 rfl (fun cq85 => ?_) (fun cq85 => ?_)
            · skip
              refine lv_iconst (v := 1) hx hb dX5_ringGain_92 rfl ?_
              refine lv_iconst (v := 2) hx hb dX5_ringGain_93 rfl ?_
              refine lv_aload_n hx hb dX5_ringGain_94 rfl (lv_at hl 4 rfl) ?_
              refine b_get E hw fw_X5_10 0 0 rfl rfl rfl dX5_ringGain_95 ?_
              refine b_get E hw fw_X5_60 1 0 rfl rfl rfl dX5_ringGain_98 ?_
              refine lv_iload_n hx hb dX5_ringGain_101 rfl (lv_at hl 5 rfl) ?_
              refine lv_iload hx hb dX5_ringGain_102 (lv_at hl 1 rfl) ?_
              refine b_callV (is := [2]) (wb := [tW G t0 wo mi bi la (nI n) ki se wd hu bt]) (wb' := [tW G t0 wo mi bi la (nI n) ki se wd hu bt]) (As := [.int x, .int (bs &&& (((1 : Int32) <<< (xa &&& 31)) ^^^ (-1)))]) (rest := [.int 2, .int 1]) (st1 := [.int (tmS se n (bs &&& (((1 : Int32) <<< (xa &&& 31)) ^^^ (-1))) x n), .int 2, .int 1]) (bs' := [xO G x0 s0 g0 k0 xt tr sg rf ab bl, oS G s0 t0 p0 n0, tW G t0 wo mi bi la (nI n) ki se wd hu bt]) E (c_X3_timesBitten l G t0 x (bs &&& (((1 : Int32) <<< (xa &&& 31)) ^^^ (-1))) wo mi bi la n ki se wd hu bt (by omega)) vw_X5_236 hw [2] rfl 2 0 rfl rfl rfl rfl rfl rfl (flat1 _) (flat1 _) rfl hl.1 rfl rfl (Nat.le_of_ble_eq_true rfl) ⟨Nat.le_of_ble_eq_true rfl, Nat.le_of_ble_eq_true rfl⟩ (Nat.zero_le _) (Nat.zero_le _) dX5_ringGain_104 rfl rfl (fun H locs hw => ?_)
              refine lv_imul hx hb dX5_ringGain_107 ?_
              refine lv_isub hx hb dX5_ringGain_108 ?_
              exact x_iret E hA rt hw dX5_ringGain_109 (by simp [rnC, rnS, cq3, cq16, cq71]) rfl
            · skip
              exact absurd (by decide) cq85
          · skip
            refine lv_iload hx hb dX5_ringGain_74 (lv_at hl 2 rfl) ?_
            refine lv_goto (tgt := 81) hx hb dX5_ringGain_76 rfl ?_
            refine lv_istore (lv' := [(8, .int 1), (7, .int (bs &&& (((1 : Int32) <<< (xa &&& 31)) ^^^ (-1)))), (6, .int 0), (5, .int 1), (0, .ref x0), (1, .int x), (2, .int pr), (3, .int xa), (4, .int xb)]) hx hb dX5_ringGain_81 hl (by decide) rfl (fun ls hl => ?_)
            refine lv_iload hx hb dX5_ringGain_83 (lv_at hl 0 rfl) ?_
            refine lv_if_eq (tgt := 92) hx hb dX5_ringGain_85 rfl (fun cq85 => ?_) (fun cq85 => ?_)
            · skip
              exact absurd cq85 (by decide)
            · skip
              refine lv_iconst (v := 0) hx hb dX5_ringGain_88 rfl ?_
              refine lv_goto (tgt := 93) hx hb dX5_ringGain_89 rfl ?_
              refine lv_iconst (v := 2) hx hb dX5_ringGain_93 rfl ?_
              refine lv_aload_n hx hb dX5_ringGain_94 rfl (lv_at hl 4 rfl) ?_
              refine b_get E hw fw_X5_10 0 0 rfl rfl rfl dX5_ringGain_95 ?_
              refine b_get E hw fw_X5_60 1 0 rfl rfl rfl dX5_ringGain_98 ?_
              refine lv_iload_n hx hb dX5_ringGain_101 rfl (lv_at hl 5 rfl) ?_
              refine lv_iload hx hb dX5_ringGain_102 (lv_at hl 1 rfl) ?_
              refine b_callV (is := [2]) (wb := [tW G t0 wo mi bi la (nI n) ki se wd hu bt]) (wb' := [tW G t0 wo mi bi la (nI n) ki se wd hu bt]) (As := [.int x, .int (bs &&& (((1 : Int32) <<< (xa &&& 31)) ^^^ (-1)))]) (rest := [.int 2, .int 0]) (st1 := [.int (tmS se n (bs &&& (((1 : Int32) <<< (xa &&& 31)) ^^^ (-1))) x n), .int 2, .int 0]) (bs' := [xO G x0 s0 g0 k0 xt tr sg rf ab bl, oS G s0 t0 p0 n0, tW G t0 wo mi bi la (nI n) ki se wd hu bt]) E (c_X3_timesBitten l G t0 x (bs &&& (((1 : Int32) <<< (xa &&& 31)) ^^^ (-1))) wo mi bi la n ki se wd hu bt (by omega)) vw_X5_236 hw [2] rfl 2 0 rfl rfl rfl rfl rfl rfl (flat1 _) (flat1 _) rfl hl.1 rfl rfl (Nat.le_of_ble_eq_true rfl) ⟨Nat.le_of_ble_eq_true rfl, Nat.le_of_ble_eq_true rfl⟩ (Nat.zero_le _) (Nat.zero_le _) dX5_ringGain_104 rfl rfl (fun H locs hw => ?_)
              refine lv_imul hx hb dX5_ringGain_107 ?_
              refine lv_isub hx hb dX5_ringGain_108 ?_
              exact x_iret E hA rt hw dX5_ringGain_109 (by simp [rnC, rnS, cq3, cq16, cq71]) rfl
        · skip
          exact absurd (by decide) cq55
    · skip
      refine lv_iconst (v := 1) hx hb dX5_ringGain_19 rfl ?_
      refine lv_goto (tgt := 24) hx hb dX5_ringGain_20 rfl ?_
      refine lv_istore (lv' := [(6, .int 1), (5, .int 1), (0, .ref x0), (1, .int x), (2, .int pr), (3, .int xa), (4, .int xb)]) hx hb dX5_ringGain_24 hl (by decide) rfl (fun ls hl => ?_)
      refine lv_aload_n hx hb dX5_ringGain_26 rfl (lv_at hl 2 rfl) ?_
      refine b_get E hw fw_X5_10 0 0 rfl rfl rfl dX5_ringGain_27 ?_
      refine b_get E hw fw_X5_60 1 0 rfl rfl rfl dX5_ringGain_30 ?_
      refine b_callV (is := [2]) (wb := [tW G t0 wo mi bi la (nI n) ki se wd hu bt]) (wb' := [tW G t0 wo mi bi la (nI n) ki se wd hu bt]) (As := []) (rest := []) (st1 := [.int (bitr wo la n ki se wd hu bt)]) (bs' := [xO G x0 s0 g0 k0 xt tr sg rf ab bl, oS G s0 t0 p0 n0, tW G t0 wo mi bi la (nI n) ki se wd hu bt]) E (c_X3_biters l G t0 wo mi bi la n ki se wd hu bt (by omega)) vw_X5_150 hw [2] rfl 2 0 rfl rfl rfl rfl rfl rfl (flat1 _) (flat1 _) rfl hl.1 rfl rfl (Nat.le_of_ble_eq_true rfl) ⟨Nat.le_of_ble_eq_true rfl, Nat.le_of_ble_eq_true rfl⟩ (Nat.zero_le _) (Nat.zero_le _) dX5_ringGain_33 rfl rfl (fun H locs hw => ?_)
      refine x_topi (y := bs) (hbs) ?_
      refine lv_istore (lv' := [(7, .int bs), (6, .int 1), (5, .int 1), (0, .ref x0), (1, .int x), (2, .int pr), (3, .int xa), (4, .int xb)]) hx hb dX5_ringGain_36 hl (by decide) rfl (fun ls hl => ?_)
      refine lv_iload hx hb dX5_ringGain_38 (lv_at hl 2 rfl) ?_
      refine lv_if_eq (tgt := 53) hx hb dX5_ringGain_40 rfl (fun cq40 => ?_) (fun cq40 => ?_)
      · skip
        exact absurd cq40 (by decide)
      · skip
        refine lv_iload hx hb dX5_ringGain_43 (lv_at hl 0 rfl) ?_
        refine lv_iconst (v := 1) hx hb dX5_ringGain_45 rfl ?_
        refine lv_iload_n hx hb dX5_ringGain_46 rfl (lv_at hl 6 rfl) ?_
        refine lv_ishl hx hb dX5_ringGain_47 ?_
        refine lv_iconst (v := -1) hx hb dX5_ringGain_48 rfl ?_
        refine lv_ixor hx hb dX5_ringGain_49 ?_
        refine lv_iand hx hb dX5_ringGain_50 ?_
        refine lv_istore (lv' := [(7, .int (bs &&& (((1 : Int32) <<< (xa &&& 31)) ^^^ (-1)))), (6, .int 1), (5, .int 1), (0, .ref x0), (1, .int x), (2, .int pr), (3, .int xa), (4, .int xb)]) hx hb dX5_ringGain_51 hl (by decide) rfl (fun ls hl => ?_)
        refine lv_iload hx hb dX5_ringGain_53 (lv_at hl 1 rfl) ?_
        refine lv_if_eq (tgt := 69) hx hb dX5_ringGain_55 rfl (fun cq55 => ?_) (fun cq55 => ?_)
        · skip
          exact absurd cq55 (by decide)
        · skip
          refine lv_iload hx hb dX5_ringGain_58 (lv_at hl 0 rfl) ?_
          refine lv_iconst (v := 1) hx hb dX5_ringGain_60 rfl ?_
          refine lv_iload hx hb dX5_ringGain_61 (lv_at hl 7 rfl) ?_
          refine lv_ishl hx hb dX5_ringGain_63 ?_
          refine lv_iconst (v := -1) hx hb dX5_ringGain_64 rfl ?_
          refine lv_ixor hx hb dX5_ringGain_65 ?_
          refine lv_iand hx hb dX5_ringGain_66 ?_
          refine lv_istore (lv' := [(7, .int ((bs &&& (((1 : Int32) <<< (xa &&& 31)) ^^^ (-1))) &&& (((1 : Int32) <<< (xb &&& 31)) ^^^ (-1)))), (6, .int 1), (5, .int 1), (0, .ref x0), (1, .int x), (2, .int pr), (3, .int xa), (4, .int xb)]) hx hb dX5_ringGain_67 hl (by decide) rfl (fun ls hl => ?_)
          refine lv_iload_n hx hb dX5_ringGain_69 rfl (lv_at hl 4 rfl) ?_
          refine lv_iload_n hx hb dX5_ringGain_70 rfl (lv_at hl 6 rfl) ?_
          refine lv_icmp_ne (tgt := 79) hx hb dX5_ringGain_71 rfl (fun cq71 => ?_) (fun cq71 => ?_)
          · skip
            refine lv_iload hx hb dX5_ringGain_79 (lv_at hl 1 rfl) ?_
            refine lv_istore (lv' := [(8, .int 1), (7, .int ((bs &&& (((1 : Int32) <<< (xa &&& 31)) ^^^ (-1))) &&& (((1 : Int32) <<< (xb &&& 31)) ^^^ (-1)))), (6, .int 1), (5, .int 1), (0, .ref x0), (1, .int x), (2, .int pr), (3, .int xa), (4, .int xb)]) hx hb dX5_ringGain_81 hl (by decide) rfl (fun ls hl => ?_)
            refine lv_iload hx hb dX5_ringGain_83 (lv_at hl 0 rfl) ?_
            refine lv_if_eq (tgt := 92) hx hb dX5_ringGain_85 rfl (fun cq85 => ?_) (fun cq85 => ?_)
            · skip
              exact absurd cq85 (by decide)
            · skip
              refine lv_iconst (v := 0) hx hb dX5_ringGain_88 rfl ?_
              refine lv_goto (tgt := 93) hx hb dX5_ringGain_89 rfl ?_
              refine lv_iconst (v := 2) hx hb dX5_ringGain_93 rfl ?_
              refine lv_aload_n hx hb dX5_ringGain_94 rfl (lv_at hl 4 rfl) ?_
              refine b_get E hw fw_X5_10 0 0 rfl rfl rfl dX5_ringGain_95 ?_
              refine b_get E hw fw_X5_60 1 0 rfl rfl rfl dX5_ringGain_98 ?_
              refine lv_iload_n hx hb dX5_ringGain_101 rfl (lv_at hl 5 rfl) ?_
              refine lv_iload hx hb dX5_ringGain_102 (lv_at hl 1 rfl) ?_
              refine b_callV (is := [2]) (wb := [tW G t0 wo mi bi la (nI n) ki se wd hu bt]) (wb' := [tW G t0 wo mi bi la (nI n) ki se wd hu bt]) (As := [.int x, .int ((bs &&& (((1 : Int32) <<< (xa &&& 31)) ^^^ (-1))) &&& (((1 : Int32) <<< (xb &&& 31)) ^^^ (-1)))]) (rest := [.int 2, .int 0]) (st1 := [.int (tmS se n ((bs &&& (((1 : Int32) <<< (xa &&& 31)) ^^^ (-1))) &&& (((1 : Int32) <<< (xb &&& 31)) ^^^ (-1))) x n), .int 2, .int 0]) (bs' := [xO G x0 s0 g0 k0 xt tr sg rf ab bl, oS G s0 t0 p0 n0, tW G t0 wo mi bi la (nI n) ki se wd hu bt]) E (c_X3_timesBitten l G t0 x ((bs &&& (((1 : Int32) <<< (xa &&& 31)) ^^^ (-1))) &&& (((1 : Int32) <<< (xb &&& 31)) ^^^ (-1))) wo mi bi la n ki se wd hu bt (by omega)) vw_X5_236 hw [2] rfl 2 0 rfl rfl rfl rfl rfl rfl (flat1 _) (flat1 _) rfl hl.1 rfl rfl (Nat.le_of_ble_eq_true rfl) ⟨Nat.le_of_ble_eq_true rfl, Nat.le_of_ble_eq_true rfl⟩ (Nat.zero_le _) (Nat.zero_le _) dX5_ringGain_104 rfl rfl (fun H locs hw => ?_)
              refine lv_imul hx hb dX5_ringGain_107 ?_
              refine lv_isub hx hb dX5_ringGain_108 ?_
              exact x_iret E hA rt hw dX5_ringGain_109 (by simp [rnC, rnS, cq3, cq16, cq71]) rfl
          · skip
            refine lv_iload hx hb dX5_ringGain_74 (lv_at hl 2 rfl) ?_
            refine lv_goto (tgt := 81) hx hb dX5_ringGain_76 rfl ?_
            refine lv_istore (lv' := [(8, .int 1), (7, .int ((bs &&& (((1 : Int32) <<< (xa &&& 31)) ^^^ (-1))) &&& (((1 : Int32) <<< (xb &&& 31)) ^^^ (-1)))), (6, .int 1), (5, .int 1), (0, .ref x0), (1, .int x), (2, .int pr), (3, .int xa), (4, .int xb)]) hx hb dX5_ringGain_81 hl (by decide) rfl (fun ls hl => ?_)
            refine lv_iload hx hb dX5_ringGain_83 (lv_at hl 0 rfl) ?_
            refine lv_if_eq (tgt := 92) hx hb dX5_ringGain_85 rfl (fun cq85 => ?_) (fun cq85 => ?_)
            · skip
              exact absurd cq85 (by decide)
            · skip
              refine lv_iconst (v := 0) hx hb dX5_ringGain_88 rfl ?_
              refine lv_goto (tgt := 93) hx hb dX5_ringGain_89 rfl ?_
              refine lv_iconst (v := 2) hx hb dX5_ringGain_93 rfl ?_
              refine lv_aload_n hx hb dX5_ringGain_94 rfl (lv_at hl 4 rfl) ?_
              refine b_get E hw fw_X5_10 0 0 rfl rfl rfl dX5_ringGain_95 ?_
              refine b_get E hw fw_X5_60 1 0 rfl rfl rfl dX5_ringGain_98 ?_
              refine lv_iload_n hx hb dX5_ringGain_101 rfl (lv_at hl 5 rfl) ?_
              refine lv_iload hx hb dX5_ringGain_102 (lv_at hl 1 rfl) ?_
              refine b_callV (is := [2]) (wb := [tW G t0 wo mi bi la (nI n) ki se wd hu bt]) (wb' := [tW G t0 wo mi bi la (nI n) ki se wd hu bt]) (As := [.int x, .int ((bs &&& (((1 : Int32) <<< (xa &&& 31)) ^^^ (-1))) &&& (((1 : Int32) <<< (xb &&& 31)) ^^^ (-1)))]) (rest := [.int 2, .int 0]) (st1 := [.int (tmS se n ((bs &&& (((1 : Int32) <<< (xa &&& 31)) ^^^ (-1))) &&& (((1 : Int32) <<< (xb &&& 31)) ^^^ (-1))) x n), .int 2, .int 0]) (bs' := [xO G x0 s0 g0 k0 xt tr sg rf ab bl, oS G s0 t0 p0 n0, tW G t0 wo mi bi la (nI n) ki se wd hu bt]) E (c_X3_timesBitten l G t0 x ((bs &&& (((1 : Int32) <<< (xa &&& 31)) ^^^ (-1))) &&& (((1 : Int32) <<< (xb &&& 31)) ^^^ (-1))) wo mi bi la n ki se wd hu bt (by omega)) vw_X5_236 hw [2] rfl 2 0 rfl rfl rfl rfl rfl rfl (flat1 _) (flat1 _) rfl hl.1 rfl rfl (Nat.le_of_ble_eq_true rfl) ⟨Nat.le_of_ble_eq_true rfl, Nat.le_of_ble_eq_true rfl⟩ (Nat.zero_le _) (Nat.zero_le _) dX5_ringGain_104 rfl rfl (fun H locs hw => ?_)
              refine lv_imul hx hb dX5_ringGain_107 ?_
              refine lv_isub hx hb dX5_ringGain_108 ?_
              exact x_iret E hA rt hw dX5_ringGain_109 (by simp [rnC, rnS, cq3, cq16, cq71]) rfl
set_option maxHeartbeats 1000000 in
set_option maxRecDepth 100000 in
theorem c_X5_rings_bad (l : Launch) (G : GG) (x0 : Nat) (s0 : Nat) (t0 : Nat → Nat) (p0 : Nat → Nat) (n0 : Nat → Nat) (g0 : Nat) (k0 : Nat) (xt : Nat → Nat) (tr : Nat → Nat) (sg : Nat) (rf : Nat) (x : Int32) (y : Int32) (ab : Int64) (bl : Int64) (wo : Int32) (mi : Int32) (bi : Int32) (la : Int32) (n : Nat) (ki : Nat → Int32) (se : Nat → Int32) (wd : Nat → Int32) (hu : Nat → Int32) (bt : Nat → Int32) (rfd : Nat → Int32) (h0 : inI x 0 (nI n - 1) = false ∨ inI y 0 (nI n - 1) = false ∨ x = y) : CT l G yX5_rings cX5_rings 7 (some .int) 2 44 [.ref x0, .int x, .int y] ([xO G x0 s0 g0 k0 xt tr sg rf ab bl, oS G s0 t0 p0 n0, tW G t0 wo mi bi la (nI n) ki se wd hu bt, aW G rf 3 rfd].flatten) (some (.int (-2))) ([xO G x0 s0 g0 k0 xt tr sg rf ab bl, oS G s0 t0 p0 n0, tW G t0 wo mi bi la (nI n) ki se wd hu bt, aW G rf 3 (upd rfd 0 (rfd 0 + 1))].flatten) := by
  refine CT.mk (own := RX5) (la := [(0, .ref x0), (1, .int x), (2, .int y)]) (by decide) rfl (Nat.le_of_ble_eq_true rfl) rfl ?_
  intro p e s m args below meth c A Q E hA hw rt ls hl
  have hx := E.1
  have hb := E.2.1
  refine lv_aload_n hx hb dX5_rings_0 rfl (lv_at hl 0 rfl) ?_
  refine lv_iload_n hx hb dX5_rings_1 rfl (lv_at hl 1 rfl) ?_
  refine b_callV (is := [0, 1, 2]) (wb := [xO G x0 s0 g0 k0 xt tr sg rf ab bl, oS G s0 t0 p0 n0, tW G t0 wo mi bi la (nI n) ki se wd hu bt]) (wb' := [xO G x0 s0 g0 k0 xt tr sg rf ab bl, oS G s0 t0 p0 n0, tW G t0 wo mi bi la (nI n) ki se wd hu bt]) (As := [.int x]) (rest := []) (st1 := [.int (bI (inI x 0 (nI n - 1)))]) (bs' := [xO G x0 s0 g0 k0 xt tr sg rf ab bl, oS G s0 t0 p0 n0, tW G t0 wo mi bi la (nI n) ki se wd hu bt, aW G rf 3 rfd]) E (c_X5_isChild l G x0 s0 t0 p0 n0 g0 k0 xt tr sg rf x ab bl wo mi bi la n ki se wd hu bt) vw_X5_120 hw [0, 1, 2] rfl 0 0 rfl rfl rfl rfl rfl rfl rfl rfl rfl hl.1 rfl rfl (Nat.le_of_ble_eq_true rfl) ⟨Nat.le_of_ble_eq_true rfl, Nat.le_of_ble_eq_true rfl⟩ (Nat.zero_le _) (Nat.zero_le _) dX5_rings_2 rfl rfl (fun H locs hw => ?_)
  refine lv_if_eq (tgt := 21) hx hb dX5_rings_5 rfl (fun cq5 => ?_) (fun cq5 => ?_)
  · skip
    have cq5 := bI_0.mp cq5
    refine lv_aload_n hx hb dX5_rings_21 rfl (lv_at hl 0 rfl) ?_
    refine lv_bipush (v := -2) hx hb dX5_rings_22 rfl ?_
    refine b_callV (is := [0, 3]) (wb := [xO G x0 s0 g0 k0 xt tr sg rf ab bl, aW G rf 3 rfd]) (wb' := [xO G x0 s0 g0 k0 xt tr sg rf ab bl, aW G rf 3 (upd rfd 0 (rfd 0 + 1))]) (As := [.int (-2)]) (rest := []) (st1 := [.int (-2)]) (bs' := [xO G x0 s0 g0 k0 xt tr sg rf ab bl, oS G s0 t0 p0 n0, tW G t0 wo mi bi la (nI n) ki se wd hu bt, aW G rf 3 (upd rfd 0 (rfd 0 + 1))]) E (c_X5_refuse l G x0 s0 g0 k0 xt tr sg rf (-2) ab bl rfd 0 (by omega) (by decide)) vw_X5_56 hw [0, 3] rfl 0 0 rfl rfl rfl rfl rfl rfl rfl rfl rfl hl.1 rfl rfl (Nat.le_of_ble_eq_true rfl) ⟨Nat.le_of_ble_eq_true rfl, Nat.le_of_ble_eq_true rfl⟩ (Nat.zero_le _) (Nat.zero_le _) dX5_rings_24 rfl rfl (fun H locs hw => ?_)
    exact x_iret E hA rt hw dX5_rings_27 (rfl) rfl
  · skip
    have cq5 := bI_n0.mp cq5
    refine lv_aload_n hx hb dX5_rings_8 rfl (lv_at hl 0 rfl) ?_
    refine lv_iload_n hx hb dX5_rings_9 rfl (lv_at hl 2 rfl) ?_
    refine b_callV (is := [0, 1, 2]) (wb := [xO G x0 s0 g0 k0 xt tr sg rf ab bl, oS G s0 t0 p0 n0, tW G t0 wo mi bi la (nI n) ki se wd hu bt]) (wb' := [xO G x0 s0 g0 k0 xt tr sg rf ab bl, oS G s0 t0 p0 n0, tW G t0 wo mi bi la (nI n) ki se wd hu bt]) (As := [.int y]) (rest := []) (st1 := [.int (bI (inI y 0 (nI n - 1)))]) (bs' := [xO G x0 s0 g0 k0 xt tr sg rf ab bl, oS G s0 t0 p0 n0, tW G t0 wo mi bi la (nI n) ki se wd hu bt, aW G rf 3 rfd]) E (c_X5_isChild l G x0 s0 t0 p0 n0 g0 k0 xt tr sg rf y ab bl wo mi bi la n ki se wd hu bt) vw_X5_120 hw [0, 1, 2] rfl 0 0 rfl rfl rfl rfl rfl rfl rfl rfl rfl hl.1 rfl rfl (Nat.le_of_ble_eq_true rfl) ⟨Nat.le_of_ble_eq_true rfl, Nat.le_of_ble_eq_true rfl⟩ (Nat.zero_le _) (Nat.zero_le _) dX5_rings_10 rfl rfl (fun H locs hw => ?_)
    refine lv_if_eq (tgt := 21) hx hb dX5_rings_13 rfl (fun cq13 => ?_) (fun cq13 => ?_)
    · skip
      have cq13 := bI_0.mp cq13
      refine lv_aload_n hx hb dX5_rings_21 rfl (lv_at hl 0 rfl) ?_
      refine lv_bipush (v := -2) hx hb dX5_rings_22 rfl ?_
      refine b_callV (is := [0, 3]) (wb := [xO G x0 s0 g0 k0 xt tr sg rf ab bl, aW G rf 3 rfd]) (wb' := [xO G x0 s0 g0 k0 xt tr sg rf ab bl, aW G rf 3 (upd rfd 0 (rfd 0 + 1))]) (As := [.int (-2)]) (rest := []) (st1 := [.int (-2)]) (bs' := [xO G x0 s0 g0 k0 xt tr sg rf ab bl, oS G s0 t0 p0 n0, tW G t0 wo mi bi la (nI n) ki se wd hu bt, aW G rf 3 (upd rfd 0 (rfd 0 + 1))]) E (c_X5_refuse l G x0 s0 g0 k0 xt tr sg rf (-2) ab bl rfd 0 (by omega) (by decide)) vw_X5_56 hw [0, 3] rfl 0 0 rfl rfl rfl rfl rfl rfl rfl rfl rfl hl.1 rfl rfl (Nat.le_of_ble_eq_true rfl) ⟨Nat.le_of_ble_eq_true rfl, Nat.le_of_ble_eq_true rfl⟩ (Nat.zero_le _) (Nat.zero_le _) dX5_rings_24 rfl rfl (fun H locs hw => ?_)
      exact x_iret E hA rt hw dX5_rings_27 (rfl) rfl
    · skip
      have cq13 := bI_n0.mp cq13
      refine lv_iload_n hx hb dX5_rings_16 rfl (lv_at hl 1 rfl) ?_
      refine lv_iload_n hx hb dX5_rings_17 rfl (lv_at hl 2 rfl) ?_
      refine lv_icmp_ne (tgt := 28) hx hb dX5_rings_18 rfl (fun cq18 => ?_) (fun cq18 => ?_)
      · skip
        exact h0.elim (fun h9 => absurd cq5 (by rw [h9]; decide)) (fun h9 => h9.elim (fun h9 => absurd cq13 (by rw [h9]; decide)) (fun h9 => (cq18 h9).elim))
      · skip
        refine lv_aload_n hx hb dX5_rings_21 rfl (lv_at hl 0 rfl) ?_
        refine lv_bipush (v := -2) hx hb dX5_rings_22 rfl ?_
        refine b_callV (is := [0, 3]) (wb := [xO G x0 s0 g0 k0 xt tr sg rf ab bl, aW G rf 3 rfd]) (wb' := [xO G x0 s0 g0 k0 xt tr sg rf ab bl, aW G rf 3 (upd rfd 0 (rfd 0 + 1))]) (As := [.int (-2)]) (rest := []) (st1 := [.int (-2)]) (bs' := [xO G x0 s0 g0 k0 xt tr sg rf ab bl, oS G s0 t0 p0 n0, tW G t0 wo mi bi la (nI n) ki se wd hu bt, aW G rf 3 (upd rfd 0 (rfd 0 + 1))]) E (c_X5_refuse l G x0 s0 g0 k0 xt tr sg rf (-2) ab bl rfd 0 (by omega) (by decide)) vw_X5_56 hw [0, 3] rfl 0 0 rfl rfl rfl rfl rfl rfl rfl rfl rfl hl.1 rfl rfl (Nat.le_of_ble_eq_true rfl) ⟨Nat.le_of_ble_eq_true rfl, Nat.le_of_ble_eq_true rfl⟩ (Nat.zero_le _) (Nat.zero_le _) dX5_rings_24 rfl rfl (fun H locs hw => ?_)
        exact x_iret E hA rt hw dX5_rings_27 (rfl) rfl
set_option maxHeartbeats 1000000 in
set_option maxRecDepth 100000 in
theorem c_X5_rings_ok (l : Launch) (G : GG) (x0 : Nat) (s0 : Nat) (t0 : Nat → Nat) (p0 : Nat → Nat) (n0 : Nat → Nat) (g0 : Nat) (k0 : Nat) (xt : Nat → Nat) (tr : Nat → Nat) (sg : Nat) (rf : Nat) (x : Int32) (y : Int32) (ab : Int64) (bl : Int64) (wo : Int32) (mi : Int32) (bi : Int32) (la : Int32) (n : Nat) (ki : Nat → Int32) (se : Nat → Int32) (wd : Nat → Int32) (hu : Nat → Int32) (bt : Nat → Int32) (bs : Int32) (hn : n ≤ 6) (hbs : bitr wo la n ki se wd hu bt = bs) (h1 : inI x 0 (nI n - 1) = true) (h2 : inI y 0 (nI n - 1) = true) (h3 : ¬ x = y) : CT l G yX5_rings cX5_rings 7 (some .int) 5 115 [.ref x0, .int x, .int y] ([xO G x0 s0 g0 k0 xt tr sg rf ab bl, oS G s0 t0 p0 n0, tW G t0 wo mi bi la (nI n) ki se wd hu bt].flatten) (some (.int (btS (rgB bs se n x y) 4))) ([xO G x0 s0 g0 k0 xt tr sg rf ab bl, oS G s0 t0 p0 n0, tW G t0 wo mi bi la (nI n) ki se wd hu bt].flatten) := by
  refine CT.mk (own := RX5) (la := [(0, .ref x0), (1, .int x), (2, .int y)]) (by decide) rfl (Nat.le_of_ble_eq_true rfl) rfl ?_
  intro p e s m args below meth c A Q E hA hw rt ls hl
  have hx := E.1
  have hb := E.2.1
  refine lv_aload_n hx hb dX5_rings_0 rfl (lv_at hl 0 rfl) ?_
  refine lv_iload_n hx hb dX5_rings_1 rfl (lv_at hl 1 rfl) ?_
  refine b_callV (is := [0, 1, 2]) (wb := [xO G x0 s0 g0 k0 xt tr sg rf ab bl, oS G s0 t0 p0 n0, tW G t0 wo mi bi la (nI n) ki se wd hu bt]) (wb' := [xO G x0 s0 g0 k0 xt tr sg rf ab bl, oS G s0 t0 p0 n0, tW G t0 wo mi bi la (nI n) ki se wd hu bt]) (As := [.int x]) (rest := []) (st1 := [.int (bI (inI x 0 (nI n - 1)))]) (bs' := [xO G x0 s0 g0 k0 xt tr sg rf ab bl, oS G s0 t0 p0 n0, tW G t0 wo mi bi la (nI n) ki se wd hu bt]) E (c_X5_isChild l G x0 s0 t0 p0 n0 g0 k0 xt tr sg rf x ab bl wo mi bi la n ki se wd hu bt) vw_X5_120 hw [0, 1, 2] rfl 0 0 rfl rfl rfl rfl rfl rfl rfl rfl rfl hl.1 rfl rfl (Nat.le_of_ble_eq_true rfl) ⟨Nat.le_of_ble_eq_true rfl, Nat.le_of_ble_eq_true rfl⟩ (Nat.zero_le _) (Nat.zero_le _) dX5_rings_2 rfl rfl (fun H locs hw => ?_)
  refine lv_if_eq (tgt := 21) hx hb dX5_rings_5 rfl (fun cq5 => ?_) (fun cq5 => ?_)
  · skip
    have cq5 := bI_0.mp cq5
    exact absurd cq5 (by rw [h1]; decide)
  · skip
    have cq5 := bI_n0.mp cq5
    refine lv_aload_n hx hb dX5_rings_8 rfl (lv_at hl 0 rfl) ?_
    refine lv_iload_n hx hb dX5_rings_9 rfl (lv_at hl 2 rfl) ?_
    refine b_callV (is := [0, 1, 2]) (wb := [xO G x0 s0 g0 k0 xt tr sg rf ab bl, oS G s0 t0 p0 n0, tW G t0 wo mi bi la (nI n) ki se wd hu bt]) (wb' := [xO G x0 s0 g0 k0 xt tr sg rf ab bl, oS G s0 t0 p0 n0, tW G t0 wo mi bi la (nI n) ki se wd hu bt]) (As := [.int y]) (rest := []) (st1 := [.int (bI (inI y 0 (nI n - 1)))]) (bs' := [xO G x0 s0 g0 k0 xt tr sg rf ab bl, oS G s0 t0 p0 n0, tW G t0 wo mi bi la (nI n) ki se wd hu bt]) E (c_X5_isChild l G x0 s0 t0 p0 n0 g0 k0 xt tr sg rf y ab bl wo mi bi la n ki se wd hu bt) vw_X5_120 hw [0, 1, 2] rfl 0 0 rfl rfl rfl rfl rfl rfl rfl rfl rfl hl.1 rfl rfl (Nat.le_of_ble_eq_true rfl) ⟨Nat.le_of_ble_eq_true rfl, Nat.le_of_ble_eq_true rfl⟩ (Nat.zero_le _) (Nat.zero_le _) dX5_rings_10 rfl rfl (fun H locs hw => ?_)
    refine lv_if_eq (tgt := 21) hx hb dX5_rings_13 rfl (fun cq13 => ?_) (fun cq13 => ?_)
    · skip
      have cq13 := bI_0.mp cq13
      exact absurd cq13 (by rw [h2]; decide)
    · skip
      have cq13 := bI_n0.mp cq13
      refine lv_iload_n hx hb dX5_rings_16 rfl (lv_at hl 1 rfl) ?_
      refine lv_iload_n hx hb dX5_rings_17 rfl (lv_at hl 2 rfl) ?_
      refine lv_icmp_ne (tgt := 28) hx hb dX5_rings_18 rfl (fun cq18 => ?_) (fun cq18 => ?_)
      · skip
        refine lv_iconst (v := 0) hx hb dX5_rings_28 rfl ?_
        refine lv_istore_n (lv' := [(3, .int 0), (0, .ref x0), (1, .int x), (2, .int y)]) hx hb dX5_rings_29 rfl hl (by decide) rfl (fun ls hl => ?_)
        refine lv_iconst (v := 0) hx hb dX5_rings_30 rfl ?_
        refine lv_istore (lv' := [(4, .int 0), (3, .int 0), (0, .ref x0), (1, .int x), (2, .int y)]) hx hb dX5_rings_31 hl (by decide) rfl (fun ls hl => ?_)
        have lp33 : ∀ (fuel : Nat), ∀ (q : Nat) (acc : Int32) (hq : q ≤ 4) (hiv : acc = btS (rgB bs se n x y) q), (4 - q) < fuel → ∀ (H : Heap) (locs : List Loc) (ls : Array Slot), Bd G A s H locs ([xO G x0 s0 g0 k0 xt tr sg rf ab bl, oS G s0 t0 p0 n0, tW G t0 wo mi bi la (nI n) ki se wd hu bt]) → lv_has ls 7 [(0, .ref x0), (1, .int x), (2, .int y), (3, .int acc), (4, .int (nI q))] → W p l e (rmx 5 115) s m args below meth c H locs 0 0 Q (F0 m 33 ls []) := by
          intro fuel
          induction fuel with
          | zero => intro q acc hq hiv hfu; exact absurd hfu (Nat.not_lt_zero _)
          | succ fuel ih33 =>
            intro q acc hq hiv hfu H locs ls hw hl
            refine lv_iload hx hb dX5_rings_33 (lv_at hl 4 rfl) ?_
            refine lv_iconst (v := 4) hx hb dX5_rings_35 rfl ?_
            refine lv_icmp_ge (tgt := 122) hx hb dX5_rings_36 rfl (fun cq36 => ?_) (fun cq36 => ?_)
            · skip
              have cq36 : 4 ≤ q := (cv_le (a := 4) (b := q) rfl rfl (by omega) (by omega)).mp cq36
              refine lv_iload_n hx hb dX5_rings_122 rfl (lv_at hl 3 rfl) ?_
              exact x_iret E hA rt hw dX5_rings_123 (by rw [hiv, show q = 4 by omega]) rfl
            · skip
              have cq36 : ¬ 4 ≤ q := fun h => cq36 ((cv_le (a := 4) (b := q) rfl rfl (by omega) (by omega)).mpr h)
              refine lv_aload_n hx hb dX5_rings_39 rfl (lv_at hl 0 rfl) ?_
              refine lv_iload_n hx hb dX5_rings_40 rfl (lv_at hl 1 rfl) ?_
              refine lv_iload hx hb dX5_rings_41 (lv_at hl 4 rfl) ?_
              refine lv_iload_n hx hb dX5_rings_43 rfl (lv_at hl 1 rfl) ?_
              refine lv_iload_n hx hb dX5_rings_44 rfl (lv_at hl 2 rfl) ?_
              refine b_callV (is := [0, 1, 2]) (wb := [xO G x0 s0 g0 k0 xt tr sg rf ab bl, oS G s0 t0 p0 n0, tW G t0 wo mi bi la (nI n) ki se wd hu bt]) (wb' := [xO G x0 s0 g0 k0 xt tr sg rf ab bl, oS G s0 t0 p0 n0, tW G t0 wo mi bi la (nI n) ki se wd hu bt]) (As := [.int x, .int (nI q), .int x, .int y]) (rest := []) (st1 := [.int (rnC bs se n x (nI q) x y)]) (bs' := [xO G x0 s0 g0 k0 xt tr sg rf ab bl, oS G s0 t0 p0 n0, tW G t0 wo mi bi la (nI n) ki se wd hu bt]) E (c_X5_ringGain l G x0 s0 t0 p0 n0 g0 k0 xt tr sg rf x (nI q) x y ab bl wo mi bi la n ki se wd hu bt bs (by omega) (hbs)) vw_X5_197 hw [0, 1, 2] rfl 0 0 rfl rfl rfl rfl rfl rfl rfl rfl rfl hl.1 rfl rfl (Nat.le_of_ble_eq_true rfl) ⟨Nat.le_of_ble_eq_true rfl, Nat.le_of_ble_eq_true rfl⟩ (Nat.zero_le _) (Nat.zero_le _) dX5_rings_45 rfl rfl (fun H locs hw => ?_)
              refine lv_aload_n hx hb dX5_rings_48 rfl (lv_at hl 0 rfl) ?_
              refine lv_iload_n hx hb dX5_rings_49 rfl (lv_at hl 1 rfl) ?_
              refine lv_iload hx hb dX5_rings_50 (lv_at hl 4 rfl) ?_
              refine lv_iconst (v := 1) hx hb dX5_rings_52 rfl ?_
              refine lv_ixor hx hb dX5_rings_53 ?_
              refine lv_iload_n hx hb dX5_rings_54 rfl (lv_at hl 1 rfl) ?_
              refine lv_iload_n hx hb dX5_rings_55 rfl (lv_at hl 2 rfl) ?_
              refine b_callV (is := [0, 1, 2]) (wb := [xO G x0 s0 g0 k0 xt tr sg rf ab bl, oS G s0 t0 p0 n0, tW G t0 wo mi bi la (nI n) ki se wd hu bt]) (wb' := [xO G x0 s0 g0 k0 xt tr sg rf ab bl, oS G s0 t0 p0 n0, tW G t0 wo mi bi la (nI n) ki se wd hu bt]) (As := [.int x, .int ((nI q) ^^^ 1), .int x, .int y]) (rest := [.int (rnC bs se n x (nI q) x y)]) (st1 := [.int (rnC bs se n x ((nI q) ^^^ 1) x y), .int (rnC bs se n x (nI q) x y)]) (bs' := [xO G x0 s0 g0 k0 xt tr sg rf ab bl, oS G s0 t0 p0 n0, tW G t0 wo mi bi la (nI n) ki se wd hu bt]) E (c_X5_ringGain l G x0 s0 t0 p0 n0 g0 k0 xt tr sg rf x ((nI q) ^^^ 1) x y ab bl wo mi bi la n ki se wd hu bt bs (by omega) (hbs)) vw_X5_197 hw [0, 1, 2] rfl 0 0 rfl rfl rfl rfl rfl rfl rfl rfl rfl hl.1 rfl rfl (Nat.le_of_ble_eq_true rfl) ⟨Nat.le_of_ble_eq_true rfl, Nat.le_of_ble_eq_true rfl⟩ (Nat.zero_le _) (Nat.zero_le _) dX5_rings_56 rfl rfl (fun H locs hw => ?_)
              refine lv_icmp_lt (tgt := 66) hx hb dX5_rings_59 rfl (fun cq59 => ?_) (fun cq59 => ?_)
              · skip
                refine lv_iconst (v := 0) hx hb dX5_rings_66 rfl ?_
                refine lv_istore (lv' := [(5, .int 0), (0, .ref x0), (1, .int x), (2, .int y), (3, .int acc), (4, .int (nI q))]) hx hb dX5_rings_67 hl (by decide) rfl (fun ls hl => ?_)
                refine lv_aload_n hx hb dX5_rings_69 rfl (lv_at hl 1 rfl) ?_
                refine lv_iload_n hx hb dX5_rings_70 rfl (lv_at hl 3 rfl) ?_
                refine lv_iload hx hb dX5_rings_71 (lv_at hl 5 rfl) ?_
                refine lv_iload_n hx hb dX5_rings_73 rfl (lv_at hl 2 rfl) ?_
                refine lv_iload_n hx hb dX5_rings_74 rfl (lv_at hl 3 rfl) ?_
                refine b_callV (is := [0, 1, 2]) (wb := [xO G x0 s0 g0 k0 xt tr sg rf ab bl, oS G s0 t0 p0 n0, tW G t0 wo mi bi la (nI n) ki se wd hu bt]) (wb' := [xO G x0 s0 g0 k0 xt tr sg rf ab bl, oS G s0 t0 p0 n0, tW G t0 wo mi bi la (nI n) ki se wd hu bt]) (As := [.int y, .int (nI q), .int x, .int y]) (rest := []) (st1 := [.int (rnC bs se n y (nI q) x y)]) (bs' := [xO G x0 s0 g0 k0 xt tr sg rf ab bl, oS G s0 t0 p0 n0, tW G t0 wo mi bi la (nI n) ki se wd hu bt]) E (c_X5_ringGain l G x0 s0 t0 p0 n0 g0 k0 xt tr sg rf y (nI q) x y ab bl wo mi bi la n ki se wd hu bt bs (by omega) (hbs)) vw_X5_197 hw [0, 1, 2] rfl 0 0 rfl rfl rfl rfl rfl rfl rfl rfl rfl hl.1 rfl rfl (Nat.le_of_ble_eq_true rfl) ⟨Nat.le_of_ble_eq_true rfl, Nat.le_of_ble_eq_true rfl⟩ (Nat.zero_le _) (Nat.zero_le _) dX5_rings_75 rfl rfl (fun H locs hw => ?_)
                refine lv_aload_n hx hb dX5_rings_78 rfl (lv_at hl 1 rfl) ?_
                refine lv_iload_n hx hb dX5_rings_79 rfl (lv_at hl 3 rfl) ?_
                refine lv_iload hx hb dX5_rings_80 (lv_at hl 5 rfl) ?_
                refine lv_iconst (v := 2) hx hb dX5_rings_82 rfl ?_
                refine lv_ixor hx hb dX5_rings_83 ?_
                refine lv_iload_n hx hb dX5_rings_84 rfl (lv_at hl 2 rfl) ?_
                refine lv_iload_n hx hb dX5_rings_85 rfl (lv_at hl 3 rfl) ?_
                refine b_callV (is := [0, 1, 2]) (wb := [xO G x0 s0 g0 k0 xt tr sg rf ab bl, oS G s0 t0 p0 n0, tW G t0 wo mi bi la (nI n) ki se wd hu bt]) (wb' := [xO G x0 s0 g0 k0 xt tr sg rf ab bl, oS G s0 t0 p0 n0, tW G t0 wo mi bi la (nI n) ki se wd hu bt]) (As := [.int y, .int ((nI q) ^^^ 2), .int x, .int y]) (rest := [.int (rnC bs se n y (nI q) x y)]) (st1 := [.int (rnC bs se n y ((nI q) ^^^ 2) x y), .int (rnC bs se n y (nI q) x y)]) (bs' := [xO G x0 s0 g0 k0 xt tr sg rf ab bl, oS G s0 t0 p0 n0, tW G t0 wo mi bi la (nI n) ki se wd hu bt]) E (c_X5_ringGain l G x0 s0 t0 p0 n0 g0 k0 xt tr sg rf y ((nI q) ^^^ 2) x y ab bl wo mi bi la n ki se wd hu bt bs (by omega) (hbs)) vw_X5_197 hw [0, 1, 2] rfl 0 0 rfl rfl rfl rfl rfl rfl rfl rfl rfl hl.1 rfl rfl (Nat.le_of_ble_eq_true rfl) ⟨Nat.le_of_ble_eq_true rfl, Nat.le_of_ble_eq_true rfl⟩ (Nat.zero_le _) (Nat.zero_le _) dX5_rings_86 rfl rfl (fun H locs hw => ?_)
                refine lv_icmp_lt (tgt := 96) hx hb dX5_rings_89 rfl (fun cq89 => ?_) (fun cq89 => ?_)
                · skip
                  refine lv_iconst (v := 0) hx hb dX5_rings_96 rfl ?_
                  refine lv_istore (lv' := [(6, .int 0), (5, .int 0), (0, .ref x0), (1, .int x), (2, .int y), (3, .int acc), (4, .int (nI q))]) hx hb dX5_rings_97 hl (by decide) rfl (fun ls hl => ?_)
                  refine lv_iload hx hb dX5_rings_99 (lv_at hl 1 rfl) ?_
                  refine lv_if_eq (tgt := 116) hx hb dX5_rings_101 rfl (fun cq101 => ?_) (fun cq101 => ?_)
                  · skip
                    refine lv_iinc (v := nI (q + 1)) (lv' := [(4, .int (nI (q + 1))), (6, .int 0), (5, .int 0), (0, .ref x0), (1, .int x), (2, .int y), (3, .int acc)]) hx hb dX5_rings_116 hl (k := 6) rfl (nI_add _ 1) (by decide) rfl (fun ls hl => ?_)
                    refine lv_goto (tgt := 33) hx hb dX5_rings_119 rfl ?_
                    exact ih33 (q + 1) acc (by omega) (by rw [hiv, btS, show rgB bs se n x y q = false from by rw [rgB, decide_eq_false (Int32.not_le.mpr cq59), decide_eq_false (Int32.not_le.mpr cq89)]; rfl]; rfl) (by omega) _ _ _ hw (lv_sub hl [3, 4, 5, 6, 0] rfl)
                  · skip
                    exact absurd (by decide) cq101
                · skip
                  refine lv_iconst (v := 1) hx hb dX5_rings_92 rfl ?_
                  refine lv_goto (tgt := 97) hx hb dX5_rings_93 rfl ?_
                  refine lv_istore (lv' := [(6, .int 1), (5, .int 0), (0, .ref x0), (1, .int x), (2, .int y), (3, .int acc), (4, .int (nI q))]) hx hb dX5_rings_97 hl (by decide) rfl (fun ls hl => ?_)
                  refine lv_iload hx hb dX5_rings_99 (lv_at hl 1 rfl) ?_
                  refine lv_if_eq (tgt := 116) hx hb dX5_rings_101 rfl (fun cq101 => ?_) (fun cq101 => ?_)
                  · skip
                    refine lv_iinc (v := nI (q + 1)) (lv' := [(4, .int (nI (q + 1))), (6, .int 1), (5, .int 0), (0, .ref x0), (1, .int x), (2, .int y), (3, .int acc)]) hx hb dX5_rings_116 hl (k := 6) rfl (nI_add _ 1) (by decide) rfl (fun ls hl => ?_)
                    refine lv_goto (tgt := 33) hx hb dX5_rings_119 rfl ?_
                    exact ih33 (q + 1) acc (by omega) (by rw [hiv, btS, show rgB bs se n x y q = false from by rw [rgB, decide_eq_false (Int32.not_le.mpr cq59), decide_eq_true (Int32.not_lt.mp cq89)]; rfl]; rfl) (by omega) _ _ _ hw (lv_sub hl [3, 4, 5, 6, 0] rfl)
                  · skip
                    exact absurd (by decide) cq101
              · skip
                refine lv_iconst (v := 1) hx hb dX5_rings_62 rfl ?_
                refine lv_goto (tgt := 67) hx hb dX5_rings_63 rfl ?_
                refine lv_istore (lv' := [(5, .int 1), (0, .ref x0), (1, .int x), (2, .int y), (3, .int acc), (4, .int (nI q))]) hx hb dX5_rings_67 hl (by decide) rfl (fun ls hl => ?_)
                refine lv_aload_n hx hb dX5_rings_69 rfl (lv_at hl 1 rfl) ?_
                refine lv_iload_n hx hb dX5_rings_70 rfl (lv_at hl 3 rfl) ?_
                refine lv_iload hx hb dX5_rings_71 (lv_at hl 5 rfl) ?_
                refine lv_iload_n hx hb dX5_rings_73 rfl (lv_at hl 2 rfl) ?_
                refine lv_iload_n hx hb dX5_rings_74 rfl (lv_at hl 3 rfl) ?_
                refine b_callV (is := [0, 1, 2]) (wb := [xO G x0 s0 g0 k0 xt tr sg rf ab bl, oS G s0 t0 p0 n0, tW G t0 wo mi bi la (nI n) ki se wd hu bt]) (wb' := [xO G x0 s0 g0 k0 xt tr sg rf ab bl, oS G s0 t0 p0 n0, tW G t0 wo mi bi la (nI n) ki se wd hu bt]) (As := [.int y, .int (nI q), .int x, .int y]) (rest := []) (st1 := [.int (rnC bs se n y (nI q) x y)]) (bs' := [xO G x0 s0 g0 k0 xt tr sg rf ab bl, oS G s0 t0 p0 n0, tW G t0 wo mi bi la (nI n) ki se wd hu bt]) E (c_X5_ringGain l G x0 s0 t0 p0 n0 g0 k0 xt tr sg rf y (nI q) x y ab bl wo mi bi la n ki se wd hu bt bs (by omega) (hbs)) vw_X5_197 hw [0, 1, 2] rfl 0 0 rfl rfl rfl rfl rfl rfl rfl rfl rfl hl.1 rfl rfl (Nat.le_of_ble_eq_true rfl) ⟨Nat.le_of_ble_eq_true rfl, Nat.le_of_ble_eq_true rfl⟩ (Nat.zero_le _) (Nat.zero_le _) dX5_rings_75 rfl rfl (fun H locs hw => ?_)
                refine lv_aload_n hx hb dX5_rings_78 rfl (lv_at hl 1 rfl) ?_
                refine lv_iload_n hx hb dX5_rings_79 rfl (lv_at hl 3 rfl) ?_
                refine lv_iload hx hb dX5_rings_80 (lv_at hl 5 rfl) ?_
                refine lv_iconst (v := 2) hx hb dX5_rings_82 rfl ?_
                refine lv_ixor hx hb dX5_rings_83 ?_
                refine lv_iload_n hx hb dX5_rings_84 rfl (lv_at hl 2 rfl) ?_
                refine lv_iload_n hx hb dX5_rings_85 rfl (lv_at hl 3 rfl) ?_
                refine b_callV (is := [0, 1, 2]) (wb := [xO G x0 s0 g0 k0 xt tr sg rf ab bl, oS G s0 t0 p0 n0, tW G t0 wo mi bi la (nI n) ki se wd hu bt]) (wb' := [xO G x0 s0 g0 k0 xt tr sg rf ab bl, oS G s0 t0 p0 n0, tW G t0 wo mi bi la (nI n) ki se wd hu bt]) (As := [.int y, .int ((nI q) ^^^ 2), .int x, .int y]) (rest := [.int (rnC bs se n y (nI q) x y)]) (st1 := [.int (rnC bs se n y ((nI q) ^^^ 2) x y), .int (rnC bs se n y (nI q) x y)]) (bs' := [xO G x0 s0 g0 k0 xt tr sg rf ab bl, oS G s0 t0 p0 n0, tW G t0 wo mi bi la (nI n) ki se wd hu bt]) E (c_X5_ringGain l G x0 s0 t0 p0 n0 g0 k0 xt tr sg rf y ((nI q) ^^^ 2) x y ab bl wo mi bi la n ki se wd hu bt bs (by omega) (hbs)) vw_X5_197 hw [0, 1, 2] rfl 0 0 rfl rfl rfl rfl rfl rfl rfl rfl rfl hl.1 rfl rfl (Nat.le_of_ble_eq_true rfl) ⟨Nat.le_of_ble_eq_true rfl, Nat.le_of_ble_eq_true rfl⟩ (Nat.zero_le _) (Nat.zero_le _) dX5_rings_86 rfl rfl (fun H locs hw => ?_)
                refine lv_icmp_lt (tgt := 96) hx hb dX5_rings_89 rfl (fun cq89 => ?_) (fun cq89 => ?_)
                · skip
                  refine lv_iconst (v := 0) hx hb dX5_rings_96 rfl ?_
                  refine lv_istore (lv' := [(6, .int 0), (5, .int 1), (0, .ref x0), (1, .int x), (2, .int y), (3, .int acc), (4, .int (nI q))]) hx hb dX5_rings_97 hl (by decide) rfl (fun ls hl => ?_)
                  refine lv_iload hx hb dX5_rings_99 (lv_at hl 1 rfl) ?_
                  refine lv_if_eq (tgt := 116) hx hb dX5_rings_101 rfl (fun cq101 => ?_) (fun cq101 => ?_)
                  · skip
                    exact absurd cq101 (by decide)
                  · skip
                    refine lv_iload hx hb dX5_rings_104 (lv_at hl 0 rfl) ?_
                    refine lv_if_eq (tgt := 116) hx hb dX5_rings_106 rfl (fun cq106 => ?_) (fun cq106 => ?_)
                    · skip
                      refine lv_iinc (v := nI (q + 1)) (lv' := [(4, .int (nI (q + 1))), (6, .int 0), (5, .int 1), (0, .ref x0), (1, .int x), (2, .int y), (3, .int acc)]) hx hb dX5_rings_116 hl (k := 6) rfl (nI_add _ 1) (by decide) rfl (fun ls hl => ?_)
                      refine lv_goto (tgt := 33) hx hb dX5_rings_119 rfl ?_
                      exact ih33 (q + 1) acc (by omega) (by rw [hiv, btS, show rgB bs se n x y q = false from by rw [rgB, decide_eq_true (Int32.not_lt.mp cq59), decide_eq_false (Int32.not_le.mpr cq89)]; rfl]; rfl) (by omega) _ _ _ hw (lv_sub hl [3, 4, 5, 6, 0] rfl)
                    · skip
                      exact absurd (by decide) cq106
                · skip
                  refine lv_iconst (v := 1) hx hb dX5_rings_92 rfl ?_
                  refine lv_goto (tgt := 97) hx hb dX5_rings_93 rfl ?_
                  refine lv_istore (lv' := [(6, .int 1), (5, .int 1), (0, .ref x0), (1, .int x), (2, .int y), (3, .int acc), (4, .int (nI q))]) hx hb dX5_rings_97 hl (by decide) rfl (fun ls hl => ?_)
                  refine lv_iload hx hb dX5_rings_99 (lv_at hl 1 rfl) ?_
                  refine lv_if_eq (tgt := 116) hx hb dX5_rings_101 rfl (fun cq101 => ?_) (fun cq101 => ?_)
                  · skip
                    exact absurd cq101 (by decide)
                  · skip
                    refine lv_iload hx hb dX5_rings_104 (lv_at hl 0 rfl) ?_
                    refine lv_if_eq (tgt := 116) hx hb dX5_rings_106 rfl (fun cq106 => ?_) (fun cq106 => ?_)
                    · skip
                      exact absurd cq106 (by decide)
                    · skip
                      refine lv_iload_n hx hb dX5_rings_109 rfl (lv_at hl 5 rfl) ?_
                      refine lv_iconst (v := 1) hx hb dX5_rings_110 rfl ?_
                      refine lv_iload hx hb dX5_rings_111 (lv_at hl 6 rfl) ?_
                      refine lv_ishl hx hb dX5_rings_113 ?_
                      refine lv_ior hx hb dX5_rings_114 ?_
                      refine lv_istore_n (lv' := [(3, .int (acc ||| ((1 : Int32) <<< ((nI q) &&& 31)))), (6, .int 1), (5, .int 1), (0, .ref x0), (1, .int x), (2, .int y), (4, .int (nI q))]) hx hb dX5_rings_115 rfl hl (by decide) rfl (fun ls hl => ?_)
                      refine lv_iinc (v := nI (q + 1)) (lv' := [(4, .int (nI (q + 1))), (3, .int (acc ||| ((1 : Int32) <<< ((nI q) &&& 31)))), (6, .int 1), (5, .int 1), (0, .ref x0), (1, .int x), (2, .int y)]) hx hb dX5_rings_116 hl (k := 6) rfl (nI_add _ 1) (by decide) rfl (fun ls hl => ?_)
                      refine lv_goto (tgt := 33) hx hb dX5_rings_119 rfl ?_
                      exact ih33 (q + 1) (acc ||| ((1 : Int32) <<< ((nI q) &&& 31))) (by omega) (by rw [hiv, btS, show rgB bs se n x y q = true from by rw [rgB, decide_eq_true (Int32.not_lt.mp cq59), decide_eq_true (Int32.not_lt.mp cq89)]; rfl]; rfl) (by omega) _ _ _ hw (lv_sub hl [4, 5, 6, 1, 0] rfl)
        exact lp33 (4 - 0 + 1) 0 0 (by omega) (rfl) (by omega) _ _ _ hw (lv_sub hl [2, 3, 4, 1, 0] rfl)
      · skip
        exact (h3 cq18).elim
set_option maxHeartbeats 1000000 in
set_option maxRecDepth 100000 in
theorem c_X5_eyes_bad (l : Launch) (G : GG) (x0 : Nat) (s0 : Nat) (g0 : Nat) (k0 : Nat) (xt : Nat → Nat) (tr : Nat → Nat) (sg : Nat) (rf : Nat) (x : Int32) (ab : Int64) (bl : Int64) (rfd : Nat → Int32) (h1 : inI x 0 10 = false) : CT l G yX5_eyes cX5_eyes 4 (some .int) 2 44 [.ref x0, .int x] ([xO G x0 s0 g0 k0 xt tr sg rf ab bl, aW G rf 3 rfd].flatten) (some (.int (-2))) ([xO G x0 s0 g0 k0 xt tr sg rf ab bl, aW G rf 3 (upd rfd 0 (rfd 0 + 1))].flatten) := by
  refine CT.mk (own := RX5) (la := [(0, .ref x0), (1, .int x)]) (by decide) rfl (Nat.le_of_ble_eq_true rfl) rfl ?_
  intro p e s m args below meth c A Q E hA hw rt ls hl
  have hx := E.1
  have hb := E.2.1
  refine lv_iload_n hx hb dX5_eyes_0 rfl (lv_at hl 1 rfl) ?_
  refine lv_iconst (v := 0) hx hb dX5_eyes_1 rfl ?_
  refine lv_bipush (v := 10) hx hb dX5_eyes_2 rfl ?_
  refine b_callS (is := []) (wb := []) (wb' := []) (As := [.int x, .int 0, .int 10]) (rest := []) (st1 := [.int (bI (inI x 0 10))]) (bs' := [xO G x0 s0 g0 k0 xt tr sg rf ab bl, aW G rf 3 rfd]) E (c_X5_within l G x 0 10) sw_X5_75 hw [] rfl rfl rfl rfl rfl rfl hl.1 rfl rfl (Nat.le_of_ble_eq_true rfl) ⟨Nat.le_of_ble_eq_true rfl, Nat.le_of_ble_eq_true rfl⟩ (Nat.zero_le _) (Nat.zero_le _) dX5_eyes_4 rfl rfl (fun H locs hw => ?_)
  refine lv_if_ne (tgt := 17) hx hb dX5_eyes_7 rfl (fun cq7 => ?_) (fun cq7 => ?_)
  · skip
    have cq7 := bI_n0.mp cq7
    exact absurd cq7 (by rw [h1]; decide)
  · skip
    have cq7 := bI_0.mp cq7
    refine lv_aload_n hx hb dX5_eyes_10 rfl (lv_at hl 0 rfl) ?_
    refine lv_bipush (v := -2) hx hb dX5_eyes_11 rfl ?_
    refine b_callV (is := [0, 1]) (wb := [xO G x0 s0 g0 k0 xt tr sg rf ab bl, aW G rf 3 rfd]) (wb' := [xO G x0 s0 g0 k0 xt tr sg rf ab bl, aW G rf 3 (upd rfd 0 (rfd 0 + 1))]) (As := [.int (-2)]) (rest := []) (st1 := [.int (-2)]) (bs' := [xO G x0 s0 g0 k0 xt tr sg rf ab bl, aW G rf 3 (upd rfd 0 (rfd 0 + 1))]) E (c_X5_refuse l G x0 s0 g0 k0 xt tr sg rf (-2) ab bl rfd 0 (by omega) (by decide)) vw_X5_56 hw [0, 1] rfl 0 0 rfl rfl rfl rfl rfl rfl rfl rfl rfl hl.1 rfl rfl (Nat.le_of_ble_eq_true rfl) ⟨Nat.le_of_ble_eq_true rfl, Nat.le_of_ble_eq_true rfl⟩ (Nat.zero_le _) (Nat.zero_le _) dX5_eyes_13 rfl rfl (fun H locs hw => ?_)
    exact x_iret E hA rt hw dX5_eyes_16 (rfl) rfl
set_option maxHeartbeats 1000000 in
set_option maxRecDepth 100000 in
theorem c_X5_eyes_ok (l : Launch) (G : GG) (x0 : Nat) (s0 : Nat) (t0 : Nat → Nat) (p0 : Nat → Nat) (n0 : Nat → Nat) (g0 : Nat) (k0 : Nat) (xt : Nat → Nat) (tr : Nat → Nat) (sg : Nat) (rf : Nat) (x : Int32) (ab : Int64) (bl : Int64) (wo : Int32) (mi : Int32) (bi : Int32) (la : Int32) (n : Nat) (ki : Nat → Int32) (se : Nat → Int32) (wd : Nat → Int32) (hu : Nat → Int32) (bt : Nat → Int32) (tt : Int32) (q0 : Nat) (hn : n ≤ 6) (h1 : inI x 0 10 = true) (htt : bcI (bitr wo la n ki se wd hu bt) * (10 - x) = tt) (hq0 : eyC tt 10 = q0) : CT l G yX5_eyes cX5_eyes 4 (some .int) 4 87 [.ref x0, .int x] ([xO G x0 s0 g0 k0 xt tr sg rf ab bl, oS G s0 t0 p0 n0, tW G t0 wo mi bi la (nI n) ki se wd hu bt].flatten) (some (.int 1)) ([xO G x0 s0 g0 k0 xt tr sg rf ((tt / nI q0).toInt64) (((10 : Int32) / nI q0).toInt64), oS G s0 t0 p0 n0, tW G t0 wo mi bi la (nI n) ki se wd hu bt].flatten) := by
  refine CT.mk (own := RX5) (la := [(0, .ref x0), (1, .int x)]) (by decide) rfl (Nat.le_of_ble_eq_true rfl) rfl ?_
  intro p e s m args below meth c A Q E hA hw rt ls hl
  have hx := E.1
  have hb := E.2.1
  refine lv_iload_n hx hb dX5_eyes_0 rfl (lv_at hl 1 rfl) ?_
  refine lv_iconst (v := 0) hx hb dX5_eyes_1 rfl ?_
  refine lv_bipush (v := 10) hx hb dX5_eyes_2 rfl ?_
  refine b_callS (is := []) (wb := []) (wb' := []) (As := [.int x, .int 0, .int 10]) (rest := []) (st1 := [.int (bI (inI x 0 10))]) (bs' := [xO G x0 s0 g0 k0 xt tr sg rf ab bl, oS G s0 t0 p0 n0, tW G t0 wo mi bi la (nI n) ki se wd hu bt]) E (c_X5_within l G x 0 10) sw_X5_75 hw [] rfl rfl rfl rfl rfl rfl hl.1 rfl rfl (Nat.le_of_ble_eq_true rfl) ⟨Nat.le_of_ble_eq_true rfl, Nat.le_of_ble_eq_true rfl⟩ (Nat.zero_le _) (Nat.zero_le _) dX5_eyes_4 rfl rfl (fun H locs hw => ?_)
  refine lv_if_ne (tgt := 17) hx hb dX5_eyes_7 rfl (fun cq7 => ?_) (fun cq7 => ?_)
  · skip
    have cq7 := bI_n0.mp cq7
    refine lv_aload_n hx hb dX5_eyes_17 rfl (lv_at hl 0 rfl) ?_
    refine b_get E hw fw_X5_10 0 0 rfl rfl rfl dX5_eyes_18 ?_
    refine b_get E hw fw_X5_60 1 0 rfl rfl rfl dX5_eyes_21 ?_
    refine b_callV (is := [2]) (wb := [tW G t0 wo mi bi la (nI n) ki se wd hu bt]) (wb' := [tW G t0 wo mi bi la (nI n) ki se wd hu bt]) (As := []) (rest := []) (st1 := [.int (bitr wo la n ki se wd hu bt)]) (bs' := [xO G x0 s0 g0 k0 xt tr sg rf ab bl, oS G s0 t0 p0 n0, tW G t0 wo mi bi la (nI n) ki se wd hu bt]) E (c_X3_biters l G t0 wo mi bi la n ki se wd hu bt (by omega)) vw_X5_150 hw [2] rfl 2 0 rfl rfl rfl rfl rfl rfl (flat1 _) (flat1 _) rfl hl.1 rfl rfl (Nat.le_of_ble_eq_true rfl) ⟨Nat.le_of_ble_eq_true rfl, Nat.le_of_ble_eq_true rfl⟩ (Nat.zero_le _) (Nat.zero_le _) dX5_eyes_24 rfl rfl (fun H locs hw => ?_)
    refine b_callS (is := []) (wb := []) (wb' := []) (As := [.int (bitr wo la n ki se wd hu bt)]) (rest := []) (st1 := [.int (bcI (bitr wo la n ki se wd hu bt))]) (bs' := [xO G x0 s0 g0 k0 xt tr sg rf ab bl, oS G s0 t0 p0 n0, tW G t0 wo mi bi la (nI n) ki se wd hu bt]) E (c_bitCount l G (bitr wo la n ki se wd hu bt)) sw_X5_200 hw [] rfl rfl rfl rfl rfl rfl hl.1 rfl rfl (Nat.le_of_ble_eq_true rfl) ⟨Nat.le_of_ble_eq_true rfl, Nat.le_of_ble_eq_true rfl⟩ (Nat.zero_le _) (Nat.zero_le _) dX5_eyes_27 rfl rfl (fun H locs hw => ?_)
    refine lv_bipush (v := 10) hx hb dX5_eyes_30 rfl ?_
    refine lv_iload_n hx hb dX5_eyes_32 rfl (lv_at hl 1 rfl) ?_
    refine lv_isub hx hb dX5_eyes_33 ?_
    refine lv_imul hx hb dX5_eyes_34 ?_
    refine x_topi (y := tt) (htt) ?_
    refine lv_istore_n (lv' := [(2, .int tt), (0, .ref x0), (1, .int x)]) hx hb dX5_eyes_35 rfl hl (by decide) rfl (fun ls hl => ?_)
    refine lv_bipush (v := 10) hx hb dX5_eyes_36 rfl ?_
    refine lv_istore_n (lv' := [(3, .int 10), (2, .int tt), (0, .ref x0), (1, .int x)]) hx hb dX5_eyes_38 rfl hl (by decide) rfl (fun ls hl => ?_)
    have lp39 : ∀ (fuel : Nat), ∀ (q : Nat) (hq1 : 1 ≤ q) (hq2 : q ≤ 10) (hiv : eyC tt q = q0), q < fuel → ∀ (H : Heap) (locs : List Loc) (ls : Array Slot), Bd G A s H locs ([xO G x0 s0 g0 k0 xt tr sg rf ab bl, oS G s0 t0 p0 n0, tW G t0 wo mi bi la (nI n) ki se wd hu bt]) → lv_has ls 4 [(0, .ref x0), (1, .int x), (2, .int tt), (3, .int (nI q))] → W p l e (rmx 4 87) s m args below meth c H locs 0 0 Q (F0 m 39 ls []) := by
      intro fuel
      induction fuel with
      | zero => intro q hq1 hq2 hiv hfu; exact absurd hfu (Nat.not_lt_zero _)
      | succ fuel ih39 =>
        intro q hq1 hq2 hiv hfu H locs ls hw hl
        refine lv_iload_n hx hb dX5_eyes_39 rfl (lv_at hl 3 rfl) ?_
        refine lv_iconst (v := 1) hx hb dX5_eyes_40 rfl ?_
        refine lv_icmp_le (tgt := 63) hx hb dX5_eyes_41 rfl (fun cq41 => ?_) (fun cq41 => ?_)
        · skip
          have cq41 : q ≤ 1 := (cv_le (a := q) (b := 1) rfl rfl (by omega) (by omega)).mp cq41
          have e9 : q = q0 := by rw [← hiv, eyC_eq hq1, if_neg (fun h9 => by omega)]
          refine lv_aload_n hx hb dX5_eyes_63 rfl (lv_at hl 0 rfl) ?_
          refine lv_iload_n hx hb dX5_eyes_64 rfl (lv_at hl 2 rfl) ?_
          refine lv_iload_n hx hb dX5_eyes_65 rfl (lv_at hl 3 rfl) ?_
          refine lv_idiv hx hb dX5_eyes_66 (nI_nez hq1 (by omega)) ?_
          refine lv_i2l (v := (tt / (nI q)).toInt64) hx hb dX5_eyes_67 rfl ?_
          refine b_put (bs' := [xO G x0 s0 g0 k0 xt tr sg rf ((tt / (nI q)).toInt64) bl, oS G s0 t0 p0 n0, tW G t0 wo mi bi la (nI n) ki se wd hu bt]) (ty := .long) E hw fw_X5_45 0 0 rfl rfl rfl rfl (by decide +kernel) rfl rfl (Nat.le_of_ble_eq_true rfl) dX5_eyes_68 rfl (fun H locs hw => ?_)
          refine lv_aload_n hx hb dX5_eyes_71 rfl (lv_at hl 0 rfl) ?_
          refine lv_bipush (v := 10) hx hb dX5_eyes_72 rfl ?_
          refine lv_iload_n hx hb dX5_eyes_74 rfl (lv_at hl 3 rfl) ?_
          refine lv_idiv hx hb dX5_eyes_75 (nI_nez hq1 (by omega)) ?_
          refine lv_i2l (v := (10 / (nI q)).toInt64) hx hb dX5_eyes_76 rfl ?_
          refine b_put (bs' := [xO G x0 s0 g0 k0 xt tr sg rf ((tt / (nI q)).toInt64) ((10 / (nI q)).toInt64), oS G s0 t0 p0 n0, tW G t0 wo mi bi la (nI n) ki se wd hu bt]) (ty := .long) E hw fw_X5_49 0 0 rfl rfl rfl rfl (by decide +kernel) rfl rfl (Nat.le_of_ble_eq_true rfl) dX5_eyes_77 rfl (fun H locs hw => ?_)
          refine lv_iconst (v := 1) hx hb dX5_eyes_80 rfl ?_
          exact x_iret E hA rt hw dX5_eyes_81 (rfl) (by rw [← e9])
        · skip
          have cq41 : ¬ q ≤ 1 := fun h => cq41 ((cv_le (a := q) (b := 1) rfl rfl (by omega) (by omega)).mpr h)
          refine lv_iload_n hx hb dX5_eyes_44 rfl (lv_at hl 2 rfl) ?_
          refine lv_iload_n hx hb dX5_eyes_45 rfl (lv_at hl 3 rfl) ?_
          refine lv_irem hx hb dX5_eyes_46 (nI_nez hq1 (by omega)) ?_
          refine lv_if_ne (tgt := 57) hx hb dX5_eyes_47 rfl (fun cq47 => ?_) (fun cq47 => ?_)
          · skip
            refine lv_iinc (v := nI (q - 1)) (lv' := [(3, .int (nI (q - 1))), (0, .ref x0), (1, .int x), (2, .int tt)]) hx hb dX5_eyes_57 hl (k := 3) rfl (nI_dec hq1) (by decide) rfl (fun ls hl => ?_)
            refine lv_goto (tgt := 39) hx hb dX5_eyes_60 rfl ?_
            exact ih39 (q - 1) (by omega) (by omega) (by rw [← hiv, eyC_eq (q := q) hq1, if_pos ⟨by omega, Or.inl cq47⟩]) (by omega) _ _ _ hw (lv_sub hl [1, 2, 3, 0] rfl)
          · skip
            refine lv_bipush (v := 10) hx hb dX5_eyes_50 rfl ?_
            refine lv_iload_n hx hb dX5_eyes_52 rfl (lv_at hl 3 rfl) ?_
            refine lv_irem hx hb dX5_eyes_53 (nI_nez hq1 (by omega)) ?_
            refine lv_if_eq (tgt := 63) hx hb dX5_eyes_54 rfl (fun cq54 => ?_) (fun cq54 => ?_)
            · skip
              have e9 : q = q0 := by rw [← hiv, eyC_eq hq1, if_neg (fun h9 => h9.2.elim (fun h8 => h8 cq47) (fun h8 => h8 cq54))]
              refine lv_aload_n hx hb dX5_eyes_63 rfl (lv_at hl 0 rfl) ?_
              refine lv_iload_n hx hb dX5_eyes_64 rfl (lv_at hl 2 rfl) ?_
              refine lv_iload_n hx hb dX5_eyes_65 rfl (lv_at hl 3 rfl) ?_
              refine lv_idiv hx hb dX5_eyes_66 (nI_nez hq1 (by omega)) ?_
              refine lv_i2l (v := (tt / (nI q)).toInt64) hx hb dX5_eyes_67 rfl ?_
              refine b_put (bs' := [xO G x0 s0 g0 k0 xt tr sg rf ((tt / (nI q)).toInt64) bl, oS G s0 t0 p0 n0, tW G t0 wo mi bi la (nI n) ki se wd hu bt]) (ty := .long) E hw fw_X5_45 0 0 rfl rfl rfl rfl (by decide +kernel) rfl rfl (Nat.le_of_ble_eq_true rfl) dX5_eyes_68 rfl (fun H locs hw => ?_)
              refine lv_aload_n hx hb dX5_eyes_71 rfl (lv_at hl 0 rfl) ?_
              refine lv_bipush (v := 10) hx hb dX5_eyes_72 rfl ?_
              refine lv_iload_n hx hb dX5_eyes_74 rfl (lv_at hl 3 rfl) ?_
              refine lv_idiv hx hb dX5_eyes_75 (nI_nez hq1 (by omega)) ?_
              refine lv_i2l (v := (10 / (nI q)).toInt64) hx hb dX5_eyes_76 rfl ?_
              refine b_put (bs' := [xO G x0 s0 g0 k0 xt tr sg rf ((tt / (nI q)).toInt64) ((10 / (nI q)).toInt64), oS G s0 t0 p0 n0, tW G t0 wo mi bi la (nI n) ki se wd hu bt]) (ty := .long) E hw fw_X5_49 0 0 rfl rfl rfl rfl (by decide +kernel) rfl rfl (Nat.le_of_ble_eq_true rfl) dX5_eyes_77 rfl (fun H locs hw => ?_)
              refine lv_iconst (v := 1) hx hb dX5_eyes_80 rfl ?_
              exact x_iret E hA rt hw dX5_eyes_81 (rfl) (by rw [← e9])
            · skip
              refine lv_iinc (v := nI (q - 1)) (lv' := [(3, .int (nI (q - 1))), (0, .ref x0), (1, .int x), (2, .int tt)]) hx hb dX5_eyes_57 hl (k := 3) rfl (nI_dec hq1) (by decide) rfl (fun ls hl => ?_)
              refine lv_goto (tgt := 39) hx hb dX5_eyes_60 rfl ?_
              exact ih39 (q - 1) (by omega) (by omega) (by rw [← hiv, eyC_eq (q := q) hq1, if_pos ⟨by omega, Or.inr cq54⟩]) (by omega) _ _ _ hw (lv_sub hl [1, 2, 3, 0] rfl)
    exact lp39 (10 + 1) 10 (by omega) (by omega) (hq0) (by omega) _ _ _ hw (lv_sub hl [2, 3, 1, 0] rfl)
  · skip
    have cq7 := bI_0.mp cq7
    exact absurd cq7 (by rw [h1]; decide)
set_option maxHeartbeats 1000000 in
set_option maxRecDepth 100000 in
theorem c_X5_part_bad (l : Launch) (G : GG) (x0 : Nat) (s0 : Nat) (g0 : Nat) (k0 : Nat) (xt : Nat → Nat) (tr : Nat → Nat) (sg : Nat) (rf : Nat) (x : Int32) (ab : Int64) (bl : Int64) (rfd : Nat → Int32) (h1 : inI x 0 1 = false) : CT l G yX5_part cX5_part 2 (some .long) 2 44 [.ref x0, .int x] ([xO G x0 s0 g0 k0 xt tr sg rf ab bl, aW G rf 3 rfd].flatten) (some (.long ((-2 : Int32).toInt64))) ([xO G x0 s0 g0 k0 xt tr sg rf ab bl, aW G rf 3 (upd rfd 0 (rfd 0 + 1))].flatten) := by
  refine CT.mk (own := RX5) (la := [(0, .ref x0), (1, .int x)]) (by decide) rfl (Nat.le_of_ble_eq_true rfl) rfl ?_
  intro p e s m args below meth c A Q E hA hw rt ls hl
  have hx := E.1
  have hb := E.2.1
  refine lv_iload_n hx hb dX5_part_0 rfl (lv_at hl 1 rfl) ?_
  refine lv_iconst (v := 0) hx hb dX5_part_1 rfl ?_
  refine lv_iconst (v := 1) hx hb dX5_part_2 rfl ?_
  refine b_callS (is := []) (wb := []) (wb' := []) (As := [.int x, .int 0, .int 1]) (rest := []) (st1 := [.int (bI (inI x 0 1))]) (bs' := [xO G x0 s0 g0 k0 xt tr sg rf ab bl, aW G rf 3 rfd]) E (c_X5_within l G x 0 1) sw_X5_75 hw [] rfl rfl rfl rfl rfl rfl hl.1 rfl rfl (Nat.le_of_ble_eq_true rfl) ⟨Nat.le_of_ble_eq_true rfl, Nat.le_of_ble_eq_true rfl⟩ (Nat.zero_le _) (Nat.zero_le _) dX5_part_3 rfl rfl (fun H locs hw => ?_)
  refine lv_if_ne (tgt := 17) hx hb dX5_part_6 rfl (fun cq6 => ?_) (fun cq6 => ?_)
  · skip
    have cq6 := bI_n0.mp cq6
    exact absurd cq6 (by rw [h1]; decide)
  · skip
    have cq6 := bI_0.mp cq6
    refine lv_aload_n hx hb dX5_part_9 rfl (lv_at hl 0 rfl) ?_
    refine lv_bipush (v := -2) hx hb dX5_part_10 rfl ?_
    refine b_callV (is := [0, 1]) (wb := [xO G x0 s0 g0 k0 xt tr sg rf ab bl, aW G rf 3 rfd]) (wb' := [xO G x0 s0 g0 k0 xt tr sg rf ab bl, aW G rf 3 (upd rfd 0 (rfd 0 + 1))]) (As := [.int (-2)]) (rest := []) (st1 := [.int (-2)]) (bs' := [xO G x0 s0 g0 k0 xt tr sg rf ab bl, aW G rf 3 (upd rfd 0 (rfd 0 + 1))]) E (c_X5_refuse l G x0 s0 g0 k0 xt tr sg rf (-2) ab bl rfd 0 (by omega) (by decide)) vw_X5_56 hw [0, 1] rfl 0 0 rfl rfl rfl rfl rfl rfl rfl rfl rfl hl.1 rfl rfl (Nat.le_of_ble_eq_true rfl) ⟨Nat.le_of_ble_eq_true rfl, Nat.le_of_ble_eq_true rfl⟩ (Nat.zero_le _) (Nat.zero_le _) dX5_part_12 rfl rfl (fun H locs hw => ?_)
    refine lv_i2l (v := (-2 : Int32).toInt64) hx hb dX5_part_15 rfl ?_
    exact x_lret E hA rt hw dX5_part_16 (rfl) rfl
set_option maxHeartbeats 1000000 in
set_option maxRecDepth 100000 in
theorem c_X5_part_ok (l : Launch) (G : GG) (x0 : Nat) (s0 : Nat) (g0 : Nat) (k0 : Nat) (xt : Nat → Nat) (tr : Nat → Nat) (sg : Nat) (rf : Nat) (x : Int32) (ab : Int64) (bl : Int64) (h1 : inI x 0 1 = true) : CT l G yX5_part cX5_part 2 (some .long) 1 22 [.ref x0, .int x] ([xO G x0 s0 g0 k0 xt tr sg rf ab bl].flatten) (some (.long (if x = 0 then ab else bl))) ([xO G x0 s0 g0 k0 xt tr sg rf ab bl].flatten) := by
  refine CT.mk (own := RX5) (la := [(0, .ref x0), (1, .int x)]) (by decide) rfl (Nat.le_of_ble_eq_true rfl) rfl ?_
  intro p e s m args below meth c A Q E hA hw rt ls hl
  have hx := E.1
  have hb := E.2.1
  refine lv_iload_n hx hb dX5_part_0 rfl (lv_at hl 1 rfl) ?_
  refine lv_iconst (v := 0) hx hb dX5_part_1 rfl ?_
  refine lv_iconst (v := 1) hx hb dX5_part_2 rfl ?_
  refine b_callS (is := []) (wb := []) (wb' := []) (As := [.int x, .int 0, .int 1]) (rest := []) (st1 := [.int (bI (inI x 0 1))]) (bs' := [xO G x0 s0 g0 k0 xt tr sg rf ab bl]) E (c_X5_within l G x 0 1) sw_X5_75 hw [] rfl rfl rfl rfl rfl rfl hl.1 rfl rfl (Nat.le_of_ble_eq_true rfl) ⟨Nat.le_of_ble_eq_true rfl, Nat.le_of_ble_eq_true rfl⟩ (Nat.zero_le _) (Nat.zero_le _) dX5_part_3 rfl rfl (fun H locs hw => ?_)
  refine lv_if_ne (tgt := 17) hx hb dX5_part_6 rfl (fun cq6 => ?_) (fun cq6 => ?_)
  · skip
    have cq6 := bI_n0.mp cq6
    refine lv_iload_n hx hb dX5_part_17 rfl (lv_at hl 1 rfl) ?_
    refine lv_if_ne (tgt := 28) hx hb dX5_part_18 rfl (fun cq18 => ?_) (fun cq18 => ?_)
    · skip
      refine lv_aload_n hx hb dX5_part_28 rfl (lv_at hl 0 rfl) ?_
      refine b_get E hw fw_X5_49 0 0 rfl rfl rfl dX5_part_29 ?_
      exact x_lret E hA rt hw dX5_part_32 (by rw [if_neg cq18]) rfl
    · skip
      refine lv_aload_n hx hb dX5_part_21 rfl (lv_at hl 0 rfl) ?_
      refine b_get E hw fw_X5_45 0 0 rfl rfl rfl dX5_part_22 ?_
      refine lv_goto (tgt := 32) hx hb dX5_part_25 rfl ?_
      exact x_lret E hA rt hw dX5_part_32 (by rw [if_pos cq18]) rfl
  · skip
    have cq6 := bI_0.mp cq6
    exact absurd cq6 (by rw [h1]; decide)
set_option maxHeartbeats 1000000 in
set_option maxRecDepth 100000 in
theorem c_X5_status_bad (l : Launch) (G : GG) (x0 : Nat) (s0 : Nat) (g0 : Nat) (k0 : Nat) (xt : Nat → Nat) (tr : Nat → Nat) (sg : Nat) (rf : Nat) (x : Int32) (ab : Int64) (bl : Int64) (rfd : Nat → Int32) (h1 : inI x 0 2 = false) : CT l G yX5_status cX5_status 2 (some .int) 2 44 [.ref x0, .int x] ([xO G x0 s0 g0 k0 xt tr sg rf ab bl, aW G rf 3 rfd].flatten) (some (.int (-1))) ([xO G x0 s0 g0 k0 xt tr sg rf ab bl, aW G rf 3 (upd rfd 0 (rfd 0 + 1))].flatten) := by
  refine CT.mk (own := RX5) (la := [(0, .ref x0), (1, .int x)]) (by decide) rfl (Nat.le_of_ble_eq_true rfl) rfl ?_
  intro p e s m args below meth c A Q E hA hw rt ls hl
  have hx := E.1
  have hb := E.2.1
  refine lv_iload_n hx hb dX5_status_0 rfl (lv_at hl 1 rfl) ?_
  refine lv_iconst (v := 0) hx hb dX5_status_1 rfl ?_
  refine lv_iconst (v := 2) hx hb dX5_status_2 rfl ?_
  refine b_callS (is := []) (wb := []) (wb' := []) (As := [.int x, .int 0, .int 2]) (rest := []) (st1 := [.int (bI (inI x 0 2))]) (bs' := [xO G x0 s0 g0 k0 xt tr sg rf ab bl, aW G rf 3 rfd]) E (c_X5_within l G x 0 2) sw_X5_75 hw [] rfl rfl rfl rfl rfl rfl hl.1 rfl rfl (Nat.le_of_ble_eq_true rfl) ⟨Nat.le_of_ble_eq_true rfl, Nat.le_of_ble_eq_true rfl⟩ (Nat.zero_le _) (Nat.zero_le _) dX5_status_3 rfl rfl (fun H locs hw => ?_)
  refine lv_if_ne (tgt := 18) hx hb dX5_status_6 rfl (fun cq6 => ?_) (fun cq6 => ?_)
  · skip
    have cq6 := bI_n0.mp cq6
    exact absurd cq6 (by rw [h1]; decide)
  · skip
    have cq6 := bI_0.mp cq6
    refine lv_aload_n hx hb dX5_status_9 rfl (lv_at hl 0 rfl) ?_
    refine lv_bipush (v := -2) hx hb dX5_status_10 rfl ?_
    refine b_callV (is := [0, 1]) (wb := [xO G x0 s0 g0 k0 xt tr sg rf ab bl, aW G rf 3 rfd]) (wb' := [xO G x0 s0 g0 k0 xt tr sg rf ab bl, aW G rf 3 (upd rfd 0 (rfd 0 + 1))]) (As := [.int (-2)]) (rest := []) (st1 := [.int (-2)]) (bs' := [xO G x0 s0 g0 k0 xt tr sg rf ab bl, aW G rf 3 (upd rfd 0 (rfd 0 + 1))]) E (c_X5_refuse l G x0 s0 g0 k0 xt tr sg rf (-2) ab bl rfd 0 (by omega) (by decide)) vw_X5_56 hw [0, 1] rfl 0 0 rfl rfl rfl rfl rfl rfl rfl rfl rfl hl.1 rfl rfl (Nat.le_of_ble_eq_true rfl) ⟨Nat.le_of_ble_eq_true rfl, Nat.le_of_ble_eq_true rfl⟩ (Nat.zero_le _) (Nat.zero_le _) dX5_status_12 rfl rfl (fun H locs hw => ?_)
    refine lv_pop hx hb dX5_status_15 rfl ?_
    refine lv_iconst (v := -1) hx hb dX5_status_16 rfl ?_
    exact x_iret E hA rt hw dX5_status_17 (rfl) rfl
set_option maxHeartbeats 1000000 in
set_option maxRecDepth 100000 in
theorem c_X5_status_ok (l : Launch) (G : GG) (x0 : Nat) (s0 : Nat) (g0 : Nat) (k0 : Nat) (xt : Nat → Nat) (tr : Nat → Nat) (sg : Nat) (rf : Nat) (x : Int32) (k : Nat) (hv_x : x = nI k) (ab : Int64) (bl : Int64) (rfd : Nat → Int32) (h1 : inI x 0 2 = true) (hk : k < 3) : CT l G yX5_status cX5_status 2 (some .int) 1 22 [.ref x0, .int x] ([xO G x0 s0 g0 k0 xt tr sg rf ab bl, aW G rf 3 rfd].flatten) (some (.int (rfd k))) ([xO G x0 s0 g0 k0 xt tr sg rf ab bl, aW G rf 3 rfd].flatten) := by
  refine CT.mk (own := RX5) (la := [(0, .ref x0), (1, .int x)]) (by decide) rfl (Nat.le_of_ble_eq_true rfl) rfl ?_
  intro p e s m args below meth c A Q E hA hw rt ls hl
  have hx := E.1
  have hb := E.2.1
  refine lv_iload_n hx hb dX5_status_0 rfl (lv_at hl 1 rfl) ?_
  refine lv_iconst (v := 0) hx hb dX5_status_1 rfl ?_
  refine lv_iconst (v := 2) hx hb dX5_status_2 rfl ?_
  refine b_callS (is := []) (wb := []) (wb' := []) (As := [.int x, .int 0, .int 2]) (rest := []) (st1 := [.int (bI (inI x 0 2))]) (bs' := [xO G x0 s0 g0 k0 xt tr sg rf ab bl, aW G rf 3 rfd]) E (c_X5_within l G x 0 2) sw_X5_75 hw [] rfl rfl rfl rfl rfl rfl hl.1 rfl rfl (Nat.le_of_ble_eq_true rfl) ⟨Nat.le_of_ble_eq_true rfl, Nat.le_of_ble_eq_true rfl⟩ (Nat.zero_le _) (Nat.zero_le _) dX5_status_3 rfl rfl (fun H locs hw => ?_)
  refine lv_if_ne (tgt := 18) hx hb dX5_status_6 rfl (fun cq6 => ?_) (fun cq6 => ?_)
  · skip
    have cq6 := bI_n0.mp cq6
    refine lv_aload_n hx hb dX5_status_18 rfl (lv_at hl 0 rfl) ?_
    refine b_get E hw fw_X5_42 0 0 rfl rfl rfl dX5_status_19 ?_
    refine lv_iload_n hx hb dX5_status_22 rfl (lv_at hl 1 rfl) ?_
    refine b_iald E hw 1 0 rfl rfl k (hv_x) (by omega) (by omega) dX5_status_23 ?_
    exact x_iret E hA rt hw dX5_status_24 (rfl) rfl
  · skip
    have cq6 := bI_0.mp cq6
    exact absurd cq6 (by rw [h1]; decide)
set_option maxHeartbeats 1000000 in
set_option maxRecDepth 100000 in
theorem c_X5_count_bad (l : Launch) (G : GG) (x0 : Nat) (s0 : Nat) (g0 : Nat) (k0 : Nat) (xt : Nat → Nat) (tr : Nat → Nat) (sg : Nat) (rf : Nat) (x : Int32) (ab : Int64) (bl : Int64) (rfd : Nat → Int32) (h1 : inI x 0 7 = false) : CT l G yX5_count cX5_count 2 (some .int) 2 44 [.ref x0, .int x] ([xO G x0 s0 g0 k0 xt tr sg rf ab bl, aW G rf 3 rfd].flatten) (some (.int (-2))) ([xO G x0 s0 g0 k0 xt tr sg rf ab bl, aW G rf 3 (upd rfd 0 (rfd 0 + 1))].flatten) := by
  refine CT.mk (own := RX5) (la := [(0, .ref x0), (1, .int x)]) (by decide) rfl (Nat.le_of_ble_eq_true rfl) rfl ?_
  intro p e s m args below meth c A Q E hA hw rt ls hl
  have hx := E.1
  have hb := E.2.1
  refine lv_iload_n hx hb dX5_count_0 rfl (lv_at hl 1 rfl) ?_
  refine lv_iconst (v := 0) hx hb dX5_count_1 rfl ?_
  refine lv_bipush (v := 7) hx hb dX5_count_2 rfl ?_
  refine b_callS (is := []) (wb := []) (wb' := []) (As := [.int x, .int 0, .int 7]) (rest := []) (st1 := [.int (bI (inI x 0 7))]) (bs' := [xO G x0 s0 g0 k0 xt tr sg rf ab bl, aW G rf 3 rfd]) E (c_X5_within l G x 0 7) sw_X5_75 hw [] rfl rfl rfl rfl rfl rfl hl.1 rfl rfl (Nat.le_of_ble_eq_true rfl) ⟨Nat.le_of_ble_eq_true rfl, Nat.le_of_ble_eq_true rfl⟩ (Nat.zero_le _) (Nat.zero_le _) dX5_count_4 rfl rfl (fun H locs hw => ?_)
  refine lv_if_eq (tgt := 18) hx hb dX5_count_7 rfl (fun cq7 => ?_) (fun cq7 => ?_)
  · skip
    have cq7 := bI_0.mp cq7
    refine lv_aload_n hx hb dX5_count_18 rfl (lv_at hl 0 rfl) ?_
    refine lv_bipush (v := -2) hx hb dX5_count_19 rfl ?_
    refine b_callV (is := [0, 1]) (wb := [xO G x0 s0 g0 k0 xt tr sg rf ab bl, aW G rf 3 rfd]) (wb' := [xO G x0 s0 g0 k0 xt tr sg rf ab bl, aW G rf 3 (upd rfd 0 (rfd 0 + 1))]) (As := [.int (-2)]) (rest := []) (st1 := [.int (-2)]) (bs' := [xO G x0 s0 g0 k0 xt tr sg rf ab bl, aW G rf 3 (upd rfd 0 (rfd 0 + 1))]) E (c_X5_refuse l G x0 s0 g0 k0 xt tr sg rf (-2) ab bl rfd 0 (by omega) (by decide)) vw_X5_56 hw [0, 1] rfl 0 0 rfl rfl rfl rfl rfl rfl rfl rfl rfl hl.1 rfl rfl (Nat.le_of_ble_eq_true rfl) ⟨Nat.le_of_ble_eq_true rfl, Nat.le_of_ble_eq_true rfl⟩ (Nat.zero_le _) (Nat.zero_le _) dX5_count_21 rfl rfl (fun H locs hw => ?_)
    exact x_iret E hA rt hw dX5_count_24 (rfl) rfl
  · skip
    have cq7 := bI_n0.mp cq7
    exact absurd cq7 (by rw [h1]; decide)
set_option maxHeartbeats 1000000 in
set_option maxRecDepth 100000 in
theorem c_X5_count_ok (l : Launch) (G : GG) (x0 : Nat) (s0 : Nat) (t0 : Nat → Nat) (p0 : Nat → Nat) (n0 : Nat → Nat) (g0 : Nat) (k0 : Nat) (xt : Nat → Nat) (tr : Nat → Nat) (sg : Nat) (rf : Nat) (x : Int32) (ab : Int64) (bl : Int64) (wo : Int32) (mi : Int32) (bi : Int32) (la : Int32) (n : Nat) (ki : Nat → Int32) (se : Nat → Int32) (wd : Nat → Int32) (hu : Nat → Int32) (bt : Nat → Int32) (o : Nat) (u : Nat) (T : Nat → Tb) (np : Nat → Int32) (zn : Nat) (f : Nat → Int32) (z : Nat) (pl : Int32) (sa : Int32) (tk : Int32) (vl : Int32) (h1 : inI x 0 7 = true) : CT l G yX5_count cX5_count 2 (some .int) 1 22 [.ref x0, .int x] ([xO G x0 s0 g0 k0 xt tr sg rf ab bl, oS G s0 t0 p0 n0, tW G t0 wo mi bi la (nI n) ki se wd hu bt, pW G p0 (nI o) (nI u) T, nW G n0 np (nI zn), xT G xt f (nI z) pl sa tk vl].flatten) (some (.int (if x = 0 then nI n else if x = 1 then mi else if x = 2 then bi else if x = 3 then la else if x = 4 then wo else if x = 5 then nI zn else if x = 6 then nI u else nI z))) ([xO G x0 s0 g0 k0 xt tr sg rf ab bl, oS G s0 t0 p0 n0, tW G t0 wo mi bi la (nI n) ki se wd hu bt, pW G p0 (nI o) (nI u) T, nW G n0 np (nI zn), xT G xt f (nI z) pl sa tk vl].flatten) := by
  refine CT.mk (own := RX5) (la := [(0, .ref x0), (1, .int x)]) (by decide) rfl (Nat.le_of_ble_eq_true rfl) rfl ?_
  intro p e s m args below meth c A Q E hA hw rt ls hl
  have hx := E.1
  have hb := E.2.1
  refine lv_iload_n hx hb dX5_count_0 rfl (lv_at hl 1 rfl) ?_
  refine lv_iconst (v := 0) hx hb dX5_count_1 rfl ?_
  refine lv_bipush (v := 7) hx hb dX5_count_2 rfl ?_
  refine b_callS (is := []) (wb := []) (wb' := []) (As := [.int x, .int 0, .int 7]) (rest := []) (st1 := [.int (bI (inI x 0 7))]) (bs' := [xO G x0 s0 g0 k0 xt tr sg rf ab bl, oS G s0 t0 p0 n0, tW G t0 wo mi bi la (nI n) ki se wd hu bt, pW G p0 (nI o) (nI u) T, nW G n0 np (nI zn), xT G xt f (nI z) pl sa tk vl]) E (c_X5_within l G x 0 7) sw_X5_75 hw [] rfl rfl rfl rfl rfl rfl hl.1 rfl rfl (Nat.le_of_ble_eq_true rfl) ⟨Nat.le_of_ble_eq_true rfl, Nat.le_of_ble_eq_true rfl⟩ (Nat.zero_le _) (Nat.zero_le _) dX5_count_4 rfl rfl (fun H locs hw => ?_)
  refine lv_if_eq (tgt := 18) hx hb dX5_count_7 rfl (fun cq7 => ?_) (fun cq7 => ?_)
  · skip
    have cq7 := bI_0.mp cq7
    exact absurd cq7 (by rw [h1]; decide)
  · skip
    have cq7 := bI_n0.mp cq7
    refine lv_aload_n hx hb dX5_count_10 rfl (lv_at hl 0 rfl) ?_
    refine lv_iload_n hx hb dX5_count_11 rfl (lv_at hl 1 rfl) ?_
    refine b_callV (is := [0, 1, 2, 3, 4, 5]) (wb := [xO G x0 s0 g0 k0 xt tr sg rf ab bl, oS G s0 t0 p0 n0, tW G t0 wo mi bi la (nI n) ki se wd hu bt, pW G p0 (nI o) (nI u) T, nW G n0 np (nI zn), xT G xt f (nI z) pl sa tk vl]) (wb' := [xO G x0 s0 g0 k0 xt tr sg rf ab bl, oS G s0 t0 p0 n0, tW G t0 wo mi bi la (nI n) ki se wd hu bt, pW G p0 (nI o) (nI u) T, nW G n0 np (nI zn), xT G xt f (nI z) pl sa tk vl]) (As := [.int x]) (rest := []) (st1 := [.int (if x = 0 then nI n else if x = 1 then mi else if x = 2 then bi else if x = 3 then la else if x = 4 then wo else if x = 5 then nI zn else if x = 6 then nI u else nI z)]) (bs' := [xO G x0 s0 g0 k0 xt tr sg rf ab bl, oS G s0 t0 p0 n0, tW G t0 wo mi bi la (nI n) ki se wd hu bt, pW G p0 (nI o) (nI u) T, nW G n0 np (nI zn), xT G xt f (nI z) pl sa tk vl]) E (c_X5_howMany l G x0 s0 t0 p0 n0 g0 k0 xt tr sg rf x ab bl wo mi bi la n ki se wd hu bt o u T np zn f z pl sa tk vl) vw_X5_219 hw [0, 1, 2, 3, 4, 5] rfl 0 0 rfl rfl rfl rfl rfl rfl rfl rfl rfl hl.1 rfl rfl (Nat.le_of_ble_eq_true rfl) ⟨Nat.le_of_ble_eq_true rfl, Nat.le_of_ble_eq_true rfl⟩ (Nat.zero_le _) (Nat.zero_le _) dX5_count_12 rfl rfl (fun H locs hw => ?_)
    refine lv_goto (tgt := 24) hx hb dX5_count_15 rfl ?_
    exact x_iret E hA rt hw dX5_count_24 (rfl) rfl
set_option maxHeartbeats 1000000 in
set_option maxRecDepth 100000 in
theorem c_X5_image_bad (l : Launch) (G : GG) (x0 : Nat) (s0 : Nat) (g0 : Nat) (k0 : Nat) (xt : Nat → Nat) (tr : Nat → Nat) (sg : Nat) (rf : Nat) (x : Int32) (ab : Int64) (bl : Int64) (rfd : Nat → Int32) (h1 : inI x 0 1 = false) : CT l G yX5_image cX5_image 2 (some .int) 2 44 [.ref x0, .int x] ([xO G x0 s0 g0 k0 xt tr sg rf ab bl, aW G rf 3 rfd].flatten) (some (.int (-2))) ([xO G x0 s0 g0 k0 xt tr sg rf ab bl, aW G rf 3 (upd rfd 0 (rfd 0 + 1))].flatten) := by
  refine CT.mk (own := RX5) (la := [(0, .ref x0), (1, .int x)]) (by decide) rfl (Nat.le_of_ble_eq_true rfl) rfl ?_
  intro p e s m args below meth c A Q E hA hw rt ls hl
  have hx := E.1
  have hb := E.2.1
  refine lv_iload_n hx hb dX5_image_0 rfl (lv_at hl 1 rfl) ?_
  refine lv_iconst (v := 0) hx hb dX5_image_1 rfl ?_
  refine lv_iconst (v := 1) hx hb dX5_image_2 rfl ?_
  refine b_callS (is := []) (wb := []) (wb' := []) (As := [.int x, .int 0, .int 1]) (rest := []) (st1 := [.int (bI (inI x 0 1))]) (bs' := [xO G x0 s0 g0 k0 xt tr sg rf ab bl, aW G rf 3 rfd]) E (c_X5_within l G x 0 1) sw_X5_75 hw [] rfl rfl rfl rfl rfl rfl hl.1 rfl rfl (Nat.le_of_ble_eq_true rfl) ⟨Nat.le_of_ble_eq_true rfl, Nat.le_of_ble_eq_true rfl⟩ (Nat.zero_le _) (Nat.zero_le _) dX5_image_3 rfl rfl (fun H locs hw => ?_)
  refine lv_if_ne (tgt := 16) hx hb dX5_image_6 rfl (fun cq6 => ?_) (fun cq6 => ?_)
  · skip
    have cq6 := bI_n0.mp cq6
    exact absurd cq6 (by rw [h1]; decide)
  · skip
    have cq6 := bI_0.mp cq6
    refine lv_aload_n hx hb dX5_image_9 rfl (lv_at hl 0 rfl) ?_
    refine lv_bipush (v := -2) hx hb dX5_image_10 rfl ?_
    refine b_callV (is := [0, 1]) (wb := [xO G x0 s0 g0 k0 xt tr sg rf ab bl, aW G rf 3 rfd]) (wb' := [xO G x0 s0 g0 k0 xt tr sg rf ab bl, aW G rf 3 (upd rfd 0 (rfd 0 + 1))]) (As := [.int (-2)]) (rest := []) (st1 := [.int (-2)]) (bs' := [xO G x0 s0 g0 k0 xt tr sg rf ab bl, aW G rf 3 (upd rfd 0 (rfd 0 + 1))]) E (c_X5_refuse l G x0 s0 g0 k0 xt tr sg rf (-2) ab bl rfd 0 (by omega) (by decide)) vw_X5_56 hw [0, 1] rfl 0 0 rfl rfl rfl rfl rfl rfl rfl rfl rfl hl.1 rfl rfl (Nat.le_of_ble_eq_true rfl) ⟨Nat.le_of_ble_eq_true rfl, Nat.le_of_ble_eq_true rfl⟩ (Nat.zero_le _) (Nat.zero_le _) dX5_image_12 rfl rfl (fun H locs hw => ?_)
    exact x_iret E hA rt hw dX5_image_15 (rfl) rfl
set_option maxHeartbeats 1000000 in
set_option maxRecDepth 100000 in
theorem c_X5_from_bad (l : Launch) (G : GG) (x0 : Nat) (s0 : Nat) (g0 : Nat) (k0 : Nat) (xt : Nat → Nat) (tr : Nat → Nat) (sg : Nat) (rf : Nat) (x : Int32) (ab : Int64) (bl : Int64) (rfd : Nat → Int32) (h1 : inI x 0 1 = false) : CT l G yX5_from cX5_from 2 (some .int) 2 44 [.ref x0, .int x] ([xO G x0 s0 g0 k0 xt tr sg rf ab bl, aW G rf 3 rfd].flatten) (some (.int (-2))) ([xO G x0 s0 g0 k0 xt tr sg rf ab bl, aW G rf 3 (upd rfd 0 (rfd 0 + 1))].flatten) := by
  refine CT.mk (own := RX5) (la := [(0, .ref x0), (1, .int x)]) (by decide) rfl (Nat.le_of_ble_eq_true rfl) rfl ?_
  intro p e s m args below meth c A Q E hA hw rt ls hl
  have hx := E.1
  have hb := E.2.1
  refine lv_iload_n hx hb dX5_from_0 rfl (lv_at hl 1 rfl) ?_
  refine lv_iconst (v := 0) hx hb dX5_from_1 rfl ?_
  refine lv_iconst (v := 1) hx hb dX5_from_2 rfl ?_
  refine b_callS (is := []) (wb := []) (wb' := []) (As := [.int x, .int 0, .int 1]) (rest := []) (st1 := [.int (bI (inI x 0 1))]) (bs' := [xO G x0 s0 g0 k0 xt tr sg rf ab bl, aW G rf 3 rfd]) E (c_X5_within l G x 0 1) sw_X5_75 hw [] rfl rfl rfl rfl rfl rfl hl.1 rfl rfl (Nat.le_of_ble_eq_true rfl) ⟨Nat.le_of_ble_eq_true rfl, Nat.le_of_ble_eq_true rfl⟩ (Nat.zero_le _) (Nat.zero_le _) dX5_from_3 rfl rfl (fun H locs hw => ?_)
  refine lv_if_ne (tgt := 16) hx hb dX5_from_6 rfl (fun cq6 => ?_) (fun cq6 => ?_)
  · skip
    have cq6 := bI_n0.mp cq6
    exact absurd cq6 (by rw [h1]; decide)
  · skip
    have cq6 := bI_0.mp cq6
    refine lv_aload_n hx hb dX5_from_9 rfl (lv_at hl 0 rfl) ?_
    refine lv_bipush (v := -2) hx hb dX5_from_10 rfl ?_
    refine b_callV (is := [0, 1]) (wb := [xO G x0 s0 g0 k0 xt tr sg rf ab bl, aW G rf 3 rfd]) (wb' := [xO G x0 s0 g0 k0 xt tr sg rf ab bl, aW G rf 3 (upd rfd 0 (rfd 0 + 1))]) (As := [.int (-2)]) (rest := []) (st1 := [.int (-2)]) (bs' := [xO G x0 s0 g0 k0 xt tr sg rf ab bl, aW G rf 3 (upd rfd 0 (rfd 0 + 1))]) E (c_X5_refuse l G x0 s0 g0 k0 xt tr sg rf (-2) ab bl rfd 0 (by omega) (by decide)) vw_X5_56 hw [0, 1] rfl 0 0 rfl rfl rfl rfl rfl rfl rfl rfl rfl hl.1 rfl rfl (Nat.le_of_ble_eq_true rfl) ⟨Nat.le_of_ble_eq_true rfl, Nat.le_of_ble_eq_true rfl⟩ (Nat.zero_le _) (Nat.zero_le _) dX5_from_12 rfl rfl (fun H locs hw => ?_)
    exact x_iret E hA rt hw dX5_from_15 (rfl) rfl
set_option maxHeartbeats 1000000 in
set_option maxRecDepth 100000 in
theorem c_X5_image_ok (l : Launch) (G : GG) (x0 : Nat) (s0 : Nat) (t0 : Nat → Nat) (p0 : Nat → Nat) (n0 : Nat → Nat) (g0 : Nat) (k0 : Nat) (xt : Nat → Nat) (tr : Nat → Nat) (sg : Nat) (rf : Nat) (gs : Nat → Nat) (s1 : Nat) (t1 : Nat → Nat) (p1 : Nat → Nat) (n1 : Nat → Nat) (x : Int32) (k : Nat) (hv_x : x = nI k) (ab : Int64) (bl : Int64) (kp : Nat → Int32) (wo : Int32) (mi : Int32) (bi : Int32) (la : Int32) (ch : Int32) (ki : Nat → Int32) (se : Nat → Int32) (wd : Nat → Int32) (hu : Nat → Int32) (bt : Nat → Int32) (old : Int32) (sz : Int32) (T : Nat → Tb) (np : Nat → Int32) (ns : Int32) (wo1 : Int32) (mi1 : Int32) (bi1 : Int32) (la1 : Int32) (ch1 : Int32) (ki1 : Nat → Int32) (se1 : Nat → Int32) (wd1 : Nat → Int32) (hu1 : Nat → Int32) (bt1 : Nat → Int32) (old1 : Int32) (sz1 : Int32) (TT : Nat → Tb) (np1 : Nat → Int32) (ns1 : Int32) (h1 : inI x 0 1 = true) (hk : k < 2) (hgs : gs k = s1) : CT l G yX5_image cX5_image 2 (some .int) 4 82 [.ref x0, .int x] ([xO G x0 s0 g0 k0 xt tr sg rf ab bl, gW G g0 gs, zW G k0 2 kp, oS G s0 t0 p0 n0, tW G t0 wo mi bi la ch ki se wd hu bt, pW G p0 old sz T, nW G n0 np ns, oS G s1 t1 p1 n1, tW G t1 wo1 mi1 bi1 la1 ch1 ki1 se1 wd1 hu1 bt1, pW G p1 old1 sz1 TT, nW G n1 np1 ns1].flatten) (some (.int 1)) ([xO G x0 s0 g0 k0 xt tr sg rf ab bl, gW G g0 gs, zW G k0 2 (upd kp k 1), oS G s0 t0 p0 n0, tW G t0 wo mi bi la ch ki se wd hu bt, pW G p0 old sz T, nW G n0 np ns, oS G s1 t1 p1 n1, tW G t1 wo mi bi la ch ki se wd hu bt, pW G p1 old sz T, nW G n1 np ns].flatten) := by
  refine CT.mk (own := RX5) (la := [(0, .ref x0), (1, .int x)]) (by decide) rfl (Nat.le_of_ble_eq_true rfl) rfl ?_
  intro p e s m args below meth c A Q E hA hw rt ls hl
  have hx := E.1
  have hb := E.2.1
  refine lv_iload_n hx hb dX5_image_0 rfl (lv_at hl 1 rfl) ?_
  refine lv_iconst (v := 0) hx hb dX5_image_1 rfl ?_
  refine lv_iconst (v := 1) hx hb dX5_image_2 rfl ?_
  refine b_callS (is := []) (wb := []) (wb' := []) (As := [.int x, .int 0, .int 1]) (rest := []) (st1 := [.int (bI (inI x 0 1))]) (bs' := [xO G x0 s0 g0 k0 xt tr sg rf ab bl, gW G g0 gs, zW G k0 2 kp, oS G s0 t0 p0 n0, tW G t0 wo mi bi la ch ki se wd hu bt, pW G p0 old sz T, nW G n0 np ns, oS G s1 t1 p1 n1, tW G t1 wo1 mi1 bi1 la1 ch1 ki1 se1 wd1 hu1 bt1, pW G p1 old1 sz1 TT, nW G n1 np1 ns1]) E (c_X5_within l G x 0 1) sw_X5_75 hw [] rfl rfl rfl rfl rfl rfl hl.1 rfl rfl (Nat.le_of_ble_eq_true rfl) ⟨Nat.le_of_ble_eq_true rfl, Nat.le_of_ble_eq_true rfl⟩ (Nat.zero_le _) (Nat.zero_le _) dX5_image_3 rfl rfl (fun H locs hw => ?_)
  refine lv_if_ne (tgt := 16) hx hb dX5_image_6 rfl (fun cq6 => ?_) (fun cq6 => ?_)
  · skip
    have cq6 := bI_n0.mp cq6
    refine lv_aload_n hx hb dX5_image_16 rfl (lv_at hl 0 rfl) ?_
    refine b_get E hw fw_X5_16 0 0 rfl rfl rfl dX5_image_17 ?_
    refine lv_iload_n hx hb dX5_image_20 rfl (lv_at hl 1 rfl) ?_
    refine b_aldq (b := s1) E hw 1 0 4 rfl rfl rfl k (hv_x) (by omega) (by omega) (congrArg some hgs) dX5_image_21 ?_
    refine lv_aload_n hx hb dX5_image_22 rfl (lv_at hl 0 rfl) ?_
    refine b_get E hw fw_X5_10 0 0 rfl rfl rfl dX5_image_23 ?_
    refine b_callV (is := [7, 8, 9, 10, 3, 4, 5, 6]) (wb := [oS G s1 t1 p1 n1, tW G t1 wo1 mi1 bi1 la1 ch1 ki1 se1 wd1 hu1 bt1, pW G p1 old1 sz1 TT, nW G n1 np1 ns1, oS G s0 t0 p0 n0, tW G t0 wo mi bi la ch ki se wd hu bt, pW G p0 old sz T, nW G n0 np ns]) (wb' := [oS G s1 t1 p1 n1, tW G t1 wo mi bi la ch ki se wd hu bt, pW G p1 old sz T, nW G n1 np ns, oS G s0 t0 p0 n0, tW G t0 wo mi bi la ch ki se wd hu bt, pW G p0 old sz T, nW G n0 np ns]) (As := [.ref s0]) (rest := []) (st1 := []) (bs' := [xO G x0 s0 g0 k0 xt tr sg rf ab bl, gW G g0 gs, zW G k0 2 kp, oS G s0 t0 p0 n0, tW G t0 wo mi bi la ch ki se wd hu bt, pW G p0 old sz T, nW G n0 np ns, oS G s1 t1 p1 n1, tW G t1 wo mi bi la ch ki se wd hu bt, pW G p1 old sz T, nW G n1 np ns]) E (c_X2_copyFrom l G s1 t1 p1 n1 s0 t0 p0 n0 wo1 mi1 bi1 la1 ch1 ki1 se1 wd1 hu1 bt1 old1 sz1 TT np1 ns1 wo mi bi la ch ki se wd hu bt old sz T np ns) vw_X5_216 hw [7, 8, 9, 10, 3, 4, 5, 6] rfl 7 0 rfl rfl rfl rfl rfl rfl rfl rfl rfl hl.1 rfl rfl (Nat.le_of_ble_eq_true rfl) ⟨Nat.le_of_ble_eq_true rfl, Nat.le_of_ble_eq_true rfl⟩ (Nat.zero_le _) (Nat.zero_le _) dX5_image_26 rfl rfl (fun H locs hw => ?_)
    refine lv_aload_n hx hb dX5_image_29 rfl (lv_at hl 0 rfl) ?_
    refine b_get E hw fw_X5_20 0 0 rfl rfl rfl dX5_image_30 ?_
    refine lv_iload_n hx hb dX5_image_33 rfl (lv_at hl 1 rfl) ?_
    refine lv_iconst (v := 1) hx hb dX5_image_34 rfl ?_
    refine b_zast (bs' := [xO G x0 s0 g0 k0 xt tr sg rf ab bl, gW G g0 gs, zW G k0 2 (upd kp k (vp_nar .boolean 1)), oS G s0 t0 p0 n0, tW G t0 wo mi bi la ch ki se wd hu bt, pW G p0 old sz T, nW G n0 np ns, oS G s1 t1 p1 n1, tW G t1 wo mi bi la ch ki se wd hu bt, pW G p1 old sz T, nW G n1 np ns]) E hw 2 0 rfl rfl k (hv_x) (by omega) (by omega) dX5_image_35 rfl (fun H locs hw => ?_)
    refine lv_iconst (v := 1) hx hb dX5_image_36 rfl ?_
    exact x_iret E hA rt hw dX5_image_37 (rfl) rfl
  · skip
    have cq6 := bI_0.mp cq6
    exact absurd cq6 (by rw [h1]; decide)
set_option maxHeartbeats 1000000 in
set_option maxRecDepth 100000 in
theorem c_X5_from_ok (l : Launch) (G : GG) (x0 : Nat) (s0 : Nat) (t0 : Nat → Nat) (p0 : Nat → Nat) (n0 : Nat → Nat) (g0 : Nat) (k0 : Nat) (xt : Nat → Nat) (tr : Nat → Nat) (sg : Nat) (rf : Nat) (gs : Nat → Nat) (s1 : Nat) (t1 : Nat → Nat) (p1 : Nat → Nat) (n1 : Nat → Nat) (x : Int32) (k : Nat) (hv_x : x = nI k) (ab : Int64) (bl : Int64) (kp : Nat → Int32) (wo : Int32) (mi : Int32) (bi : Int32) (la : Int32) (ch : Int32) (ki : Nat → Int32) (se : Nat → Int32) (wd : Nat → Int32) (hu : Nat → Int32) (bt : Nat → Int32) (old : Int32) (sz : Int32) (T : Nat → Tb) (np : Nat → Int32) (ns : Int32) (wo1 : Int32) (mi1 : Int32) (bi1 : Int32) (la1 : Int32) (ch1 : Int32) (ki1 : Nat → Int32) (se1 : Nat → Int32) (wd1 : Nat → Int32) (hu1 : Nat → Int32) (bt1 : Nat → Int32) (old1 : Int32) (sz1 : Int32) (TT : Nat → Tb) (np1 : Nat → Int32) (ns1 : Int32) (h1 : inI x 0 1 = true) (hk : k < 2) (hgs : gs k = s1) (h2 : ¬ kp k = 0) : CT l G yX5_from cX5_from 2 (some .int) 4 82 [.ref x0, .int x] ([xO G x0 s0 g0 k0 xt tr sg rf ab bl, gW G g0 gs, zW G k0 2 kp, oS G s0 t0 p0 n0, tW G t0 wo mi bi la ch ki se wd hu bt, pW G p0 old sz T, nW G n0 np ns, oS G s1 t1 p1 n1, tW G t1 wo1 mi1 bi1 la1 ch1 ki1 se1 wd1 hu1 bt1, pW G p1 old1 sz1 TT, nW G n1 np1 ns1].flatten) (some (.int 1)) ([xO G x0 s0 g0 k0 xt tr sg rf ab bl, gW G g0 gs, zW G k0 2 kp, oS G s0 t0 p0 n0, tW G t0 wo1 mi1 bi1 la1 ch1 ki1 se1 wd1 hu1 bt1, pW G p0 old1 sz1 TT, nW G n0 np1 ns1, oS G s1 t1 p1 n1, tW G t1 wo1 mi1 bi1 la1 ch1 ki1 se1 wd1 hu1 bt1, pW G p1 old1 sz1 TT, nW G n1 np1 ns1].flatten) := by
  refine CT.mk (own := RX5) (la := [(0, .ref x0), (1, .int x)]) (by decide) rfl (Nat.le_of_ble_eq_true rfl) rfl ?_
  intro p e s m args below meth c A Q E hA hw rt ls hl
  have hx := E.1
  have hb := E.2.1
  refine lv_iload_n hx hb dX5_from_0 rfl (lv_at hl 1 rfl) ?_
  refine lv_iconst (v := 0) hx hb dX5_from_1 rfl ?_
  refine lv_iconst (v := 1) hx hb dX5_from_2 rfl ?_
  refine b_callS (is := []) (wb := []) (wb' := []) (As := [.int x, .int 0, .int 1]) (rest := []) (st1 := [.int (bI (inI x 0 1))]) (bs' := [xO G x0 s0 g0 k0 xt tr sg rf ab bl, gW G g0 gs, zW G k0 2 kp, oS G s0 t0 p0 n0, tW G t0 wo mi bi la ch ki se wd hu bt, pW G p0 old sz T, nW G n0 np ns, oS G s1 t1 p1 n1, tW G t1 wo1 mi1 bi1 la1 ch1 ki1 se1 wd1 hu1 bt1, pW G p1 old1 sz1 TT, nW G n1 np1 ns1]) E (c_X5_within l G x 0 1) sw_X5_75 hw [] rfl rfl rfl rfl rfl rfl hl.1 rfl rfl (Nat.le_of_ble_eq_true rfl) ⟨Nat.le_of_ble_eq_true rfl, Nat.le_of_ble_eq_true rfl⟩ (Nat.zero_le _) (Nat.zero_le _) dX5_from_3 rfl rfl (fun H locs hw => ?_)
  refine lv_if_ne (tgt := 16) hx hb dX5_from_6 rfl (fun cq6 => ?_) (fun cq6 => ?_)
  · skip
    have cq6 := bI_n0.mp cq6
    refine lv_aload_n hx hb dX5_from_16 rfl (lv_at hl 0 rfl) ?_
    refine b_get E hw fw_X5_20 0 0 rfl rfl rfl dX5_from_17 ?_
    refine lv_iload_n hx hb dX5_from_20 rfl (lv_at hl 1 rfl) ?_
    refine b_zald E hw 2 0 rfl rfl k (hv_x) (by omega) (by omega) dX5_from_21 ?_
    refine lv_if_ne (tgt := 32) hx hb dX5_from_22 rfl (fun cq22 => ?_) (fun cq22 => ?_)
    · skip
      refine lv_aload_n hx hb dX5_from_32 rfl (lv_at hl 0 rfl) ?_
      refine b_get E hw fw_X5_10 0 0 rfl rfl rfl dX5_from_33 ?_
      refine lv_aload_n hx hb dX5_from_36 rfl (lv_at hl 0 rfl) ?_
      refine b_get E hw fw_X5_16 0 0 rfl rfl rfl dX5_from_37 ?_
      refine lv_iload_n hx hb dX5_from_40 rfl (lv_at hl 1 rfl) ?_
      refine b_aldq (b := s1) E hw 1 0 4 rfl rfl rfl k (hv_x) (by omega) (by omega) (congrArg some hgs) dX5_from_41 ?_
      refine b_callV (is := [3, 4, 5, 6, 7, 8, 9, 10]) (wb := [oS G s0 t0 p0 n0, tW G t0 wo mi bi la ch ki se wd hu bt, pW G p0 old sz T, nW G n0 np ns, oS G s1 t1 p1 n1, tW G t1 wo1 mi1 bi1 la1 ch1 ki1 se1 wd1 hu1 bt1, pW G p1 old1 sz1 TT, nW G n1 np1 ns1]) (wb' := [oS G s0 t0 p0 n0, tW G t0 wo1 mi1 bi1 la1 ch1 ki1 se1 wd1 hu1 bt1, pW G p0 old1 sz1 TT, nW G n0 np1 ns1, oS G s1 t1 p1 n1, tW G t1 wo1 mi1 bi1 la1 ch1 ki1 se1 wd1 hu1 bt1, pW G p1 old1 sz1 TT, nW G n1 np1 ns1]) (As := [.ref s1]) (rest := []) (st1 := []) (bs' := [xO G x0 s0 g0 k0 xt tr sg rf ab bl, gW G g0 gs, zW G k0 2 kp, oS G s0 t0 p0 n0, tW G t0 wo1 mi1 bi1 la1 ch1 ki1 se1 wd1 hu1 bt1, pW G p0 old1 sz1 TT, nW G n0 np1 ns1, oS G s1 t1 p1 n1, tW G t1 wo1 mi1 bi1 la1 ch1 ki1 se1 wd1 hu1 bt1, pW G p1 old1 sz1 TT, nW G n1 np1 ns1]) E (c_X2_copyFrom l G s0 t0 p0 n0 s1 t1 p1 n1 wo mi bi la ch ki se wd hu bt old sz T np ns wo1 mi1 bi1 la1 ch1 ki1 se1 wd1 hu1 bt1 old1 sz1 TT np1 ns1) vw_X5_216 hw [3, 4, 5, 6, 7, 8, 9, 10] rfl 3 0 rfl rfl rfl rfl rfl rfl rfl rfl rfl hl.1 rfl rfl (Nat.le_of_ble_eq_true rfl) ⟨Nat.le_of_ble_eq_true rfl, Nat.le_of_ble_eq_true rfl⟩ (Nat.zero_le _) (Nat.zero_le _) dX5_from_42 rfl rfl (fun H locs hw => ?_)
      refine lv_iconst (v := 1) hx hb dX5_from_45 rfl ?_
      exact x_iret E hA rt hw dX5_from_46 (rfl) rfl
    · skip
      exact (h2 cq22).elim
  · skip
    have cq6 := bI_0.mp cq6
    exact absurd cq6 (by rw [h1]; decide)
set_option maxHeartbeats 1000000 in
set_option maxRecDepth 100000 in
theorem c_X5_from_no (l : Launch) (G : GG) (x0 : Nat) (s0 : Nat) (g0 : Nat) (k0 : Nat) (xt : Nat → Nat) (tr : Nat → Nat) (sg : Nat) (rf : Nat) (x : Int32) (k : Nat) (hv_x : x = nI k) (ab : Int64) (bl : Int64) (kp : Nat → Int32) (rfd : Nat → Int32) (h1 : inI x 0 1 = true) (hk : k < 2) (h2 : kp k = 0) : CT l G yX5_from cX5_from 2 (some .int) 2 44 [.ref x0, .int x] ([xO G x0 s0 g0 k0 xt tr sg rf ab bl, zW G k0 2 kp, aW G rf 3 rfd].flatten) (some (.int (-3))) ([xO G x0 s0 g0 k0 xt tr sg rf ab bl, zW G k0 2 kp, aW G rf 3 (upd rfd 1 (rfd 1 + 1))].flatten) := by
  refine CT.mk (own := RX5) (la := [(0, .ref x0), (1, .int x)]) (by decide) rfl (Nat.le_of_ble_eq_true rfl) rfl ?_
  intro p e s m args below meth c A Q E hA hw rt ls hl
  have hx := E.1
  have hb := E.2.1
  refine lv_iload_n hx hb dX5_from_0 rfl (lv_at hl 1 rfl) ?_
  refine lv_iconst (v := 0) hx hb dX5_from_1 rfl ?_
  refine lv_iconst (v := 1) hx hb dX5_from_2 rfl ?_
  refine b_callS (is := []) (wb := []) (wb' := []) (As := [.int x, .int 0, .int 1]) (rest := []) (st1 := [.int (bI (inI x 0 1))]) (bs' := [xO G x0 s0 g0 k0 xt tr sg rf ab bl, zW G k0 2 kp, aW G rf 3 rfd]) E (c_X5_within l G x 0 1) sw_X5_75 hw [] rfl rfl rfl rfl rfl rfl hl.1 rfl rfl (Nat.le_of_ble_eq_true rfl) ⟨Nat.le_of_ble_eq_true rfl, Nat.le_of_ble_eq_true rfl⟩ (Nat.zero_le _) (Nat.zero_le _) dX5_from_3 rfl rfl (fun H locs hw => ?_)
  refine lv_if_ne (tgt := 16) hx hb dX5_from_6 rfl (fun cq6 => ?_) (fun cq6 => ?_)
  · skip
    have cq6 := bI_n0.mp cq6
    refine lv_aload_n hx hb dX5_from_16 rfl (lv_at hl 0 rfl) ?_
    refine b_get E hw fw_X5_20 0 0 rfl rfl rfl dX5_from_17 ?_
    refine lv_iload_n hx hb dX5_from_20 rfl (lv_at hl 1 rfl) ?_
    refine b_zald E hw 1 0 rfl rfl k (hv_x) (by omega) (by omega) dX5_from_21 ?_
    refine lv_if_ne (tgt := 32) hx hb dX5_from_22 rfl (fun cq22 => ?_) (fun cq22 => ?_)
    · skip
      exact (cq22 h2).elim
    · skip
      refine lv_aload_n hx hb dX5_from_25 rfl (lv_at hl 0 rfl) ?_
      refine lv_bipush (v := -3) hx hb dX5_from_26 rfl ?_
      refine b_callV (is := [0, 2]) (wb := [xO G x0 s0 g0 k0 xt tr sg rf ab bl, aW G rf 3 rfd]) (wb' := [xO G x0 s0 g0 k0 xt tr sg rf ab bl, aW G rf 3 (upd rfd 1 (rfd 1 + 1))]) (As := [.int (-3)]) (rest := []) (st1 := [.int (-3)]) (bs' := [xO G x0 s0 g0 k0 xt tr sg rf ab bl, zW G k0 2 kp, aW G rf 3 (upd rfd 1 (rfd 1 + 1))]) E (c_X5_refuse l G x0 s0 g0 k0 xt tr sg rf (-3) ab bl rfd 1 (by omega) (by decide)) vw_X5_56 hw [0, 2] rfl 0 0 rfl rfl rfl rfl rfl rfl rfl rfl rfl hl.1 rfl rfl (Nat.le_of_ble_eq_true rfl) ⟨Nat.le_of_ble_eq_true rfl, Nat.le_of_ble_eq_true rfl⟩ (Nat.zero_le _) (Nat.zero_le _) dX5_from_28 rfl rfl (fun H locs hw => ?_)
      exact x_iret E hA rt hw dX5_from_31 (rfl) rfl
  · skip
    have cq6 := bI_0.mp cq6
    exact absurd cq6 (by rw [h1]; decide)

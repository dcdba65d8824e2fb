set_option maxHeartbeats 1000000 in
set_option maxRecDepth 100000 in
theorem c_X6_in (l : Launch) (G : GG) (v : Int64) (aa : Int64) (bb : Int64) : CT l G yX6_in cX6_in 6 (some .boolean) 0 0 [.long v, .long aa, .long bb] ([]) (some (.int (bI (inL v aa bb)))) ([]) := by
  refine CT.mk (own := RX6) (la := [(0, .long v), (2, .long aa), (4, .long bb)]) (by decide) rfl (Nat.le_of_ble_eq_true rfl) rfl ?_
  intro p e s m args below meth c A Q E hA hw rt ls hl
  have hx := E.1
  have hb := E.2.1
  refine lv_lload_n hx hb dX6_in_0 rfl (lv_at hl 0 rfl) ?_
  refine lv_lload_n hx hb dX6_in_1 rfl (lv_at hl 1 rfl) ?_
  refine W.lcmp hx hb dX6_in_2 ?_
  refine lv_if_lt (tgt := 17) hx hb dX6_in_3 rfl (fun cq3 => ?_) (fun cq3 => ?_)
  · skip
    have cq3 := (lg_cmp_lt v aa).mp cq3
    refine lv_iconst (v := 0) hx hb dX6_in_17 rfl ?_
    exact x_zret E hA rt hw (by decide) dX6_in_18 (by simp [bI, inL, cq3]) rfl
  · skip
    have cq3 := mt (lg_cmp_lt v aa).mpr cq3
    refine lv_lload_n hx hb dX6_in_6 rfl (lv_at hl 0 rfl) ?_
    refine lv_lload hx hb dX6_in_7 (lv_at hl 2 rfl) ?_
    refine W.lcmp hx hb dX6_in_9 ?_
    refine lv_if_gt (tgt := 17) hx hb dX6_in_10 rfl (fun cq10 => ?_) (fun cq10 => ?_)
    · skip
      have cq10 := (lg_cmp_gt v bb).mp cq10
      refine lv_iconst (v := 0) hx hb dX6_in_17 rfl ?_
      exact x_zret E hA rt hw (by decide) dX6_in_18 (by simp [bI, inL, cq3, cq10]) rfl
    · skip
      have cq10 := mt (lg_cmp_gt v bb).mpr cq10
      refine lv_iconst (v := 1) hx hb dX6_in_13 rfl ?_
      refine lv_goto (tgt := 18) hx hb dX6_in_14 rfl ?_
      exact x_zret E hA rt hw (by decide) dX6_in_18 (by simp [bI, inL, cq3, cq10]) rfl
set_option maxHeartbeats 1000000 in
set_option maxRecDepth 100000 in
theorem c_X6_has (l : Launch) (G : GG) (set : Int32) (x : Int32) : CT l G yX6_has cX6_has 2 (some .boolean) 0 0 [.int set, .int x] ([]) (some (.int (bI (hasI set x)))) ([]) := by
  refine CT.mk (own := RX6) (la := [(0, .int set), (1, .int x)]) (by decide) rfl (Nat.le_of_ble_eq_true rfl) rfl ?_
  intro p e s m args below meth c A Q E hA hw rt ls hl
  have hx := E.1
  have hb := E.2.1
  refine lv_iload_n hx hb dX6_has_0 rfl (lv_at hl 0 rfl) ?_
  refine lv_iload_n hx hb dX6_has_1 rfl (lv_at hl 1 rfl) ?_
  refine lv_ishr hx hb dX6_has_2 ?_
  refine lv_iconst (v := 1) hx hb dX6_has_3 rfl ?_
  refine lv_iand hx hb dX6_has_4 ?_
  refine lv_iconst (v := 1) hx hb dX6_has_5 rfl ?_
  refine lv_icmp_ne (tgt := 13) hx hb dX6_has_6 rfl (fun cq6 => ?_) (fun cq6 => ?_)
  · skip
    refine lv_iconst (v := 0) hx hb dX6_has_13 rfl ?_
    exact x_zret E hA rt hw (by decide) dX6_has_14 (by simp [bI, hasI, cq6]) rfl
  · skip
    refine lv_iconst (v := 1) hx hb dX6_has_9 rfl ?_
    refine lv_goto (tgt := 14) hx hb dX6_has_10 rfl ?_
    exact x_zret E hA rt hw (by decide) dX6_has_14 (by simp [bI, hasI, cq6]) rfl
set_option maxHeartbeats 1000000 in
set_option maxRecDepth 100000 in
theorem c_X6_bits (l : Launch) (G : GG) (x : Int32) : CT l G yX6_bits cX6_bits 3 (some .int) 0 0 [.int x] ([]) (some (.int (bitsV x))) ([]) := by
  refine CT.mk (own := RX6) (la := [(0, .int x)]) (by decide) rfl (Nat.le_of_ble_eq_true rfl) rfl ?_
  intro p e s m args below meth c A Q E hA hw rt ls hl
  have hx := E.1
  have hb := E.2.1
  refine lv_iconst (v := 0) hx hb dX6_bits_0 rfl ?_
  refine lv_istore_n (lv' := [(1, .int 0), (0, .int x)]) hx hb dX6_bits_1 rfl hl (by decide) rfl (fun ls hl => ?_)
  refine lv_iload_n hx hb dX6_bits_2 rfl (lv_at hl 1 rfl) ?_
  refine lv_istore_n (lv' := [(2, .int x), (1, .int 0), (0, .int x)]) hx hb dX6_bits_3 rfl hl (by decide) rfl (fun ls hl => ?_)
  have lp4 : ∀ (fuel : Nat), ∀ (lf : Int32) (cn : Int32) (ff : Nat) (hff : lf.toBitVec.toNat ≤ ff) (hR : bitsV x = bitsF ff lf cn), ff < fuel → ∀ (H : Heap) (locs : List Loc) (ls : Array Slot), Wd G A s H locs ([]) → lv_has ls 3 [(0, .int x), (1, .int cn), (2, .int lf)] → W p l e (rmx 0 0) s m args below meth c H locs 0 0 Q (F0 m 4 ls []) := by
    intro fuel
    induction fuel with
    | zero => intro lf cn ff hff hR hfu; exact absurd hfu (Nat.not_lt_zero _)
    | succ fuel ih4 =>
      intro lf cn ff hff hR hfu H locs ls hw hl
      refine lv_iload_n hx hb dX6_bits_4 rfl (lv_at hl 2 rfl) ?_
      refine lv_if_eq (tgt := 20) hx hb dX6_bits_5 rfl (fun cq5 => ?_) (fun cq5 => ?_)
      · skip
        refine lv_iload_n hx hb dX6_bits_20 rfl (lv_at hl 1 rfl) ?_
        exact x_iret E hA rt hw dX6_bits_21 (by rw [hR, cq5, bitsF_0]) rfl
      · skip
        refine lv_iinc (v := cn + 1) (lv' := [(1, .int (cn + 1)), (0, .int x), (2, .int lf)]) hx hb dX6_bits_8 hl (k := 1) rfl (rfl) (by decide) rfl (fun ls hl => ?_)
        refine lv_iload_n hx hb dX6_bits_11 rfl (lv_at hl 2 rfl) ?_
        refine lv_iload_n hx hb dX6_bits_12 rfl (lv_at hl 2 rfl) ?_
        refine lv_iconst (v := 1) hx hb dX6_bits_13 rfl ?_
        refine lv_isub hx hb dX6_bits_14 ?_
        refine lv_iand hx hb dX6_bits_15 ?_
        refine lv_istore_n (lv' := [(2, .int (lf &&& (lf - 1))), (1, .int (cn + 1)), (0, .int x)]) hx hb dX6_bits_16 rfl hl (by decide) rfl (fun ls hl => ?_)
        refine lv_goto (tgt := 4) hx hb dX6_bits_17 rfl ?_
        exact ih4 (lf &&& (lf - 1)) (cn + 1) (ff - 1) (by have g1 := bits_lt cq5; omega) (by rw [hR, bitsF_step cq5 hff]) (by have g1 := i32_pos cq5; omega) _ _ _ hw (lv_sub hl [2, 1, 0] rfl)
  exact lp4 (x.toBitVec.toNat + 1) x 0 x.toBitVec.toNat (Nat.le_refl _) (rfl) (by omega) _ _ _ hw (lv_sub hl [2, 1, 0] rfl)
set_option maxHeartbeats 1000000 in
set_option maxRecDepth 100000 in
theorem c_copies (l : Launch) (G : GG) (q : Nat) (r : Nat) (xi : Int32) (i : Nat) (hv_xi : xi = nI i) (xj : Int32) (j : Nat) (hv_xj : xj = nI j) (xm : Int32) (mm : Nat) (hv_xm : xm = nI mm) (f : Nat → Int32) (g : Nat → Int32) (n1 : Nat) (n2 : Nat) (h1 : i + mm ≤ n1) (h2 : j + mm ≤ n2) (h3 : n1 < 2147483648) (h4 : n2 < 2147483648) : CT l G yX6_copies cX6_copies 6 none 0 0 [.ref q, .int xi, .ref r, .int xj, .int xm] ((aW G q n1 f) ++ (aW G r n2 g)) none ((aW G q n1 f) ++ (aW G r n2 (va_cpy f g i j mm))) := by
  refine CT.mk (own := RX6) (la := [(0, .ref q), (1, .int xi), (2, .ref r), (3, .int xj), (4, .int xm)]) (by decide) rfl (Nat.le_of_ble_eq_true rfl) rfl ?_
  intro p e s m args below meth c A Q E hA hw rt ls hl
  have hx := E.1
  have hb := E.2.1
  refine lv_iconst (v := 0) hx hb dX6_copies_0 rfl ?_
  refine lv_istore (lv' := [(5, .int 0), (0, .ref q), (1, .int xi), (2, .ref r), (3, .int xj), (4, .int xm)]) hx hb dX6_copies_1 hl (by decide) rfl (fun ls hl => ?_)
  have lp3 : ∀ (fuel : Nat), ∀ (k : Nat) (g' : Nat → Int32) (hk : k ≤ mm) (hg : g' = va_cpy f g i j k), (mm - k) < fuel → ∀ (H : Heap) (locs : List Loc) (ls : Array Slot), Wd G A s H locs ((aW G q n1 f) ++ (aW G r n2 g')) → lv_has ls 6 [(0, .ref q), (1, .int xi), (2, .ref r), (3, .int xj), (4, .int xm), (5, .int (nI k))] → W p l e (rmx 0 0) s m args below meth c H locs 0 0 Q (F0 m 3 ls []) := by
    intro fuel
    induction fuel with
    | zero => intro k g' hk hg hfu; exact absurd hfu (Nat.not_lt_zero _)
    | succ fuel ih3 =>
      intro k g' hk hg hfu H locs ls hw hl
      refine lv_iload hx hb dX6_copies_3 (lv_at hl 5 rfl) ?_
      refine lv_iload hx hb dX6_copies_5 (lv_at hl 4 rfl) ?_
      refine lv_icmp_ge (tgt := 28) hx hb dX6_copies_7 rfl (fun cq7 => ?_) (fun cq7 => ?_)
      · skip
        have cq7 : mm ≤ k := (cv_le (a := mm) (b := k) hv_xm rfl (by omega) (by omega)).mp cq7
        have ek : k = mm := by omega
        exact x_vret E hA rt hw dX6_copies_28 (by rw [hg, ek])
      · skip
        have cq7 : ¬ mm ≤ k := fun h => cq7 ((cv_le (a := mm) (b := k) hv_xm rfl (by omega) (by omega)).mpr h)
        refine lv_aload_n hx hb dX6_copies_10 rfl (lv_at hl 2 rfl) ?_
        refine lv_iload_n hx hb dX6_copies_11 rfl (lv_at hl 3 rfl) ?_
        refine lv_iload hx hb dX6_copies_12 (lv_at hl 5 rfl) ?_
        refine lv_iadd hx hb dX6_copies_14 ?_
        refine lv_aload_n hx hb dX6_copies_15 rfl (lv_at hl 0 rfl) ?_
        refine lv_iload_n hx hb dX6_copies_16 rfl (lv_at hl 1 rfl) ?_
        refine lv_iload hx hb dX6_copies_17 (lv_at hl 5 rfl) ?_
        refine lv_iadd hx hb dX6_copies_19 ?_
        refine x_iald E hw 0 rfl (i + k) ((ix_add (a := i) (b := k) hv_xi rfl)) (by omega) (by omega) dX6_copies_20 ?_
        refine x_iast (ws' := (aW G q n1 f) ++ (aW G r n2 (upd g' (j + k) (f (i + k))))) E hw 1 rfl (j + k) ((ix_add (a := j) (b := k) hv_xj rfl)) (by omega) (by omega) dX6_copies_21 rfl (fun H locs hw => ?_)
        refine lv_iinc (v := nI (k + 1)) (lv' := [(5, .int (nI (k + 1))), (0, .ref q), (1, .int xi), (2, .ref r), (3, .int xj), (4, .int xm)]) hx hb dX6_copies_22 hl (k := 5) rfl (nI_add _ 1) (by decide) rfl (fun ls hl => ?_)
        refine lv_goto (tgt := 3) hx hb dX6_copies_25 rfl ?_
        exact ih3 (k + 1) (upd g' (j + k) (f (i + k))) (by omega) (by rw [hg, cpy_step]) (by omega) _ _ _ hw (lv_sub hl [1, 2, 3, 4, 5, 0] rfl)
  exact lp3 (mm - 0 + 1) 0 g (by omega) ((cpy_0 _ _ _ _).symm) (by omega) _ _ _ hw (lv_sub hl [1, 2, 3, 4, 5, 0] rfl)
set_option maxHeartbeats 1000000 in
set_option maxRecDepth 100000 in
theorem c_copiesS (l : Launch) (G : GG) (q : Nat) (xi : Int32) (i : Nat) (hv_xi : xi = nI i) (xj : Int32) (j : Nat) (hv_xj : xj = nI j) (xm : Int32) (mm : Nat) (hv_xm : xm = nI mm) (f : Nat → Int32) (n1 : Nat) (h1 : i + mm ≤ n1) (h2 : j + mm ≤ n1) (h3 : n1 < 2147483648) (hds : i + mm ≤ j ∨ j + mm ≤ i) : CT l G yX6_copies cX6_copies 6 none 0 0 [.ref q, .int xi, .ref q, .int xj, .int xm] (aW G q n1 f) none (aW G q n1 (va_cpy f f i j mm)) := by
  refine CT.mk (own := RX6) (la := [(0, .ref q), (1, .int xi), (2, .ref q), (3, .int xj), (4, .int xm)]) (by decide) rfl (Nat.le_of_ble_eq_true rfl) rfl ?_
  intro p e s m args below meth c A Q E hA hw rt ls hl
  have hx := E.1
  have hb := E.2.1
  refine lv_iconst (v := 0) hx hb dX6_copies_0 rfl ?_
  refine lv_istore (lv' := [(5, .int 0), (0, .ref q), (1, .int xi), (2, .ref q), (3, .int xj), (4, .int xm)]) hx hb dX6_copies_1 hl (by decide) rfl (fun ls hl => ?_)
  have lp3 : ∀ (fuel : Nat), ∀ (k : Nat) (g' : Nat → Int32) (hk : k ≤ mm) (hg : g' = va_cpy f f i j k), (mm - k) < fuel → ∀ (H : Heap) (locs : List Loc) (ls : Array Slot), Wd G A s H locs (aW G q n1 g') → lv_has ls 6 [(0, .ref q), (1, .int xi), (2, .ref q), (3, .int xj), (4, .int xm), (5, .int (nI k))] → W p l e (rmx 0 0) s m args below meth c H locs 0 0 Q (F0 m 3 ls []) := by
    intro fuel
    induction fuel with
    | zero => intro k g' hk hg hfu; exact absurd hfu (Nat.not_lt_zero _)
    | succ fuel ih3 =>
      intro k g' hk hg hfu H locs ls hw hl
      refine lv_iload hx hb dX6_copies_3 (lv_at hl 5 rfl) ?_
      refine lv_iload hx hb dX6_copies_5 (lv_at hl 4 rfl) ?_
      refine lv_icmp_ge (tgt := 28) hx hb dX6_copies_7 rfl (fun cq7 => ?_) (fun cq7 => ?_)
      · skip
        have cq7 : mm ≤ k := (cv_le (a := mm) (b := k) hv_xm rfl (by omega) (by omega)).mp cq7
        have ek : k = mm := by omega
        exact x_vret E hA rt hw dX6_copies_28 (by rw [hg, ek])
      · skip
        have cq7 : ¬ mm ≤ k := fun h => cq7 ((cv_le (a := mm) (b := k) hv_xm rfl (by omega) (by omega)).mpr h)
        refine lv_aload_n hx hb dX6_copies_10 rfl (lv_at hl 2 rfl) ?_
        refine lv_iload_n hx hb dX6_copies_11 rfl (lv_at hl 3 rfl) ?_
        refine lv_iload hx hb dX6_copies_12 (lv_at hl 5 rfl) ?_
        refine lv_iadd hx hb dX6_copies_14 ?_
        refine lv_aload_n hx hb dX6_copies_15 rfl (lv_at hl 0 rfl) ?_
        refine lv_iload_n hx hb dX6_copies_16 rfl (lv_at hl 1 rfl) ?_
        refine lv_iload hx hb dX6_copies_17 (lv_at hl 5 rfl) ?_
        refine lv_iadd hx hb dX6_copies_19 ?_
        refine x_iald E hw 0 rfl (i + k) ((ix_add (a := i) (b := k) hv_xi rfl)) (by omega) (by omega) dX6_copies_20 ?_
        refine x_iast (ws' := aW G q n1 (upd g' (j + k) (g' (i + k)))) E hw 0 rfl (j + k) ((ix_add (a := j) (b := k) hv_xj rfl)) (by omega) (by omega) dX6_copies_21 rfl (fun H locs hw => ?_)
        refine lv_iinc (v := nI (k + 1)) (lv' := [(5, .int (nI (k + 1))), (0, .ref q), (1, .int xi), (2, .ref q), (3, .int xj), (4, .int xm)]) hx hb dX6_copies_22 hl (k := 5) rfl (nI_add _ 1) (by decide) rfl (fun ls hl => ?_)
        refine lv_goto (tgt := 3) hx hb dX6_copies_25 rfl ?_
        exact ih3 (k + 1) (upd g' (j + k) (g' (i + k))) (by omega) (by rw [hg, cpy_stepS f i j mm k (by omega) hds]) (by omega) _ _ _ hw (lv_sub hl [1, 2, 3, 4, 5, 0] rfl)
  exact lp3 (mm - 0 + 1) 0 f (by omega) ((cpy_0 _ _ _ _).symm) (by omega) _ _ _ hw (lv_sub hl [1, 2, 3, 4, 5, 0] rfl)
set_option maxHeartbeats 1000000 in
set_option maxRecDepth 100000 in
theorem c_X6_begins (l : Launch) (G : GG) (q : Nat) (x : Int32) (t : Nat → Int32) : CT l G yX6_begins cX6_begins 3 none 0 0 [.ref q, .int x] (aW G q 255 t) none (aW G q 255 (upd bg0 20 x)) := by
  refine CT.mk (own := RX6) (la := [(0, .ref q), (1, .int x)]) (by decide) rfl (Nat.le_of_ble_eq_true rfl) rfl ?_
  intro p e s m args below meth c A Q E hA hw rt ls hl
  have hx := E.1
  have hb := E.2.1
  refine lv_iconst (v := 0) hx hb dX6_begins_0 rfl ?_
  refine lv_istore_n (lv' := [(2, .int 0), (0, .ref q), (1, .int x)]) hx hb dX6_begins_1 rfl hl (by decide) rfl (fun ls hl => ?_)
  have lp2 : ∀ (fuel : Nat), ∀ (k : Nat) (t' : Nat → Int32) (hk : k ≤ 255) (ht : t' = pre bg0 t k), (255 - k) < fuel → ∀ (H : Heap) (locs : List Loc) (ls : Array Slot), Wd G A s H locs (aW G q 255 t') → lv_has ls 3 [(0, .ref q), (1, .int x), (2, .int (nI k))] → W p l e (rmx 0 0) s m args below meth c H locs 0 0 Q (F0 m 2 ls []) := by
    intro fuel
    induction fuel with
    | zero => intro k t' hk ht hfu; exact absurd hfu (Nat.not_lt_zero _)
    | succ fuel ih2 =>
      intro k t' hk ht hfu H locs ls hw hl
      refine lv_iload_n hx hb dX6_begins_2 rfl (lv_at hl 2 rfl) ?_
      refine lv_sipush (v := 255) hx hb dX6_begins_3 rfl ?_
      refine lv_icmp_ge (tgt := 29) hx hb dX6_begins_6 rfl (fun cq6 => ?_) (fun cq6 => ?_)
      · skip
        have cq6 : 255 ≤ k := (cv_le (a := 255) (b := k) rfl rfl (by omega) (by omega)).mp cq6
        have hw := Wd.arr (ws' := aW G q 255 bg0) (g := bg0) hw 0 rfl (fun j hj => by rw [ht, pre_lt _ _ (by omega)]) rfl
        refine lv_aload_n hx hb dX6_begins_29 rfl (lv_at hl 0 rfl) ?_
        refine lv_bipush (v := 20) hx hb dX6_begins_30 rfl ?_
        refine lv_iload_n hx hb dX6_begins_32 rfl (lv_at hl 1 rfl) ?_
        refine x_iast (ws' := aW G q 255 (upd bg0 20 x)) E hw 0 rfl 20 (rfl) (by omega) (by omega) dX6_begins_33 rfl (fun H locs hw => ?_)
        exact x_vret E hA rt hw dX6_begins_34 rfl
      · skip
        have cq6 : ¬ 255 ≤ k := fun h => cq6 ((cv_le (a := 255) (b := k) rfl rfl (by omega) (by omega)).mpr h)
        refine lv_aload_n hx hb dX6_begins_9 rfl (lv_at hl 0 rfl) ?_
        refine lv_iload_n hx hb dX6_begins_10 rfl (lv_at hl 2 rfl) ?_
        refine lv_iload_n hx hb dX6_begins_11 rfl (lv_at hl 2 rfl) ?_
        refine lv_bipush (v := 6) hx hb dX6_begins_12 rfl ?_
        refine lv_icmp_ge (tgt := 21) hx hb dX6_begins_14 rfl (fun cq14 => ?_) (fun cq14 => ?_)
        · skip
          have cq14 : 6 ≤ k := (cv_le (a := 6) (b := k) rfl rfl (by omega) (by omega)).mp cq14
          refine lv_iconst (v := 0) hx hb dX6_begins_21 rfl ?_
          refine x_iast (ws' := aW G q 255 (upd t' k 0)) E hw 0 rfl k (rfl) (by omega) (by omega) dX6_begins_22 rfl (fun H locs hw => ?_)
          refine lv_iinc (v := nI (k + 1)) (lv' := [(2, .int (nI (k + 1))), (0, .ref q), (1, .int x)]) hx hb dX6_begins_23 hl (k := 2) rfl (nI_add _ 1) (by decide) rfl (fun ls hl => ?_)
          refine lv_goto (tgt := 2) hx hb dX6_begins_26 rfl ?_
          exact ih2 (k + 1) (upd t' k 0) (by omega) (by rw [ht, ← pre_upd, bg0, if_neg (by omega)]) (by omega) _ _ _ hw (lv_sub hl [1, 2, 0] rfl)
        · skip
          have cq14 : ¬ 6 ≤ k := fun h => cq14 ((cv_le (a := 6) (b := k) rfl rfl (by omega) (by omega)).mpr h)
          refine lv_iconst (v := -1) hx hb dX6_begins_17 rfl ?_
          refine lv_goto (tgt := 22) hx hb dX6_begins_18 rfl ?_
          refine x_iast (ws' := aW G q 255 (upd t' k (-1))) E hw 0 rfl k (rfl) (by omega) (by omega) dX6_begins_22 rfl (fun H locs hw => ?_)
          refine lv_iinc (v := nI (k + 1)) (lv' := [(2, .int (nI (k + 1))), (0, .ref q), (1, .int x)]) hx hb dX6_begins_23 hl (k := 2) rfl (nI_add _ 1) (by decide) rfl (fun ls hl => ?_)
          refine lv_goto (tgt := 2) hx hb dX6_begins_26 rfl ?_
          exact ih2 (k + 1) (upd t' k (-1)) (by omega) (by rw [ht, ← pre_upd, bg0, if_pos (by omega)]) (by omega) _ _ _ hw (lv_sub hl [1, 2, 0] rfl)
  exact lp2 (255 - 0 + 1) 0 t (by omega) ((pre_0 _ _).symm) (by omega) _ _ _ hw (lv_sub hl [1, 2, 0] rfl)
set_option maxHeartbeats 1000000 in
set_option maxRecDepth 100000 in
theorem c_X6_whoIs (l : Launch) (G : GG) (q : Nat) (w : Int32) (t : Nat → Int32) (len : Nat) (n : Nat) (h35 : 35 ≤ len) (hlen : len < 2147483648) (hc : t 22 = nI n) (hn : n ≤ 6) : CT l G yX6_whoIs cX6_whoIs 3 (some .int) 0 0 [.ref q, .int w] (aW G q len t) (some (.int (fi t w n 0))) (aW G q len t) := by
  refine CT.mk (own := RX6) (la := [(0, .ref q), (1, .int w)]) (by decide) rfl (Nat.le_of_ble_eq_true rfl) rfl ?_
  intro p e s m args below meth c A Q E hA hw rt ls hl
  have hx := E.1
  have hb := E.2.1
  refine lv_iconst (v := 0) hx hb dX6_whoIs_0 rfl ?_
  refine lv_istore_n (lv' := [(2, .int 0), (0, .ref q), (1, .int w)]) hx hb dX6_whoIs_1 rfl hl (by decide) rfl (fun ls hl => ?_)
  have lp2 : ∀ (fuel : Nat), ∀ (k : Nat) (hk : k ≤ n) (hiv : fi t w n 0 = fi t w (n - k) k), (n - k) < fuel → ∀ (H : Heap) (locs : List Loc) (ls : Array Slot), Wd G A s H locs (aW G q len t) → lv_has ls 3 [(0, .ref q), (1, .int w), (2, .int (nI k))] → W p l e (rmx 0 0) s m args below meth c H locs 0 0 Q (F0 m 2 ls []) := by
    intro fuel
    induction fuel with
    | zero => intro k hk hiv hfu; exact absurd hfu (Nat.not_lt_zero _)
    | succ fuel ih2 =>
      intro k hk hiv hfu H locs ls hw hl
      refine lv_iload_n hx hb dX6_whoIs_2 rfl (lv_at hl 2 rfl) ?_
      refine lv_aload_n hx hb dX6_whoIs_3 rfl (lv_at hl 0 rfl) ?_
      refine lv_bipush (v := 22) hx hb dX6_whoIs_4 rfl ?_
      refine x_iald E hw 0 rfl 22 (rfl) (by omega) (by omega) dX6_whoIs_6 ?_
      refine lv_icmp_ge (tgt := 27) hx hb dX6_whoIs_7 rfl (fun cq7 => ?_) (fun cq7 => ?_)
      · skip
        have cq7 : n ≤ k := (cv_le (a := n) (b := k) hc rfl (by omega) (by omega)).mp cq7
        refine lv_iconst (v := -1) hx hb dX6_whoIs_27 rfl ?_
        exact x_iret E hA rt hw dX6_whoIs_28 (by rw [hiv, fi_end (by omega)]) rfl
      · skip
        have cq7 : ¬ n ≤ k := fun h => cq7 ((cv_le (a := n) (b := k) hc rfl (by omega) (by omega)).mpr h)
        refine lv_aload_n hx hb dX6_whoIs_10 rfl (lv_at hl 0 rfl) ?_
        refine lv_iconst (v := 0) hx hb dX6_whoIs_11 rfl ?_
        refine lv_iload_n hx hb dX6_whoIs_12 rfl (lv_at hl 2 rfl) ?_
        refine lv_iadd hx hb dX6_whoIs_13 ?_
        refine x_iald E hw 0 rfl k ((ix_0add (b := k) rfl)) (by omega) (by omega) dX6_whoIs_14 ?_
        refine lv_iload_n hx hb dX6_whoIs_15 rfl (lv_at hl 1 rfl) ?_
        refine lv_icmp_ne (tgt := 21) hx hb dX6_whoIs_16 rfl (fun cq16 => ?_) (fun cq16 => ?_)
        · skip
          refine lv_iinc (v := nI (k + 1)) (lv' := [(2, .int (nI (k + 1))), (0, .ref q), (1, .int w)]) hx hb dX6_whoIs_21 hl (k := 2) rfl (nI_add _ 1) (by decide) rfl (fun ls hl => ?_)
          refine lv_goto (tgt := 2) hx hb dX6_whoIs_24 rfl ?_
          exact ih2 (k + 1) (by omega) (by rw [hiv, fi_step (by omega), if_neg cq16]) (by omega) _ _ _ hw (lv_sub hl [1, 2, 0] rfl)
        · skip
          refine lv_iload_n hx hb dX6_whoIs_19 rfl (lv_at hl 2 rfl) ?_
          exact x_iret E hA rt hw dX6_whoIs_20 (by rw [hiv, fi_step (by omega), if_pos cq16]) rfl
  exact lp2 (n - 0 + 1) 0 (by omega) (rfl) (by omega) _ _ _ hw (lv_sub hl [1, 2, 0] rfl)
set_option maxHeartbeats 1000000 in
set_option maxRecDepth 100000 in
theorem c_X6_comes (l : Launch) (G : GG) (q : Nat) (xk : Int32) (xs : Int32) (xw : Int32) (xh : Int32) (t : Nat → Int32) (len : Nat) (n : Nat) (h35 : 35 ≤ len) (hlen : len < 2147483648) (hc : t 22 = nI n) (hn : n < 6) : CT l G yX6_comes cX6_comes 6 none 0 0 [.ref q, .int xk, .int xs, .int xw, .int xh] (aW G q len t) none (aW G q len (upd (upd (upd (upd (upd t (23 + n) xk) n xs) (29 + n) xw) (6 + n) xh) 22 (nI (n + 1)))) := by
  refine CT.mk (own := RX6) (la := [(0, .ref q), (1, .int xk), (2, .int xs), (3, .int xw), (4, .int xh)]) (by decide) rfl (Nat.le_of_ble_eq_true rfl) rfl ?_
  intro p e s m args below meth c A Q E hA hw rt ls hl
  have hx := E.1
  have hb := E.2.1
  refine lv_aload_n hx hb dX6_comes_0 rfl (lv_at hl 0 rfl) ?_
  refine lv_bipush (v := 22) hx hb dX6_comes_1 rfl ?_
  refine x_iald E hw 0 rfl 22 (rfl) (by omega) (by omega) dX6_comes_3 ?_
  refine lv_istore (lv' := [(5, .int (t 22)), (0, .ref q), (1, .int xk), (2, .int xs), (3, .int xw), (4, .int xh)]) hx hb dX6_comes_4 hl (by decide) rfl (fun ls hl => ?_)
  refine lv_aload_n hx hb dX6_comes_6 rfl (lv_at hl 1 rfl) ?_
  refine lv_bipush (v := 23) hx hb dX6_comes_7 rfl ?_
  refine lv_iload hx hb dX6_comes_9 (lv_at hl 0 rfl) ?_
  refine lv_iadd hx hb dX6_comes_11 ?_
  refine lv_iload_n hx hb dX6_comes_12 rfl (lv_at hl 2 rfl) ?_
  refine x_iast (ws' := aW G q len (upd t (23 + n) xk)) E hw 0 rfl (23 + n) ((ix_add (a := 23) (b := n) rfl hc)) (by omega) (by omega) dX6_comes_13 rfl (fun H locs hw => ?_)
  refine lv_aload_n hx hb dX6_comes_14 rfl (lv_at hl 1 rfl) ?_
  refine lv_iconst (v := 0) hx hb dX6_comes_15 rfl ?_
  refine lv_iload hx hb dX6_comes_16 (lv_at hl 0 rfl) ?_
  refine lv_iadd hx hb dX6_comes_18 ?_
  refine lv_iload_n hx hb dX6_comes_19 rfl (lv_at hl 3 rfl) ?_
  refine x_iast (ws' := aW G q len (upd (upd t (23 + n) xk) n xs)) E hw 0 rfl n ((ix_0add (b := n) hc)) (by omega) (by omega) dX6_comes_20 rfl (fun H locs hw => ?_)
  refine lv_aload_n hx hb dX6_comes_21 rfl (lv_at hl 1 rfl) ?_
  refine lv_bipush (v := 29) hx hb dX6_comes_22 rfl ?_
  refine lv_iload hx hb dX6_comes_24 (lv_at hl 0 rfl) ?_
  refine lv_iadd hx hb dX6_comes_26 ?_
  refine lv_iload_n hx hb dX6_comes_27 rfl (lv_at hl 4 rfl) ?_
  refine x_iast (ws' := aW G q len (upd (upd (upd t (23 + n) xk) n xs) (29 + n) xw)) E hw 0 rfl (29 + n) ((ix_add (a := 29) (b := n) rfl hc)) (by omega) (by omega) dX6_comes_28 rfl (fun H locs hw => ?_)
  refine lv_aload_n hx hb dX6_comes_29 rfl (lv_at hl 1 rfl) ?_
  refine lv_bipush (v := 6) hx hb dX6_comes_30 rfl ?_
  refine lv_iload hx hb dX6_comes_32 (lv_at hl 0 rfl) ?_
  refine lv_iadd hx hb dX6_comes_34 ?_
  refine lv_iload hx hb dX6_comes_35 (lv_at hl 5 rfl) ?_
  refine x_iast (ws' := aW G q len (upd (upd (upd (upd t (23 + n) xk) n xs) (29 + n) xw) (6 + n) xh)) E hw 0 rfl (6 + n) ((ix_add (a := 6) (b := n) rfl hc)) (by omega) (by omega) dX6_comes_37 rfl (fun H locs hw => ?_)
  refine lv_aload_n hx hb dX6_comes_38 rfl (lv_at hl 1 rfl) ?_
  refine lv_bipush (v := 22) hx hb dX6_comes_39 rfl ?_
  refine lv_dup2_11 hx hb dX6_comes_41 rfl rfl ?_
  refine x_iald E hw 0 rfl 22 (rfl) (by omega) (by omega) dX6_comes_42 ?_
  refine lv_iconst (v := 1) hx hb dX6_comes_43 rfl ?_
  refine lv_iadd hx hb dX6_comes_44 ?_
  refine x_topi (y := nI (n + 1)) (by rw [upd_ne _ _ (by omega), upd_ne _ _ (by omega), upd_ne _ _ (by omega), upd_ne _ _ (by omega), hc]; exact nI_add n 1) ?_
  refine x_iast (ws' := aW G q len (upd (upd (upd (upd (upd t (23 + n) xk) n xs) (29 + n) xw) (6 + n) xh) 22 (nI (n + 1)))) E hw 0 rfl 22 (rfl) (by omega) (by omega) dX6_comes_45 rfl (fun H locs hw => ?_)
  exact x_vret E hA rt hw dX6_comes_46 rfl
set_option maxHeartbeats 1000000 in
set_option maxRecDepth 100000 in
theorem c_X6_lesser (l : Launch) (G : GG) (v : Int32) (y : Int32) : CT l G yX6_lesser cX6_lesser 2 (some .int) 0 0 [.int v, .int y] ([]) (some (.int (lsr v y))) ([]) := by
  refine CT.mk (own := RX6) (la := [(0, .int v), (1, .int y)]) (by decide) rfl (Nat.le_of_ble_eq_true rfl) rfl ?_
  intro p e s m args below meth c A Q E hA hw rt ls hl
  have hx := E.1
  have hb := E.2.1
  refine lv_iload_n hx hb dX6_lesser_0 rfl (lv_at hl 0 rfl) ?_
  refine lv_iload_n hx hb dX6_lesser_1 rfl (lv_at hl 1 rfl) ?_
  refine lv_icmp_le (tgt := 11) hx hb dX6_lesser_2 rfl (fun cq2 => ?_) (fun cq2 => ?_)
  · skip
    refine lv_iconst (v := 0) hx hb dX6_lesser_11 rfl ?_
    exact x_iret E hA rt hw dX6_lesser_12 (by simp [lsr, cq2]) rfl
  · skip
    refine lv_iload_n hx hb dX6_lesser_5 rfl (lv_at hl 0 rfl) ?_
    refine lv_iload_n hx hb dX6_lesser_6 rfl (lv_at hl 1 rfl) ?_
    refine lv_isub hx hb dX6_lesser_7 ?_
    refine lv_goto (tgt := 12) hx hb dX6_lesser_8 rfl ?_
    exact x_iret E hA rt hw dX6_lesser_12 (by simp [lsr, cq2]) rfl
set_option maxHeartbeats 1000000 in
set_option maxRecDepth 100000 in
theorem c_X6_nearAs (l : Launch) (G : GG) (k : Int32) (h : Int32) (t : Int32) (w : Int32) (b : Int32) (lt : Int32) : CT l G yX6_nearAs cX6_nearAs 8 (some .int) 1 21 [.int k, .int h, .int t, .int w, .int b, .int lt] ([]) (some (.int (nm k h t w b lt))) ([]) := by
  refine CT.mk (own := RX6) (la := [(0, .int k), (1, .int h), (2, .int t), (3, .int w), (4, .int b), (5, .int lt)]) (by decide) rfl (Nat.le_of_ble_eq_true rfl) rfl ?_
  intro p e s m args below meth c A Q E hA hw rt ls hl
  have hx := E.1
  have hb := E.2.1
  refine lv_iload_n hx hb dX6_nearAs_0 rfl (lv_at hl 1 rfl) ?_
  refine lv_iconst (v := 3) hx hb dX6_nearAs_1 rfl ?_
  refine lv_iload_n hx hb dX6_nearAs_2 rfl (lv_at hl 2 rfl) ?_
  refine lv_imul hx hb dX6_nearAs_3 ?_
  refine lv_iadd hx hb dX6_nearAs_4 ?_
  refine lv_iload_n hx hb dX6_nearAs_5 rfl (lv_at hl 3 rfl) ?_
  refine lv_iconst (v := 2) hx hb dX6_nearAs_6 rfl ?_
  refine lv_idiv hx hb dX6_nearAs_7 (by decide) ?_
  refine lv_isub hx hb dX6_nearAs_8 ?_
  refine lv_istore (lv' := [(6, .int ((h + (3 * t)) - (w / 2))), (0, .int k), (1, .int h), (2, .int t), (3, .int w), (4, .int b), (5, .int lt)]) hx hb dX6_nearAs_9 hl (by decide) rfl (fun ls hl => ?_)
  have jn22 : ∀ (H : Heap) (locs : List Loc) (ls : Array Slot), Wd G A s H locs ([]) → lv_has ls 8 [(0, .int k), (1, .int h), (2, .int t), (3, .int w), (4, .int b), (5, .int lt), (6, .int ((h + (3 * t)) - (w / 2)))] → W p l e (rmx 1 21) s m args below meth c H locs 0 0 Q (F0 m 22 ls [.int (nmP h t w)]) := by
    intro   H locs ls hw hl
    refine lv_istore (lv' := [(6, .int (nmP h t w)), (0, .int k), (1, .int h), (2, .int t), (3, .int w), (4, .int b), (5, .int lt)]) hx hb dX6_nearAs_22 hl (by decide) rfl (fun ls hl => ?_)
    refine lv_iload hx hb dX6_nearAs_24 (lv_at hl 0 rfl) ?_
    refine lv_iload_n hx hb dX6_nearAs_26 rfl (lv_at hl 4 rfl) ?_
    refine lv_iconst (v := 2) hx hb dX6_nearAs_27 rfl ?_
    refine lv_idiv hx hb dX6_nearAs_28 (by decide) ?_
    refine x_callS (is := []) (As := [.int (nmP h t w), .int (w / 2)]) (rest := []) (st1 := [.int (lsr (nmP h t w) (w / 2))]) E (c_X6_lesser l G (nmP h t w) (w / 2)) sw_X6_128 hw [] rfl rfl rfl rfl hl.1 rfl rfl (Nat.le_of_ble_eq_true rfl) ⟨Nat.le_of_ble_eq_true rfl, Nat.le_of_ble_eq_true rfl⟩ (Nat.zero_le _) (Nat.zero_le _) dX6_nearAs_29 rfl rfl (fun H locs hw => ?_)
    refine lv_istore (lv' := [(7, .int (lsr (nmP h t w) (w / 2))), (6, .int (nmP h t w)), (0, .int k), (1, .int h), (2, .int t), (3, .int w), (4, .int b), (5, .int lt)]) hx hb dX6_nearAs_32 hl (by decide) rfl (fun ls hl => ?_)
    refine lv_iload_n hx hb dX6_nearAs_34 rfl (lv_at hl 2 rfl) ?_
    by_cases cq35_1 : k = (1 : Int32)
    · skip
      refine lv_tableIn (off := 33) (tgt := 68) hx hb dX6_nearAs_35 (by rw [cq35_1]; decide) (by rw [cq35_1]; decide) (by rw [cq35_1]; rfl) rfl ?_
      refine lv_iload hx hb dX6_nearAs_68 (lv_at hl 1 rfl) ?_
      refine lv_iconst (v := 4) hx hb dX6_nearAs_70 rfl ?_
      refine lv_iadd hx hb dX6_nearAs_71 ?_
      exact x_iret E hA rt hw dX6_nearAs_72 (by simp [nm, cq35_1]) rfl
    by_cases cq35_2 : k = (2 : Int32)
    · skip
      refine lv_tableIn (off := 38) (tgt := 73) hx hb dX6_nearAs_35 (by rw [cq35_2]; decide) (by rw [cq35_2]; decide) (by rw [cq35_2]; rfl) rfl ?_
      refine lv_iload hx hb dX6_nearAs_73 (lv_at hl 0 rfl) ?_
      exact x_iret E hA rt hw dX6_nearAs_75 (by simp [nm, cq35_1, cq35_2]) rfl
    by_cases cq35_3 : k = (3 : Int32)
    · skip
      refine lv_tableIn (off := 41) (tgt := 76) hx hb dX6_nearAs_35 (by rw [cq35_3]; decide) (by rw [cq35_3]; decide) (by rw [cq35_3]; rfl) rfl ?_
      refine lv_iload hx hb dX6_nearAs_76 (lv_at hl 1 rfl) ?_
      refine lv_iconst (v := 3) hx hb dX6_nearAs_78 rfl ?_
      refine lv_iload hx hb dX6_nearAs_79 (lv_at hl 7 rfl) ?_
      refine lv_imul hx hb dX6_nearAs_81 ?_
      refine lv_iadd hx hb dX6_nearAs_82 ?_
      exact x_iret E hA rt hw dX6_nearAs_83 (by simp [nm, cq35_1, cq35_2, cq35_3]) rfl
    by_cases cq35_4 : k = (4 : Int32)
    · skip
      refine lv_tableIn (off := 49) (tgt := 84) hx hb dX6_nearAs_35 (by rw [cq35_4]; decide) (by rw [cq35_4]; decide) (by rw [cq35_4]; rfl) rfl ?_
      refine lv_iload hx hb dX6_nearAs_84 (lv_at hl 1 rfl) ?_
      refine lv_iconst (v := 3) hx hb dX6_nearAs_86 rfl ?_
      refine lv_iload hx hb dX6_nearAs_87 (lv_at hl 7 rfl) ?_
      refine lv_imul hx hb dX6_nearAs_89 ?_
      refine lv_iadd hx hb dX6_nearAs_90 ?_
      refine lv_iconst (v := 2) hx hb dX6_nearAs_91 rfl ?_
      refine lv_iload hx hb dX6_nearAs_92 (lv_at hl 6 rfl) ?_
      refine lv_imul hx hb dX6_nearAs_94 ?_
      refine lv_iadd hx hb dX6_nearAs_95 ?_
      exact x_iret E hA rt hw dX6_nearAs_96 (by simp [nm, cq35_1, cq35_2, cq35_3, cq35_4]) rfl
    by_cases cq35_5 : k = (5 : Int32)
    · skip
      refine lv_tableIn (off := 62) (tgt := 97) hx hb dX6_nearAs_35 (by rw [cq35_5]; decide) (by rw [cq35_5]; decide) (by rw [cq35_5]; rfl) rfl ?_
      refine lv_iload hx hb dX6_nearAs_97 (lv_at hl 0 rfl) ?_
      refine lv_iconst (v := 2) hx hb dX6_nearAs_99 rfl ?_
      refine lv_idiv hx hb dX6_nearAs_100 (by decide) ?_
      exact x_iret E hA rt hw dX6_nearAs_101 (by simp [nm, cq35_1, cq35_2, cq35_3, cq35_4, cq35_5]) rfl
    refine lv_tableOut (tgt := 102) hx hb dX6_nearAs_35 (by have g1 := lv_neT (a := 1) cq35_1 rfl; have g2 := lv_neT (a := 2) cq35_2 rfl; have g3 := lv_neT (a := 3) cq35_3 rfl; have g4 := lv_neT (a := 4) cq35_4 rfl; have g5 := lv_neT (a := 5) cq35_5 rfl; omega) rfl ?_
    refine lv_iload hx hb dX6_nearAs_102 (lv_at hl 1 rfl) ?_
    exact x_iret E hA rt hw dX6_nearAs_104 (by simp [nm, cq35_1, cq35_2, cq35_3, cq35_4, cq35_5]) rfl
  refine lv_iload hx hb dX6_nearAs_11 (lv_at hl 0 rfl) ?_
  refine lv_if_ge (tgt := 20) hx hb dX6_nearAs_13 rfl (fun cq13 => ?_) (fun cq13 => ?_)
  · skip
    refine lv_iload hx hb dX6_nearAs_20 (lv_at hl 0 rfl) ?_
    refine x_topi (y := nmP h t w) (by simp [nmP, cq13]) ?_
    exact jn22    _ _ _ hw (lv_sub hl [1, 2, 3, 4, 5, 6, 0] rfl)
  · skip
    refine lv_iconst (v := 0) hx hb dX6_nearAs_16 rfl ?_
    refine lv_goto (tgt := 22) hx hb dX6_nearAs_17 rfl ?_
    refine x_topi (y := nmP h t w) (by simp [nmP, cq13]) ?_
    exact jn22    _ _ _ hw (lv_sub hl [1, 2, 3, 4, 5, 6, 0] rfl)
set_option maxHeartbeats 1000000 in
set_option maxRecDepth 100000 in
theorem c_X6_tight (l : Launch) (G : GG) (q : Nat) (i : Int32) (k : Nat) (hv_i : i = nI k) (t : Nat → Int32) (len : Nat) (n : Nat) (h35 : 35 ≤ len) (hlen : len < 2147483648) (hc : t 22 = nI n) (hn : n ≤ 6) (hk : k < 6) : CT l G yX6_tight cX6_tight 4 (some .int) 1 22 [.ref q, .int i] (aW G q len t) (some (.int (tgM t n (t k)))) (aW G q len t) := by
  refine CT.mk (own := RX6) (la := [(0, .ref q), (1, .int i)]) (by decide) rfl (Nat.le_of_ble_eq_true rfl) rfl ?_
  intro p e s m args below meth c A Q E hA hw rt ls hl
  have hx := E.1
  have hb := E.2.1
  refine lv_aload_n hx hb dX6_tight_0 rfl (lv_at hl 0 rfl) ?_
  refine lv_aload_n hx hb dX6_tight_1 rfl (lv_at hl 0 rfl) ?_
  refine lv_iconst (v := 0) hx hb dX6_tight_2 rfl ?_
  refine lv_iload_n hx hb dX6_tight_3 rfl (lv_at hl 1 rfl) ?_
  refine lv_iadd hx hb dX6_tight_4 ?_
  refine x_iald E hw 0 rfl k ((ix_0add (b := k) hv_i)) (by omega) (by omega) dX6_tight_5 ?_
  refine lv_iconst (v := 1) hx hb dX6_tight_6 rfl ?_
  refine lv_iadd hx hb dX6_tight_7 ?_
  refine lv_bipush (v := 8) hx hb dX6_tight_8 rfl ?_
  refine lv_irem hx hb dX6_tight_10 (by decide) ?_
  refine x_topi (y := nxS (t k)) (rfl) ?_
  refine x_callS (is := [0]) (As := [.ref q, .int (nxS (t k))]) (rest := []) (st1 := [.int (fi t (nxS (t k)) n 0)]) (ws' := aW G q len t) E (c_X6_whoIs l G q (nxS (t k)) t len n (by omega) (by omega) (hc) (by omega)) sw_X6_73 hw [0] rfl rfl rfl rfl hl.1 rfl rfl (Nat.le_of_ble_eq_true rfl) ⟨Nat.le_of_ble_eq_true rfl, Nat.le_of_ble_eq_true rfl⟩ (Nat.zero_le _) (Nat.zero_le _) dX6_tight_11 rfl rfl (fun H locs hw => ?_)
  refine lv_istore_n (lv' := [(2, .int (fi t (nxS (t k)) n 0)), (0, .ref q), (1, .int i)]) hx hb dX6_tight_14 rfl hl (by decide) rfl (fun ls hl => ?_)
  refine lv_aload_n hx hb dX6_tight_15 rfl (lv_at hl 1 rfl) ?_
  refine lv_aload_n hx hb dX6_tight_16 rfl (lv_at hl 1 rfl) ?_
  refine lv_iconst (v := 0) hx hb dX6_tight_17 rfl ?_
  refine lv_iload_n hx hb dX6_tight_18 rfl (lv_at hl 2 rfl) ?_
  refine lv_iadd hx hb dX6_tight_19 ?_
  refine x_iald E hw 0 rfl k ((ix_0add (b := k) hv_i)) (by omega) (by omega) dX6_tight_20 ?_
  refine lv_bipush (v := 7) hx hb dX6_tight_21 rfl ?_
  refine lv_iadd hx hb dX6_tight_23 ?_
  refine lv_bipush (v := 8) hx hb dX6_tight_24 rfl ?_
  refine lv_irem hx hb dX6_tight_26 (by decide) ?_
  refine x_topi (y := ah7 (t k)) (rfl) ?_
  refine x_callS (is := [0]) (As := [.ref q, .int (ah7 (t k))]) (rest := []) (st1 := [.int (fi t (ah7 (t k)) n 0)]) (ws' := aW G q len t) E (c_X6_whoIs l G q (ah7 (t k)) t len n (by omega) (by omega) (hc) (by omega)) sw_X6_73 hw [0] rfl rfl rfl rfl hl.1 rfl rfl (Nat.le_of_ble_eq_true rfl) ⟨Nat.le_of_ble_eq_true rfl, Nat.le_of_ble_eq_true rfl⟩ (Nat.zero_le _) (Nat.zero_le _) dX6_tight_27 rfl rfl (fun H locs hw => ?_)
  refine lv_istore_n (lv' := [(3, .int (fi t (ah7 (t k)) n 0)), (2, .int (fi t (nxS (t k)) n 0)), (0, .ref q), (1, .int i)]) hx hb dX6_tight_30 rfl hl (by decide) rfl (fun ls hl => ?_)
  refine lv_iload_n hx hb dX6_tight_31 rfl (lv_at hl 1 rfl) ?_
  refine lv_iconst (v := -1) hx hb dX6_tight_32 rfl ?_
  refine lv_icmp_ne (tgt := 40) hx hb dX6_tight_33 rfl (fun cq33 => ?_) (fun cq33 => ?_)
  · skip
    refine lv_iconst (v := 1) hx hb dX6_tight_40 rfl ?_
    refine lv_iload_n hx hb dX6_tight_41 rfl (lv_at hl 0 rfl) ?_
    refine lv_iconst (v := -1) hx hb dX6_tight_42 rfl ?_
    refine lv_icmp_ne (tgt := 50) hx hb dX6_tight_43 rfl (fun cq43 => ?_) (fun cq43 => ?_)
    · skip
      refine lv_iconst (v := 1) hx hb dX6_tight_50 rfl ?_
      refine lv_iadd hx hb dX6_tight_51 ?_
      exact x_iret E hA rt hw dX6_tight_52 (by simp [tgM, cq33, cq43]) rfl
    · skip
      refine lv_iconst (v := 0) hx hb dX6_tight_46 rfl ?_
      refine lv_goto (tgt := 51) hx hb dX6_tight_47 rfl ?_
      refine lv_iadd hx hb dX6_tight_51 ?_
      exact x_iret E hA rt hw dX6_tight_52 (by simp [tgM, cq33, cq43]) rfl
  · skip
    refine lv_iconst (v := 0) hx hb dX6_tight_36 rfl ?_
    refine lv_goto (tgt := 41) hx hb dX6_tight_37 rfl ?_
    refine lv_iload_n hx hb dX6_tight_41 rfl (lv_at hl 0 rfl) ?_
    refine lv_iconst (v := -1) hx hb dX6_tight_42 rfl ?_
    refine lv_icmp_ne (tgt := 50) hx hb dX6_tight_43 rfl (fun cq43 => ?_) (fun cq43 => ?_)
    · skip
      refine lv_iconst (v := 1) hx hb dX6_tight_50 rfl ?_
      refine lv_iadd hx hb dX6_tight_51 ?_
      exact x_iret E hA rt hw dX6_tight_52 (by simp [tgM, cq33, cq43]) rfl
    · skip
      refine lv_iconst (v := 0) hx hb dX6_tight_46 rfl ?_
      refine lv_goto (tgt := 51) hx hb dX6_tight_47 rfl ?_
      refine lv_iadd hx hb dX6_tight_51 ?_
      exact x_iret E hA rt hw dX6_tight_52 (by simp [tgM, cq33, cq43]) rfl
set_option maxHeartbeats 1000000 in
set_option maxRecDepth 100000 in
theorem c_X6_nearOf (l : Launch) (G : GG) (q : Nat) (i : Int32) (k : Nat) (hv_i : i = nI k) (t : Nat → Int32) (len : Nat) (n : Nat) (h35 : 35 ≤ len) (hlen : len < 2147483648) (hc : t 22 = nI n) (hn : n ≤ 6) (hk : k < 6) : CT l G yX6_nearOf cX6_nearOf 2 (some .int) 2 48 [.ref q, .int i] (aW G q len t) (some (.int (nmOf t n k))) (aW G q len t) := by
  refine CT.mk (own := RX6) (la := [(0, .ref q), (1, .int i)]) (by decide) rfl (Nat.le_of_ble_eq_true rfl) rfl ?_
  intro p e s m args below meth c A Q E hA hw rt ls hl
  have hx := E.1
  have hb := E.2.1
  refine lv_aload_n hx hb dX6_nearOf_0 rfl (lv_at hl 0 rfl) ?_
  refine lv_bipush (v := 23) hx hb dX6_nearOf_1 rfl ?_
  refine lv_iload_n hx hb dX6_nearOf_3 rfl (lv_at hl 1 rfl) ?_
  refine lv_iadd hx hb dX6_nearOf_4 ?_
  refine x_iald E hw 0 rfl (23 + k) ((ix_add (a := 23) (b := k) rfl hv_i)) (by omega) (by omega) dX6_nearOf_5 ?_
  refine lv_aload_n hx hb dX6_nearOf_6 rfl (lv_at hl 0 rfl) ?_
  refine lv_bipush (v := 6) hx hb dX6_nearOf_7 rfl ?_
  refine lv_iload_n hx hb dX6_nearOf_9 rfl (lv_at hl 1 rfl) ?_
  refine lv_iadd hx hb dX6_nearOf_10 ?_
  refine x_iald E hw 0 rfl (6 + k) ((ix_add (a := 6) (b := k) rfl hv_i)) (by omega) (by omega) dX6_nearOf_11 ?_
  refine lv_aload_n hx hb dX6_nearOf_12 rfl (lv_at hl 0 rfl) ?_
  refine lv_iload_n hx hb dX6_nearOf_13 rfl (lv_at hl 1 rfl) ?_
  refine x_callS (is := [0]) (As := [.ref q, .int i]) (rest := [.int (t (6 + k)), .int (t (23 + k))]) (st1 := [.int (tgM t n (t k)), .int (t (6 + k)), .int (t (23 + k))]) (ws' := aW G q len t) E (c_X6_tight l G q i k (hv_i) t len n (by omega) (by omega) (hc) (by omega) (by omega)) sw_X6_156 hw [0] rfl rfl rfl rfl hl.1 rfl rfl (Nat.le_of_ble_eq_true rfl) ⟨Nat.le_of_ble_eq_true rfl, Nat.le_of_ble_eq_true rfl⟩ (Nat.zero_le _) (Nat.zero_le _) dX6_nearOf_14 rfl rfl (fun H locs hw => ?_)
  refine lv_aload_n hx hb dX6_nearOf_17 rfl (lv_at hl 0 rfl) ?_
  refine lv_bipush (v := 29) hx hb dX6_nearOf_18 rfl ?_
  refine lv_iload_n hx hb dX6_nearOf_20 rfl (lv_at hl 1 rfl) ?_
  refine lv_iadd hx hb dX6_nearOf_21 ?_
  refine x_iald E hw 0 rfl (29 + k) ((ix_add (a := 29) (b := k) rfl hv_i)) (by omega) (by omega) dX6_nearOf_22 ?_
  refine lv_aload_n hx hb dX6_nearOf_23 rfl (lv_at hl 0 rfl) ?_
  refine lv_bipush (v := 12) hx hb dX6_nearOf_24 rfl ?_
  refine lv_iload_n hx hb dX6_nearOf_26 rfl (lv_at hl 1 rfl) ?_
  refine lv_iadd hx hb dX6_nearOf_27 ?_
  refine x_iald E hw 0 rfl (12 + k) ((ix_add (a := 12) (b := k) rfl hv_i)) (by omega) (by omega) dX6_nearOf_28 ?_
  refine lv_aload_n hx hb dX6_nearOf_29 rfl (lv_at hl 0 rfl) ?_
  refine lv_bipush (v := 19) hx hb dX6_nearOf_30 rfl ?_
  refine x_iald E hw 0 rfl 19 (rfl) (by omega) (by omega) dX6_nearOf_32 ?_
  refine x_callS (is := []) (As := [.int (t (23 + k)), .int (t (6 + k)), .int (tgM t n (t k)), .int (t (29 + k)), .int (t (12 + k)), .int (t 19)]) (rest := []) (st1 := [.int (nm (t (23 + k)) (t (6 + k)) (tgM t n (t k)) (t (29 + k)) (t (12 + k)) (t 19))]) (ws' := aW G q len t) E (c_X6_nearAs l G (t (23 + k)) (t (6 + k)) (tgM t n (t k)) (t (29 + k)) (t (12 + k)) (t 19)) sw_X6_159 hw [] rfl rfl rfl rfl hl.1 rfl rfl (Nat.le_of_ble_eq_true rfl) ⟨Nat.le_of_ble_eq_true rfl, Nat.le_of_ble_eq_true rfl⟩ (Nat.zero_le _) (Nat.zero_le _) dX6_nearOf_33 rfl rfl (fun H locs hw => ?_)
  exact x_iret E hA rt hw dX6_nearOf_36 (rfl) rfl
set_option maxHeartbeats 1000000 in
set_option maxRecDepth 100000 in
theorem c_X6_whom (l : Launch) (G : GG) (q : Nat) (i : Int32) (k : Nat) (hv_i : i = nI k) (t : Nat → Int32) (len : Nat) (n : Nat) (h35 : 35 ≤ len) (hlen : len < 2147483648) (hc : t 22 = nI n) (hn : n ≤ 6) (hk : k < 6) : CT l G yX6_whom cX6_whom 3 (some .int) 1 22 [.ref q, .int i] (aW G q len t) (some (.int (whM t n (t k)))) (aW G q len t) := by
  refine CT.mk (own := RX6) (la := [(0, .ref q), (1, .int i)]) (by decide) rfl (Nat.le_of_ble_eq_true rfl) rfl ?_
  intro p e s m args below meth c A Q E hA hw rt ls hl
  have hx := E.1
  have hb := E.2.1
  refine lv_aload_n hx hb dX6_whom_0 rfl (lv_at hl 0 rfl) ?_
  refine lv_aload_n hx hb dX6_whom_1 rfl (lv_at hl 0 rfl) ?_
  refine lv_iconst (v := 0) hx hb dX6_whom_2 rfl ?_
  refine lv_iload_n hx hb dX6_whom_3 rfl (lv_at hl 1 rfl) ?_
  refine lv_iadd hx hb dX6_whom_4 ?_
  refine x_iald E hw 0 rfl k ((ix_0add (b := k) hv_i)) (by omega) (by omega) dX6_whom_5 ?_
  refine lv_iconst (v := 1) hx hb dX6_whom_6 rfl ?_
  refine lv_iadd hx hb dX6_whom_7 ?_
  refine lv_bipush (v := 8) hx hb dX6_whom_8 rfl ?_
  refine lv_irem hx hb dX6_whom_10 (by decide) ?_
  refine x_topi (y := nxS (t k)) (rfl) ?_
  refine x_callS (is := [0]) (As := [.ref q, .int (nxS (t k))]) (rest := []) (st1 := [.int (fi t (nxS (t k)) n 0)]) (ws' := aW G q len t) E (c_X6_whoIs l G q (nxS (t k)) t len n (by omega) (by omega) (hc) (by omega)) sw_X6_73 hw [0] rfl rfl rfl rfl hl.1 rfl rfl (Nat.le_of_ble_eq_true rfl) ⟨Nat.le_of_ble_eq_true rfl, Nat.le_of_ble_eq_true rfl⟩ (Nat.zero_le _) (Nat.zero_le _) dX6_whom_11 rfl rfl (fun H locs hw => ?_)
  refine lv_istore_n (lv' := [(2, .int (fi t (nxS (t k)) n 0)), (0, .ref q), (1, .int i)]) hx hb dX6_whom_14 rfl hl (by decide) rfl (fun ls hl => ?_)
  refine lv_iload_n hx hb dX6_whom_15 rfl (lv_at hl 0 rfl) ?_
  refine lv_iconst (v := -1) hx hb dX6_whom_16 rfl ?_
  refine lv_icmp_ne (tgt := 38) hx hb dX6_whom_17 rfl (fun cq17 => ?_) (fun cq17 => ?_)
  · skip
    refine lv_iload_n hx hb dX6_whom_38 rfl (lv_at hl 0 rfl) ?_
    exact x_iret E hA rt hw dX6_whom_39 (by simp [whM, cq17]) rfl
  · skip
    refine lv_aload_n hx hb dX6_whom_20 rfl (lv_at hl 1 rfl) ?_
    refine lv_aload_n hx hb dX6_whom_21 rfl (lv_at hl 1 rfl) ?_
    refine lv_iconst (v := 0) hx hb dX6_whom_22 rfl ?_
    refine lv_iload_n hx hb dX6_whom_23 rfl (lv_at hl 2 rfl) ?_
    refine lv_iadd hx hb dX6_whom_24 ?_
    refine x_iald E hw 0 rfl k ((ix_0add (b := k) hv_i)) (by omega) (by omega) dX6_whom_25 ?_
    refine lv_bipush (v := 7) hx hb dX6_whom_26 rfl ?_
    refine lv_iadd hx hb dX6_whom_28 ?_
    refine lv_bipush (v := 8) hx hb dX6_whom_29 rfl ?_
    refine lv_irem hx hb dX6_whom_31 (by decide) ?_
    refine x_topi (y := ah7 (t k)) (rfl) ?_
    refine x_callS (is := [0]) (As := [.ref q, .int (ah7 (t k))]) (rest := []) (st1 := [.int (fi t (ah7 (t k)) n 0)]) (ws' := aW G q len t) E (c_X6_whoIs l G q (ah7 (t k)) t len n (by omega) (by omega) (hc) (by omega)) sw_X6_73 hw [0] rfl rfl rfl rfl hl.1 rfl rfl (Nat.le_of_ble_eq_true rfl) ⟨Nat.le_of_ble_eq_true rfl, Nat.le_of_ble_eq_true rfl⟩ (Nat.zero_le _) (Nat.zero_le _) dX6_whom_32 rfl rfl (fun H locs hw => ?_)
    refine lv_goto (tgt := 39) hx hb dX6_whom_35 rfl ?_
    exact x_iret E hA rt hw dX6_whom_39 (by simp [whM, cq17]) rfl
set_option maxHeartbeats 1000000 in
set_option maxRecDepth 100000 in
theorem c_X6_isGuarded (l : Launch) (G : GG) (q : Nat) (i : Int32) (k : Nat) (hv_i : i = nI k) (t : Nat → Int32) (len : Nat) (h35 : 35 ≤ len) (hlen : len < 2147483648) (hk : k < 6) : CT l G yX6_isGuarded cX6_isGuarded 3 (some .boolean) 0 0 [.ref q, .int i] (aW G q len t) (some (.int (bI (gdM (t 20) (t k))))) (aW G q len t) := by
  refine CT.mk (own := RX6) (la := [(0, .ref q), (1, .int i)]) (by decide) rfl (Nat.le_of_ble_eq_true rfl) rfl ?_
  intro p e s m args below meth c A Q E hA hw rt ls hl
  have hx := E.1
  have hb := E.2.1
  refine lv_aload_n hx hb dX6_isGuarded_0 rfl (lv_at hl 0 rfl) ?_
  refine lv_iconst (v := 0) hx hb dX6_isGuarded_1 rfl ?_
  refine lv_iload_n hx hb dX6_isGuarded_2 rfl (lv_at hl 1 rfl) ?_
  refine lv_iadd hx hb dX6_isGuarded_3 ?_
  refine x_iald E hw 0 rfl k ((ix_0add (b := k) hv_i)) (by omega) (by omega) dX6_isGuarded_4 ?_
  refine lv_bipush (v := 8) hx hb dX6_isGuarded_5 rfl ?_
  refine lv_iadd hx hb dX6_isGuarded_7 ?_
  refine lv_aload_n hx hb dX6_isGuarded_8 rfl (lv_at hl 0 rfl) ?_
  refine lv_bipush (v := 20) hx hb dX6_isGuarded_9 rfl ?_
  refine x_iald E hw 0 rfl 20 (rfl) (by omega) (by omega) dX6_isGuarded_11 ?_
  refine lv_isub hx hb dX6_isGuarded_12 ?_
  refine lv_bipush (v := 8) hx hb dX6_isGuarded_13 rfl ?_
  refine lv_irem hx hb dX6_isGuarded_15 (by decide) ?_
  refine x_topi (y := farM (t 20) (t k)) (rfl) ?_
  refine lv_istore_n (lv' := [(2, .int (farM (t 20) (t k))), (0, .ref q), (1, .int i)]) hx hb dX6_isGuarded_16 rfl hl (by decide) rfl (fun ls hl => ?_)
  refine lv_iload_n hx hb dX6_isGuarded_17 rfl (lv_at hl 0 rfl) ?_
  refine lv_if_eq (tgt := 32) hx hb dX6_isGuarded_18 rfl (fun cq18 => ?_) (fun cq18 => ?_)
  · skip
    refine lv_iconst (v := 1) hx hb dX6_isGuarded_32 rfl ?_
    refine lv_goto (tgt := 37) hx hb dX6_isGuarded_33 rfl ?_
    exact x_zret E hA rt hw (by decide) dX6_isGuarded_37 (by simp [bI, gdM, cq18]) rfl
  · skip
    refine lv_iload_n hx hb dX6_isGuarded_21 rfl (lv_at hl 0 rfl) ?_
    refine lv_iconst (v := 1) hx hb dX6_isGuarded_22 rfl ?_
    refine lv_icmp_eq (tgt := 32) hx hb dX6_isGuarded_23 rfl (fun cq23 => ?_) (fun cq23 => ?_)
    · skip
      refine lv_iconst (v := 1) hx hb dX6_isGuarded_32 rfl ?_
      refine lv_goto (tgt := 37) hx hb dX6_isGuarded_33 rfl ?_
      exact x_zret E hA rt hw (by decide) dX6_isGuarded_37 (by simp [bI, gdM, cq18, cq23]) rfl
    · skip
      refine lv_iload_n hx hb dX6_isGuarded_26 rfl (lv_at hl 0 rfl) ?_
      refine lv_bipush (v := 7) hx hb dX6_isGuarded_27 rfl ?_
      refine lv_icmp_ne (tgt := 36) hx hb dX6_isGuarded_29 rfl (fun cq29 => ?_) (fun cq29 => ?_)
      · skip
        refine lv_iconst (v := 0) hx hb dX6_isGuarded_36 rfl ?_
        exact x_zret E hA rt hw (by decide) dX6_isGuarded_37 (by simp [bI, gdM, cq18, cq23, cq29]) rfl
      · skip
        refine lv_iconst (v := 1) hx hb dX6_isGuarded_32 rfl ?_
        refine lv_goto (tgt := 37) hx hb dX6_isGuarded_33 rfl ?_
        exact x_zret E hA rt hw (by decide) dX6_isGuarded_37 (by simp [bI, gdM, cq18, cq23, cq29]) rfl
set_option maxHeartbeats 1000000 in
set_option maxRecDepth 100000 in
theorem c_X6_bites (l : Launch) (G : GG) (q : Nat) (i : Int32) (k : Nat) (hv_i : i = nI k) (t : Nat → Int32) (len : Nat) (n : Nat) (h35 : 35 ≤ len) (hlen : len < 2147483648) (hc : t 22 = nI n) (hn : n ≤ 6) (hk : k < 6) : CT l G yX6_bites cX6_bites 2 (some .boolean) 3 69 [.ref q, .int i] (aW G q len t) (some (.int (bI (bitesM t n k)))) (aW G q len t) := by
  refine CT.mk (own := RX6) (la := [(0, .ref q), (1, .int i)]) (by decide) rfl (Nat.le_of_ble_eq_true rfl) rfl ?_
  intro p e s m args below meth c A Q E hA hw rt ls hl
  have hx := E.1
  have hb := E.2.1
  refine lv_aload_n hx hb dX6_bites_0 rfl (lv_at hl 0 rfl) ?_
  refine lv_iload_n hx hb dX6_bites_1 rfl (lv_at hl 1 rfl) ?_
  refine x_callS (is := [0]) (As := [.ref q, .int i]) (rest := []) (st1 := [.int (nmOf t n k)]) (ws' := aW G q len t) E (c_X6_nearOf l G q i k (hv_i) t len n (by omega) (by omega) (hc) (by omega) (by omega)) sw_X6_163 hw [0] rfl rfl rfl rfl hl.1 rfl rfl (Nat.le_of_ble_eq_true rfl) ⟨Nat.le_of_ble_eq_true rfl, Nat.le_of_ble_eq_true rfl⟩ (Nat.zero_le _) (Nat.zero_le _) dX6_bites_2 rfl rfl (fun H locs hw => ?_)
  refine lv_bipush (v := 11) hx hb dX6_bites_5 rfl ?_
  refine lv_icmp_le (tgt := 31) hx hb dX6_bites_7 rfl (fun cq7 => ?_) (fun cq7 => ?_)
  · skip
    refine lv_iconst (v := 0) hx hb dX6_bites_31 rfl ?_
    exact x_zret E hA rt hw (by decide) dX6_bites_32 (by simp [bI, bitesM, cq7]) rfl
  · skip
    refine lv_aload_n hx hb dX6_bites_10 rfl (lv_at hl 0 rfl) ?_
    refine lv_iload_n hx hb dX6_bites_11 rfl (lv_at hl 1 rfl) ?_
    refine x_callS (is := [0]) (As := [.ref q, .int i]) (rest := []) (st1 := [.int (bI (gdM (t 20) (t k)))]) (ws' := aW G q len t) E (c_X6_isGuarded l G q i k (hv_i) t len (by omega) (by omega) (by omega)) sw_X6_166 hw [0] rfl rfl rfl rfl hl.1 rfl rfl (Nat.le_of_ble_eq_true rfl) ⟨Nat.le_of_ble_eq_true rfl, Nat.le_of_ble_eq_true rfl⟩ (Nat.zero_le _) (Nat.zero_le _) dX6_bites_12 rfl rfl (fun H locs hw => ?_)
    refine lv_if_ne (tgt := 31) hx hb dX6_bites_15 rfl (fun cq15 => ?_) (fun cq15 => ?_)
    · skip
      have cq15 := bI_n0.mp cq15
      refine lv_iconst (v := 0) hx hb dX6_bites_31 rfl ?_
      exact x_zret E hA rt hw (by decide) dX6_bites_32 (by simp [bI, bitesM, cq7, cq15]) rfl
    · skip
      have cq15 := bI_0.mp cq15
      refine lv_aload_n hx hb dX6_bites_18 rfl (lv_at hl 0 rfl) ?_
      refine lv_iload_n hx hb dX6_bites_19 rfl (lv_at hl 1 rfl) ?_
      refine x_callS (is := [0]) (As := [.ref q, .int i]) (rest := []) (st1 := [.int (whM t n (t k))]) (ws' := aW G q len t) E (c_X6_whom l G q i k (hv_i) t len n (by omega) (by omega) (hc) (by omega) (by omega)) sw_X6_170 hw [0] rfl rfl rfl rfl hl.1 rfl rfl (Nat.le_of_ble_eq_true rfl) ⟨Nat.le_of_ble_eq_true rfl, Nat.le_of_ble_eq_true rfl⟩ (Nat.zero_le _) (Nat.zero_le _) dX6_bites_20 rfl rfl (fun H locs hw => ?_)
      refine lv_iconst (v := -1) hx hb dX6_bites_23 rfl ?_
      refine lv_icmp_eq (tgt := 31) hx hb dX6_bites_24 rfl (fun cq24 => ?_) (fun cq24 => ?_)
      · skip
        refine lv_iconst (v := 0) hx hb dX6_bites_31 rfl ?_
        exact x_zret E hA rt hw (by decide) dX6_bites_32 (by simp [bI, bitesM, cq7, cq15, cq24]) rfl
      · skip
        refine lv_iconst (v := 1) hx hb dX6_bites_27 rfl ?_
        refine lv_goto (tgt := 32) hx hb dX6_bites_28 rfl ?_
        exact x_zret E hA rt hw (by decide) dX6_bites_32 (by simp [bI, bitesM, cq7, cq15, cq24]) rfl
set_option maxHeartbeats 1000000 in
set_option maxRecDepth 100000 in
theorem c_X6_biters (l : Launch) (G : GG) (q : Nat) (t : Nat → Int32) (len : Nat) (n : Nat) (h35 : 35 ≤ len) (hlen : len < 2147483648) (hc : t 22 = nI n) (hn : n ≤ 6) : CT l G yX6_biters cX6_biters 3 (some .int) 4 90 [.ref q] (aW G q len t) (some (.int (bitrM t n))) (aW G q len t) := by
  refine CT.mk (own := RX6) (la := [(0, .ref q)]) (by decide) rfl (Nat.le_of_ble_eq_true rfl) rfl ?_
  intro p e s m args below meth c A Q E hA hw rt ls hl
  have hx := E.1
  have hb := E.2.1
  refine lv_iconst (v := 0) hx hb dX6_biters_0 rfl ?_
  refine lv_istore_n (lv' := [(1, .int 0), (0, .ref q)]) hx hb dX6_biters_1 rfl hl (by decide) rfl (fun ls hl => ?_)
  refine lv_iconst (v := 0) hx hb dX6_biters_2 rfl ?_
  refine lv_istore_n (lv' := [(2, .int 0), (1, .int 0), (0, .ref q)]) hx hb dX6_biters_3 rfl hl (by decide) rfl (fun ls hl => ?_)
  have lp4 : ∀ (fuel : Nat), ∀ (k : Nat) (acc : Int32) (hk : k ≤ n) (hiv : acc = btM (bitesM t n) k), (n - k) < fuel → ∀ (H : Heap) (locs : List Loc) (ls : Array Slot), Wd G A s H locs (aW G q len t) → lv_has ls 3 [(0, .ref q), (1, .int acc), (2, .int (nI k))] → W p l e (rmx 4 90) s m args below meth c H locs 0 0 Q (F0 m 4 ls []) := by
    intro fuel
    induction fuel with
    | zero => intro k acc hk hiv hfu; exact absurd hfu (Nat.not_lt_zero _)
    | succ fuel ih4 =>
      intro k acc hk hiv hfu H locs ls hw hl
      refine lv_iload_n hx hb dX6_biters_4 rfl (lv_at hl 2 rfl) ?_
      refine lv_aload_n hx hb dX6_biters_5 rfl (lv_at hl 0 rfl) ?_
      refine lv_bipush (v := 22) hx hb dX6_biters_6 rfl ?_
      refine x_iald E hw 0 rfl 22 (rfl) (by omega) (by omega) dX6_biters_8 ?_
      refine lv_icmp_ge (tgt := 36) hx hb dX6_biters_9 rfl (fun cq9 => ?_) (fun cq9 => ?_)
      · skip
        have cq9 : n ≤ k := (cv_le (a := n) (b := k) hc rfl (by omega) (by omega)).mp cq9
        refine lv_iload_n hx hb dX6_biters_36 rfl (lv_at hl 1 rfl) ?_
        exact x_iret E hA rt hw dX6_biters_37 (by rw [hiv, show k = n by omega]; rfl) rfl
      · skip
        have cq9 : ¬ n ≤ k := fun h => cq9 ((cv_le (a := n) (b := k) hc rfl (by omega) (by omega)).mpr h)
        refine lv_iload_n hx hb dX6_biters_12 rfl (lv_at hl 1 rfl) ?_
        refine lv_aload_n hx hb dX6_biters_13 rfl (lv_at hl 0 rfl) ?_
        refine lv_iload_n hx hb dX6_biters_14 rfl (lv_at hl 2 rfl) ?_
        refine x_callS (is := [0]) (As := [.ref q, .int (nI k)]) (rest := [.int acc]) (st1 := [.int (bI (bitesM t n k)), .int acc]) (ws' := aW G q len t) E (c_X6_bites l G q (nI k) k (rfl) t len n (by omega) (by omega) (hc) (by omega) (by omega)) sw_X6_173 hw [0] rfl rfl rfl rfl hl.1 rfl rfl (Nat.le_of_ble_eq_true rfl) ⟨Nat.le_of_ble_eq_true rfl, Nat.le_of_ble_eq_true rfl⟩ (Nat.zero_le _) (Nat.zero_le _) dX6_biters_15 rfl rfl (fun H locs hw => ?_)
        refine lv_if_eq (tgt := 27) hx hb dX6_biters_18 rfl (fun cq18 => ?_) (fun cq18 => ?_)
        · skip
          have cq18 := bI_0.mp cq18
          refine lv_iconst (v := 0) hx hb dX6_biters_27 rfl ?_
          refine lv_ior hx hb dX6_biters_28 ?_
          refine lv_istore_n (lv' := [(1, .int (acc ||| 0)), (0, .ref q), (2, .int (nI k))]) hx hb dX6_biters_29 rfl hl (by decide) rfl (fun ls hl => ?_)
          refine lv_iinc (v := nI (k + 1)) (lv' := [(2, .int (nI (k + 1))), (1, .int (acc ||| 0)), (0, .ref q)]) hx hb dX6_biters_30 hl (k := 2) rfl (nI_add _ 1) (by decide) rfl (fun ls hl => ?_)
          refine lv_goto (tgt := 4) hx hb dX6_biters_33 rfl ?_
          exact ih4 (k + 1) (acc ||| 0) (by omega) (by rw [hiv, btM]; simp [cq9, cq18]) (by omega) _ _ _ hw (lv_sub hl [2, 1, 0] rfl)
        · skip
          have cq18 := bI_n0.mp cq18
          refine lv_iconst (v := 1) hx hb dX6_biters_21 rfl ?_
          refine lv_iload_n hx hb dX6_biters_22 rfl (lv_at hl 2 rfl) ?_
          refine lv_ishl hx hb dX6_biters_23 ?_
          refine lv_goto (tgt := 28) hx hb dX6_biters_24 rfl ?_
          refine lv_ior hx hb dX6_biters_28 ?_
          refine lv_istore_n (lv' := [(1, .int (acc ||| ((1 : Int32) <<< ((nI k) &&& 31)))), (0, .ref q), (2, .int (nI k))]) hx hb dX6_biters_29 rfl hl (by decide) rfl (fun ls hl => ?_)
          refine lv_iinc (v := nI (k + 1)) (lv' := [(2, .int (nI (k + 1))), (1, .int (acc ||| ((1 : Int32) <<< ((nI k) &&& 31)))), (0, .ref q)]) hx hb dX6_biters_30 hl (k := 2) rfl (nI_add _ 1) (by decide) rfl (fun ls hl => ?_)
          refine lv_goto (tgt := 4) hx hb dX6_biters_33 rfl ?_
          exact ih4 (k + 1) (acc ||| ((1 : Int32) <<< ((nI k) &&& 31))) (by omega) (by rw [hiv, btM]; simp [cq9, cq18]) (by omega) _ _ _ hw (lv_sub hl [2, 1, 0] rfl)
  exact lp4 (n - 0 + 1) 0 0 (by omega) (rfl) (by omega) _ _ _ hw (lv_sub hl [2, 1, 0] rfl)

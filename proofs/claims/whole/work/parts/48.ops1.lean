theorem rf_0 {rf : Nat → Int32} {b n f : Int32} (h : rf 0 = b ∧ rf 1 = n ∧ rf 2 = f) : upd rf 0 (rf 0 + 1) 0 = b + 1 ∧ upd rf 0 (rf 0 + 1) 1 = n ∧ upd rf 0 (rf 0 + 1) 2 = f := ⟨by rw [upd_at, h.1], by rw [upd_ne _ _ (by omega)]; exact h.2.1, by rw [upd_ne _ _ (by omega)]; exact h.2.2⟩
theorem rf_1 {rf : Nat → Int32} {b n f : Int32} (h : rf 0 = b ∧ rf 1 = n ∧ rf 2 = f) : upd rf 1 (rf 1 + 1) 0 = b ∧ upd rf 1 (rf 1 + 1) 1 = n + 1 ∧ upd rf 1 (rf 1 + 1) 2 = f := ⟨by rw [upd_ne _ _ (by omega)]; exact h.1, by rw [upd_at, h.2.1], by rw [upd_ne _ _ (by omega)]; exact h.2.2⟩
theorem rf_2 {rf : Nat → Int32} {b n f : Int32} (h : rf 0 = b ∧ rf 1 = n ∧ rf 2 = f) : upd rf 2 (rf 2 + 1) 0 = b ∧ upd rf 2 (rf 2 + 1) 1 = n ∧ upd rf 2 (rf 2 + 1) 2 = f + 1 := ⟨by rw [upd_ne _ _ (by omega)]; exact h.1, by rw [upd_ne _ _ (by omega)]; exact h.2.1, by rw [upd_at, h.2.2]⟩
theorem relC_congr {n : Nat} {t : Tb} {c d : Nat → Int32} (hn : n ≤ 6) (h : RelC n t c) (e : ∀ j, j < 22 → d j = c j) : RelC n t d := by
  obtain ⟨h1, h2, h3, h4, h5, ⟨a, ha, ea⟩, ⟨b, hb, eb⟩, h8, h9, h10⟩ := h
  refine ⟨by rw [e 20 (by omega)]; exact h1, by rw [e 21 (by omega)]; exact h2, by rw [e 18 (by omega)]; exact h3, by rw [e 19 (by omega)]; exact h4, h5, ⟨a, ha, by rw [e 20 (by omega)]; exact ea⟩, ⟨b, hb, by rw [e 21 (by omega)]; exact eb⟩, fun j hj => ?_, fun i hi j hj hij => h9 i hi j hj (by rw [← e i (by omega), ← e j (by omega)]; exact hij), fun j h1 h2 => by rw [e (12 + j) (by omega)]; exact h10.1 j h1 h2, bd_congr h10.2 (fun j _ q _ => e j q)⟩
  rw [e j (by omega), e (6 + j) (by omega), e (12 + j) (by omega)]
  exact h8 j hj
theorem relK_congr {n : Nat} {t : Tb} {c d : Nat → Int32} (hn : n ≤ 6) (h : RelK n t c) (e : ∀ j, 23 ≤ j → j < 35 → d j = c j) : RelK n t d := fun j hj => by
  rw [e (23 + j) (by omega) (by omega), e (29 + j) (by omega) (by omega)]
  exact h j hj
/-- other notes, all else the same -/
theorem relS_notes {t : Tb} {old psz ns : Int32} {T : Nat → Tb} {np nw nw' : Nat → Int32} {n zn u o : Nat} (a1 : n ≤ 6) (a2 : nw 22 = nI n) (a3 : RelC n t nw) (a4 : RelK n t nw) (a5 : ∀ j, j < n → (∃ a, a ≤ 5 ∧ nw (23 + j) = nI a) ∧ ∃ a, a ≤ 20 ∧ nw (29 + j) = nI a) (a6 : zn ≤ 6) (a7 : ns = nI zn) (a8 : nw' 35 = nI zn) (a9 : ∀ j, j < 7 * zn → np j = nw' (36 + j) ∧ ∃ a, a ≤ 60 ∧ nw' (36 + j) = nI a)
    (b1 : u ≤ 8) (b2 : o < 8) (b3 : old = nI o) (b4 : psz = nI u) (b5 : nw 78 = nI u) (b6 : ∀ k, k < u → RelC n (T ((o + k) % 8)) (fun i => nw (79 + 22 * k + i)) ∧ RelK n (T ((o + k) % 8)) nw) (e1 : ∀ j, j < 35 → nw' j = nw j) (e2 : ∀ j, 78 ≤ j → nw' j = nw j) : RelS (t, (old, psz, T), (np, ns)) nw' :=
  ⟨n, zn, u, o, a1, by rw [e1 22 (by omega)]; exact a2, relC_congr a1 a3 (fun j hj => e1 j (by omega)), relK_congr a1 a4 (fun j _ hj => e1 j (by omega)), fun j hj => by rw [e1 (23 + j) (by omega), e1 (29 + j) (by omega)]; exact a5 j hj, a6, a7, a8, a9, b1, b2, b3, b4, by rw [e2 78 (by omega)]; exact b5, fun k hk => ⟨relC_congr a1 (b6 k hk).1 (fun j _ => e2 (79 + 22 * k + j) (by omega)), relK_congr a1 (b6 k hk).2 (fun j _ hj => e1 j (by omega))⟩⟩
theorem rel_type {f txt : Nat → Int32} {x : Int32} {z : Nat} (h : ∀ j, j < z → f j = txt j ∧ ∃ a, a ≤ 127 ∧ txt j = nI a) (hx : ∃ a, a ≤ 127 ∧ x = nI a) : ∀ j, j < z + 1 → upd f z x j = upd txt z x j ∧ ∃ a, a ≤ 127 ∧ upd txt z x j = nI a := fun j hj => by
  by_cases e : j = z
  · subst e; rw [upd_at, upd_at]; exact ⟨rfl, hx⟩
  · rw [upd_ne _ _ e, upd_ne _ _ e]; exact h j (by omega)
set_option maxRecDepth 100000 in
theorem op_part (l : Launch) (K : KA) (G : GG) (ax : Nat) (ad : Ad) (am : Nat → Nat) (X : XS) (Y : YS) (h : Rel X Y) (x : Int32) : OPl Rel K l G ax ad am yX5_part cX5_part 2 yX6_part cX6_part 2 [.int x] X Y := by
  obtain ⟨⟨⟨wo, mi, bi, la, ch, ki, se, wd, hu, b9⟩, ⟨old, psz, T⟩, np, ns⟩, i0, i1, kp, ⟨f, len, pl, sa, tk, vl⟩, ⟨wo1, mi1, bi1, la1, ch1, ki1, se1, wd1, hu1, bt1⟩, sg, rf, ab, bl⟩ := X
  obtain ⟨nw, rd, asd, img, kpt, txt, sz, abv, blw, bds, nos, fls, att, bgn, tkn, wrd, vlu, sts, bst⟩ := Y
  obtain ⟨h1, h2, h3, h4, h5, h6⟩ := h
  by_cases c : inI x 0 1 = true
  · have e5 : ab = abv := h5
    have e6 : bl = blw := h6
    refine ⟨if x = 0 then ab else bl, Unit, Unit, fun _ => (((wo, mi, bi, la, ch, ki, se, wd, hu, b9), (old, psz, T), (np, ns)), i0, i1, kp, (f, len, pl, sa, tk, vl), (wo1, mi1, bi1, la1, ch1, ki1, se1, wd1, hu1, bt1), sg, rf, ab, bl), fun _ => (nw, rd, asd, img, kpt, txt, sz, abv, blw, bds, nos, fls, att, bgn, tkn, wrd, vlu, sts, bst), ?_, ?_, fun _ _ => ⟨h1, h2, h3, h4, h5, h6⟩⟩
    · exact LC.ofT (wb := [xO G ax (ad 11 0) (ad 11 1) (ad 11 2) (ad 9) (ad 10) (ad 11 3) (ad 11 4) ab bl]) (wb' := [xO G ax (ad 11 0) (ad 11 1) (ad 11 2) (ad 9) (ad 10) (ad 11 3) (ad 11 4) ab bl]) [0] (c_X5_part_ok l G ax (ad 11 0) (ad 11 1) (ad 11 2) (ad 9) (ad 10) (ad 11 3) (ad 11 4) x ab bl c) (by decide) (by decide) rfl rfl rfl rfl rfl rfl
    · have hc := c_X6_part l G am x nw rd asd img kpt txt sz abv blw bds nos fls att bgn tkn wrd vlu sts bst 
      simp only [c, if_true] at hc
      rw [← e5, ← e6] at hc
      rw [← e5, ← e6]; exact LC.ofT (wb := [mY G am (nw, rd, asd, img, kpt, txt, sz, ab, bl, bds, nos, fls, att, bgn, tkn, wrd, vlu, sts, bst)]) (wb' := [mY G am (nw, rd, asd, img, kpt, txt, sz, ab, bl, bds, nos, fls, att, bgn, tkn, wrd, vlu, sts, bst)]) [0] hc (by decide) (by decide) (flat1 _) (flat1 _) rfl rfl rfl rfl
  · have c := Bool.eq_false_iff.mpr c
    refine ⟨-2, Unit, Unit, fun _ => (((wo, mi, bi, la, ch, ki, se, wd, hu, b9), (old, psz, T), (np, ns)), i0, i1, kp, (f, len, pl, sa, tk, vl), (wo1, mi1, bi1, la1, ch1, ki1, se1, wd1, hu1, bt1), sg, upd rf 0 (rf 0 + 1), ab, bl), fun _ => (nw, rd, asd, img, kpt, txt, sz, abv, blw, bds + 1, nos, fls, att, bgn, tkn, wrd, vlu, sts, bst), ?_, ?_, fun _ _ => ⟨h1, h2, h3, rf_0 h4, h5, h6⟩⟩
    · exact LC.ofT (wb := [xO G ax (ad 11 0) (ad 11 1) (ad 11 2) (ad 9) (ad 10) (ad 11 3) (ad 11 4) ab bl, aW G (ad 11 4) 3 rf]) (wb' := [xO G ax (ad 11 0) (ad 11 1) (ad 11 2) (ad 9) (ad 10) (ad 11 3) (ad 11 4) ab bl, aW G (ad 11 4) 3 (upd rf 0 (rf 0 + 1))]) [0, 18] (c_X5_part_bad l G ax (ad 11 0) (ad 11 1) (ad 11 2) (ad 9) (ad 10) (ad 11 3) (ad 11 4) x ab bl rf c) (by decide) (by decide) rfl rfl rfl rfl rfl rfl
    · have hc := c_X6_part l G am x nw rd asd img kpt txt sz abv blw bds nos fls att bgn tkn wrd vlu sts bst 
      simp only [c, Bool.false_eq_true, if_false] at hc
      exact LC.ofT (wb := [mY G am (nw, rd, asd, img, kpt, txt, sz, abv, blw, bds, nos, fls, att, bgn, tkn, wrd, vlu, sts, bst)]) (wb' := [mY G am (nw, rd, asd, img, kpt, txt, sz, abv, blw, bds + 1, nos, fls, att, bgn, tkn, wrd, vlu, sts, bst)]) [0] hc (by decide) (by decide) (flat1 _) (flat1 _) rfl rfl rfl rfl
set_option maxRecDepth 100000 in
theorem op_forget (l : Launch) (K : KA) (G : GG) (ax : Nat) (ad : Ad) (am : Nat → Nat) (X : XS) (Y : YS) (h : Rel X Y) : OPi Rel K l G ax ad am yX5_forget cX5_forget 2 yX6_forget cX6_forget 2 [] X Y := by
  obtain ⟨⟨⟨wo, mi, bi, la, ch, ki, se, wd, hu, b9⟩, ⟨old, psz, T⟩, np, ns⟩, i0, i1, kp, ⟨f, len, pl, sa, tk, vl⟩, ⟨wo1, mi1, bi1, la1, ch1, ki1, se1, wd1, hu1, bt1⟩, sg, rf, ab, bl⟩ := X
  obtain ⟨nw, rd, asd, img, kpt, txt, sz, abv, blw, bds, nos, fls, att, bgn, tkn, wrd, vlu, sts, bst⟩ := Y
  obtain ⟨h1, h2, h3, h4, h5, h6⟩ := h
  obtain ⟨n, zn, u, o, a1, a2, a3, a4, a5, a6, a7, a8, a9, b1, b2, b3, b4, b5, b6⟩ := h1
  have e7 : ns = nI zn := a7
  subst e7
  have e8 : nw 35 = nI zn := a8
  have hS2 : RelS ((wo, mi, bi, la, ch, ki, se, wd, hu, b9), (old, psz, T), (np, 0)) (upd nw 35 0) := relS_notes a1 a2 a3 a4 a5 (zn := 0) (by omega) rfl (upd_at _ _ _) (fun j hj => absurd hj (by omega)) b1 b2 b3 b4 b5 b6 (fun j hj => upd_ne _ _ (by omega)) (fun j hj => upd_ne _ _ (by omega))
  refine ⟨nI zn, Unit, Unit, fun _ => (((wo, mi, bi, la, ch, ki, se, wd, hu, b9), (old, psz, T), (np, 0)), i0, i1, kp, (f, len, pl, sa, tk, vl), (wo1, mi1, bi1, la1, ch1, ki1, se1, wd1, hu1, bt1), sg, rf, ab, bl), fun _ => ((upd nw 35 0), rd, asd, img, kpt, txt, sz, abv, blw, bds, nos, fls, att, bgn, tkn, wrd, vlu, sts, bst), ?_, ?_, fun _ _ => ⟨hS2, h2, h3, h4, h5, h6⟩⟩
  · exact LC.ofT (wb := [xO G ax (ad 11 0) (ad 11 1) (ad 11 2) (ad 9) (ad 10) (ad 11 3) (ad 11 4) ab bl, oS G (ad 11 0) (ad 0) (ad 1) (ad 2), nW G (ad 2) np (nI zn)]) (wb' := [xO G ax (ad 11 0) (ad 11 1) (ad 11 2) (ad 9) (ad 10) (ad 11 3) (ad 11 4) ab bl, oS G (ad 11 0) (ad 0) (ad 1) (ad 2), nW G (ad 2) np 0]) [0, 1, 4] (c_X5_forget l G ax (ad 11 0) (ad 0) (ad 1) (ad 2) (ad 11 1) (ad 11 2) (ad 9) (ad 10) (ad 11 3) (ad 11 4) ab bl np zn) (by decide) (by decide) rfl rfl rfl rfl rfl rfl
  · have hc := c_X6_forget l G am  nw rd asd img kpt txt sz abv blw bds nos fls att bgn tkn wrd vlu sts bst 
    rw [e8] at hc
    exact LC.ofT (wb := [mY G am (nw, rd, asd, img, kpt, txt, sz, abv, blw, bds, nos, fls, att, bgn, tkn, wrd, vlu, sts, bst)]) (wb' := [mY G am ((upd nw 35 0), rd, asd, img, kpt, txt, sz, abv, blw, bds, nos, fls, att, bgn, tkn, wrd, vlu, sts, bst)]) [0] hc (by decide) (by decide) (flat1 _) (flat1 _) rfl rfl rfl rfl
set_option maxRecDepth 100000 in
theorem op_type (l : Launch) (K : KA) (G : GG) (ax : Nat) (ad : Ad) (am : Nat → Nat) (X : XS) (Y : YS) (h : Rel X Y) (x : Int32) : OPi Rel K l G ax ad am yX5_type cX5_type 2 yX6_type cX6_type 2 [.int x] X Y := by
  obtain ⟨⟨⟨wo, mi, bi, la, ch, ki, se, wd, hu, b9⟩, ⟨old, psz, T⟩, np, ns⟩, i0, i1, kp, ⟨f, len, pl, sa, tk, vl⟩, ⟨wo1, mi1, bi1, la1, ch1, ki1, se1, wd1, hu1, bt1⟩, sg, rf, ab, bl⟩ := X
  obtain ⟨nw, rd, asd, img, kpt, txt, sz, abv, blw, bds, nos, fls, att, bgn, tkn, wrd, vlu, sts, bst⟩ := Y
  obtain ⟨h1, h2, h3, h4, h5, h6⟩ := h
  obtain ⟨z, q, r, hz, e1, e2, e3, e4, h7⟩ := h3
  have e1 : len = nI z := e1
  have e2 : sz = nI z := e2
  subst e1; subst e2
  by_cases c : inI x 0 127 = true
  · by_cases d : z = 150
    · refine ⟨-4, Unit, Unit, fun _ => (((wo, mi, bi, la, ch, ki, se, wd, hu, b9), (old, psz, T), (np, ns)), i0, i1, kp, (f, nI z, pl, sa, tk, vl), (wo1, mi1, bi1, la1, ch1, ki1, se1, wd1, hu1, bt1), sg, upd rf 2 (rf 2 + 1), ab, bl), fun _ => (nw, rd, asd, img, kpt, txt, nI z, abv, blw, bds, nos, fls + 1, att, bgn, tkn, wrd, vlu, sts, bst), ?_, ?_, fun _ _ => ⟨h1, h2, ⟨z, q, r, hz, rfl, rfl, e3, e4, h7⟩, rf_2 h4, h5, h6⟩⟩
      · exact LC.ofT (wb := [xO G ax (ad 11 0) (ad 11 1) (ad 11 2) (ad 9) (ad 10) (ad 11 3) (ad 11 4) ab bl, xT G (ad 9) f (nI z) pl sa tk vl, aW G (ad 11 4) 3 rf]) (wb' := [xO G ax (ad 11 0) (ad 11 1) (ad 11 2) (ad 9) (ad 10) (ad 11 3) (ad 11 4) ab bl, xT G (ad 9) f (nI z) pl sa tk vl, aW G (ad 11 4) 3 (upd rf 2 (rf 2 + 1))]) [0, 15, 18] (c_X5_type_full l G ax (ad 11 0) (ad 11 1) (ad 11 2) (ad 9) (ad 10) (ad 11 3) (ad 11 4) x ab bl f z pl sa tk vl rf c (by omega) hz) (by decide) (by decide) rfl rfl rfl rfl rfl rfl
      · have hc := c_X6_type l G am x nw rd asd img kpt txt (nI z) abv blw bds nos fls att bgn tkn wrd vlu sts bst z rfl hz
        simp only [c, eq_true d, if_true, true_and, not_true_eq_false, and_false, if_false] at hc
        exact LC.ofT (wb := [mY G am (nw, rd, asd, img, kpt, txt, nI z, abv, blw, bds, nos, fls, att, bgn, tkn, wrd, vlu, sts, bst)]) (wb' := [mY G am (nw, rd, asd, img, kpt, txt, nI z, abv, blw, bds, nos, fls + 1, att, bgn, tkn, wrd, vlu, sts, bst)]) [0] hc (by decide) (by decide) (flat1 _) (flat1 _) rfl rfl rfl rfl
    · obtain ⟨a, -, ha, ea⟩ := inI_nat (a := 0) (b := 127) (by omega) (by omega) rfl rfl c
      have ex : x.toInt8.toInt32.toInt8.toInt32 = x := by rw [ea]; exact (by decide +kernel : ∀ a, a ≤ 127 → (nI a).toInt8.toInt32.toInt8.toInt32 = nI a) a ha
      refine ⟨nI (z + 1), Unit, Unit, fun _ => (((wo, mi, bi, la, ch, ki, se, wd, hu, b9), (old, psz, T), (np, ns)), i0, i1, kp, (upd f z x, nI (z + 1), pl, sa, tk, vl), (wo1, mi1, bi1, la1, ch1, ki1, se1, wd1, hu1, bt1), sg, rf, ab, bl), fun _ => (nw, rd, asd, img, kpt, (upd txt z x), nI (z + 1), abv, blw, bds, nos, fls, att, bgn, tkn, wrd, vlu, sts, bst), ?_, ?_, fun _ _ => ⟨h1, h2, ⟨z + 1, q, r, by omega, rfl, rfl, e3, e4, fun j hj => rel_type h7 ⟨a, ha, ea⟩ j hj⟩, h4, h5, h6⟩⟩
      · rw [show upd f z x = upd f z x.toInt8.toInt32.toInt8.toInt32 by rw [ex]]; exact LC.ofT (wb := [xO G ax (ad 11 0) (ad 11 1) (ad 11 2) (ad 9) (ad 10) (ad 11 3) (ad 11 4) ab bl, xT G (ad 9) f (nI z) pl sa tk vl]) (wb' := [xO G ax (ad 11 0) (ad 11 1) (ad 11 2) (ad 9) (ad 10) (ad 11 3) (ad 11 4) ab bl, xT G (ad 9) (upd f z x.toInt8.toInt32.toInt8.toInt32) (nI (z + 1)) pl sa tk vl]) [0, 15] (c_X5_type_ok l G ax (ad 11 0) (ad 11 1) (ad 11 2) (ad 9) (ad 10) (ad 11 3) (ad 11 4) x ab bl f z pl sa tk vl c (by omega)) (by decide) (by decide) rfl rfl rfl rfl rfl rfl
      · have hc := c_X6_type l G am x nw rd asd img kpt txt (nI z) abv blw bds nos fls att bgn tkn wrd vlu sts bst z rfl hz
        simp only [c, eq_false d, if_true, true_and, not_false_eq_true, and_true, if_false, and_false, nI_1] at hc
        exact LC.ofT (wb := [mY G am (nw, rd, asd, img, kpt, txt, nI z, abv, blw, bds, nos, fls, att, bgn, tkn, wrd, vlu, sts, bst)]) (wb' := [mY G am (nw, rd, asd, img, kpt, (upd txt z x), nI (z + 1), abv, blw, bds, nos, fls, att, bgn, tkn, wrd, vlu, sts, bst)]) [0] hc (by decide) (by decide) (flat1 _) (flat1 _) rfl rfl rfl rfl
  · have c := Bool.eq_false_iff.mpr c
    refine ⟨-2, Unit, Unit, fun _ => (((wo, mi, bi, la, ch, ki, se, wd, hu, b9), (old, psz, T), (np, ns)), i0, i1, kp, (f, nI z, pl, sa, tk, vl), (wo1, mi1, bi1, la1, ch1, ki1, se1, wd1, hu1, bt1), sg, upd rf 0 (rf 0 + 1), ab, bl), fun _ => (nw, rd, asd, img, kpt, txt, nI z, abv, blw, bds + 1, nos, fls, att, bgn, tkn, wrd, vlu, sts, bst), ?_, ?_, fun _ _ => ⟨h1, h2, ⟨z, q, r, hz, rfl, rfl, e3, e4, h7⟩, rf_0 h4, h5, h6⟩⟩
    · exact LC.ofT (wb := [xO G ax (ad 11 0) (ad 11 1) (ad 11 2) (ad 9) (ad 10) (ad 11 3) (ad 11 4) ab bl, aW G (ad 11 4) 3 rf]) (wb' := [xO G ax (ad 11 0) (ad 11 1) (ad 11 2) (ad 9) (ad 10) (ad 11 3) (ad 11 4) ab bl, aW G (ad 11 4) 3 (upd rf 0 (rf 0 + 1))]) [0, 18] (c_X5_type_bad l G ax (ad 11 0) (ad 11 1) (ad 11 2) (ad 9) (ad 10) (ad 11 3) (ad 11 4) x ab bl rf c) (by decide) (by decide) rfl rfl rfl rfl rfl rfl
    · have hc := c_X6_type l G am x nw rd asd img kpt txt (nI z) abv blw bds nos fls att bgn tkn wrd vlu sts bst z rfl hz
      simp only [c, Bool.false_eq_true, if_false, false_and] at hc
      exact LC.ofT (wb := [mY G am (nw, rd, asd, img, kpt, txt, nI z, abv, blw, bds, nos, fls, att, bgn, tkn, wrd, vlu, sts, bst)]) (wb' := [mY G am (nw, rd, asd, img, kpt, txt, nI z, abv, blw, bds + 1, nos, fls, att, bgn, tkn, wrd, vlu, sts, bst)]) [0] hc (by decide) (by decide) (flat1 _) (flat1 _) rfl rfl rfl rfl

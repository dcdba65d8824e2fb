theorem relS_new {x : Int32} {ki se wd hu b9 np : Nat → Int32} {T : Nat → Tb} (hx : ∃ a, a < 8 ∧ x = nI a) : RelS ((x, 0, 0, 0, 0, ki, se, wd, hu, b9), (0, 0, T), (np, 0)) (upd bg0 20 x) := by
  refine ⟨0, 0, 0, 0, by omega, rfl, ⟨rfl, rfl, rfl, rfl, rfl, ?_, ⟨0, by omega, rfl⟩, fun j hj => absurd hj (by omega), fun i hi => absurd hi (by omega), fun j _ hj => ?_, bd_0 x⟩, fun j hj => absurd hj (by omega), fun j hj => absurd hj (by omega), by omega, rfl, rfl, fun j hj => absurd hj (by omega), by omega, by omega, rfl, rfl, rfl, fun k hk => absurd hk (by omega)⟩
  · rw [upd_at]; exact hx
  · rw [upd_ne _ _ (by omega), bg0, if_neg (by omega)]
set_option maxRecDepth 100000 in
theorem op_status (l : Launch) (K : KA) (G : GG) (ax : Nat) (ad : Ad) (am : Nat → Nat) (X : XS) (Y : YS) (h : Rel X Y) (x : Int32) : OPi Rel K l G ax ad am yX5_status cX5_status 2 yX6_status cX6_status 2 [.int x] X Y := by
  obtain ⟨⟨⟨wo, mi, bi, la, ch, ki, se, wd, hu, b9⟩, ⟨old, psz, T⟩, np, ns⟩, i0, i1, kp, ⟨f, len, pl, sa, tk, vl⟩, ⟨wo1, mi1, bi1, la1, ch1, ki1, se1, wd1, hu1, bt1⟩, sg, rf, ab, bl⟩ := X
  obtain ⟨nw, rd, asd, img, kpt, txt, sz, abv, blw, bds, nos, fls, att, bgn, tkn, wrd, vlu, sts, bst⟩ := Y
  obtain ⟨h1, h2, h3, ⟨e0, e1, e2⟩, h5, h6⟩ := h
  have e0 : rf 0 = bds := e0
  have e1 : rf 1 = nos := e1
  have e2 : rf 2 = fls := e2
  subst e0; subst e1; subst e2
  by_cases c : inI x 0 2 = true
  · obtain ⟨k, -, hk, ex⟩ := inI_nat (a := 0) (b := 2) (by omega) (by omega) rfl rfl c
    subst ex
    rcases (show k = 0 ∨ k = 1 ∨ k = 2 by omega) with e | e | e
    · subst e
      refine ⟨rf 0, Unit, Unit, fun _ => (((wo, mi, bi, la, ch, ki, se, wd, hu, b9), (old, psz, T), (np, ns)), i0, i1, kp, (f, len, pl, sa, tk, vl), (wo1, mi1, bi1, la1, ch1, ki1, se1, wd1, hu1, bt1), sg, rf, ab, bl), fun _ => (nw, rd, asd, img, kpt, txt, sz, abv, blw, (rf 0), (rf 1), (rf 2), att, bgn, tkn, wrd, vlu, sts, bst), ?_, ?_, fun _ _ => ⟨h1, h2, h3, ⟨rfl, rfl, rfl⟩, h5, h6⟩⟩
      · exact LC.ofT (wb := [xO G ax (ad 11 0) (ad 11 1) (ad 11 2) (ad 9) (ad 10) (ad 11 3) (ad 11 4) ab bl, aW G (ad 11 4) 3 rf]) (wb' := [xO G ax (ad 11 0) (ad 11 1) (ad 11 2) (ad 9) (ad 10) (ad 11 3) (ad 11 4) ab bl, aW G (ad 11 4) 3 rf]) [0, 18] (c_X5_status_ok l G ax (ad 11 0) (ad 11 1) (ad 11 2) (ad 9) (ad 10) (ad 11 3) (ad 11 4) (nI 0) 0 rfl ab bl rf c (by omega)) (by decide) (by decide) rfl rfl rfl rfl rfl rfl
      · have hc := c_X6_status l G am (nI 0) nw rd asd img kpt txt sz abv blw (rf 0) (rf 1) (rf 2) att bgn tkn wrd vlu sts bst 
        simp only [eq_true (show nI 0 = 0 from rfl), if_true, true_or] at hc
        exact LC.ofT (wb := [mY G am (nw, rd, asd, img, kpt, txt, sz, abv, blw, (rf 0), (rf 1), (rf 2), att, bgn, tkn, wrd, vlu, sts, bst)]) (wb' := [mY G am (nw, rd, asd, img, kpt, txt, sz, abv, blw, (rf 0), (rf 1), (rf 2), att, bgn, tkn, wrd, vlu, sts, bst)]) [0] hc (by decide) (by decide) (flat1 _) (flat1 _) rfl rfl rfl rfl
    · subst e
      refine ⟨rf 1, Unit, Unit, fun _ => (((wo, mi, bi, la, ch, ki, se, wd, hu, b9), (old, psz, T), (np, ns)), i0, i1, kp, (f, len, pl, sa, tk, vl), (wo1, mi1, bi1, la1, ch1, ki1, se1, wd1, hu1, bt1), sg, rf, ab, bl), fun _ => (nw, rd, asd, img, kpt, txt, sz, abv, blw, (rf 0), (rf 1), (rf 2), att, bgn, tkn, wrd, vlu, sts, bst), ?_, ?_, fun _ _ => ⟨h1, h2, h3, ⟨rfl, rfl, rfl⟩, h5, h6⟩⟩
      · exact LC.ofT (wb := [xO G ax (ad 11 0) (ad 11 1) (ad 11 2) (ad 9) (ad 10) (ad 11 3) (ad 11 4) ab bl, aW G (ad 11 4) 3 rf]) (wb' := [xO G ax (ad 11 0) (ad 11 1) (ad 11 2) (ad 9) (ad 10) (ad 11 3) (ad 11 4) ab bl, aW G (ad 11 4) 3 rf]) [0, 18] (c_X5_status_ok l G ax (ad 11 0) (ad 11 1) (ad 11 2) (ad 9) (ad 10) (ad 11 3) (ad 11 4) (nI 1) 1 rfl ab bl rf c (by omega)) (by decide) (by decide) rfl rfl rfl rfl rfl rfl
      · have hc := c_X6_status l G am (nI 1) nw rd asd img kpt txt sz abv blw (rf 0) (rf 1) (rf 2) att bgn tkn wrd vlu sts bst 
        simp only [eq_false (show ¬ nI 1 = 0 by decide), eq_true (show nI 1 = 1 from rfl), if_true, if_false, true_or, or_true] at hc
        exact LC.ofT (wb := [mY G am (nw, rd, asd, img, kpt, txt, sz, abv, blw, (rf 0), (rf 1), (rf 2), att, bgn, tkn, wrd, vlu, sts, bst)]) (wb' := [mY G am (nw, rd, asd, img, kpt, txt, sz, abv, blw, (rf 0), (rf 1), (rf 2), att, bgn, tkn, wrd, vlu, sts, bst)]) [0] hc (by decide) (by decide) (flat1 _) (flat1 _) rfl rfl rfl rfl
    · subst e
      refine ⟨rf 2, Unit, Unit, fun _ => (((wo, mi, bi, la, ch, ki, se, wd, hu, b9), (old, psz, T), (np, ns)), i0, i1, kp, (f, len, pl, sa, tk, vl), (wo1, mi1, bi1, la1, ch1, ki1, se1, wd1, hu1, bt1), sg, rf, ab, bl), fun _ => (nw, rd, asd, img, kpt, txt, sz, abv, blw, (rf 0), (rf 1), (rf 2), att, bgn, tkn, wrd, vlu, sts, bst), ?_, ?_, fun _ _ => ⟨h1, h2, h3, ⟨rfl, rfl, rfl⟩, h5, h6⟩⟩
      · exact LC.ofT (wb := [xO G ax (ad 11 0) (ad 11 1) (ad 11 2) (ad 9) (ad 10) (ad 11 3) (ad 11 4) ab bl, aW G (ad 11 4) 3 rf]) (wb' := [xO G ax (ad 11 0) (ad 11 1) (ad 11 2) (ad 9) (ad 10) (ad 11 3) (ad 11 4) ab bl, aW G (ad 11 4) 3 rf]) [0, 18] (c_X5_status_ok l G ax (ad 11 0) (ad 11 1) (ad 11 2) (ad 9) (ad 10) (ad 11 3) (ad 11 4) (nI 2) 2 rfl ab bl rf c (by omega)) (by decide) (by decide) rfl rfl rfl rfl rfl rfl
      · have hc := c_X6_status l G am (nI 2) nw rd asd img kpt txt sz abv blw (rf 0) (rf 1) (rf 2) att bgn tkn wrd vlu sts bst 
        simp only [eq_false (show ¬ nI 2 = 0 by decide), eq_false (show ¬ nI 2 = 1 by decide), eq_true (show nI 2 = 2 from rfl), if_true, if_false, or_true] at hc
        exact LC.ofT (wb := [mY G am (nw, rd, asd, img, kpt, txt, sz, abv, blw, (rf 0), (rf 1), (rf 2), att, bgn, tkn, wrd, vlu, sts, bst)]) (wb' := [mY G am (nw, rd, asd, img, kpt, txt, sz, abv, blw, (rf 0), (rf 1), (rf 2), att, bgn, tkn, wrd, vlu, sts, bst)]) [0] hc (by decide) (by decide) (flat1 _) (flat1 _) rfl rfl rfl rfl
  · have n0 : ¬ x = 0 := fun e => c (by rw [e]; decide)
    have n1 : ¬ x = 1 := fun e => c (by rw [e]; decide)
    have n2 : ¬ x = 2 := fun e => c (by rw [e]; decide)
    have c := Bool.eq_false_iff.mpr c
    refine ⟨-1, Unit, Unit, fun _ => (((wo, mi, bi, la, ch, ki, se, wd, hu, b9), (old, psz, T), (np, ns)), i0, i1, kp, (f, len, pl, sa, tk, vl), (wo1, mi1, bi1, la1, ch1, ki1, se1, wd1, hu1, bt1), sg, upd rf 0 (rf 0 + 1), ab, bl), fun _ => (nw, rd, asd, img, kpt, txt, sz, abv, blw, (rf 0 + 1), (rf 1), (rf 2), att, bgn, tkn, wrd, vlu, sts, bst), ?_, ?_, fun _ _ => ⟨h1, h2, h3, rf_0 ⟨rfl, rfl, rfl⟩, h5, h6⟩⟩
    · exact LC.ofT (wb := [xO G ax (ad 11 0) (ad 11 1) (ad 11 2) (ad 9) (ad 10) (ad 11 3) (ad 11 4) ab bl, aW G (ad 11 4) 3 rf]) (wb' := [xO G ax (ad 11 0) (ad 11 1) (ad 11 2) (ad 9) (ad 10) (ad 11 3) (ad 11 4) ab bl, aW G (ad 11 4) 3 (upd rf 0 (rf 0 + 1))]) [0, 18] (c_X5_status_bad l G ax (ad 11 0) (ad 11 1) (ad 11 2) (ad 9) (ad 10) (ad 11 3) (ad 11 4) x ab bl rf c) (by decide) (by decide) rfl rfl rfl rfl rfl rfl
    · have hc := c_X6_status l G am x nw rd asd img kpt txt sz abv blw (rf 0) (rf 1) (rf 2) att bgn tkn wrd vlu sts bst 
      simp only [eq_false n0, eq_false n1, eq_false n2, if_false, or_false] at hc
      exact LC.ofT (wb := [mY G am (nw, rd, asd, img, kpt, txt, sz, abv, blw, (rf 0), (rf 1), (rf 2), att, bgn, tkn, wrd, vlu, sts, bst)]) (wb' := [mY G am (nw, rd, asd, img, kpt, txt, sz, abv, blw, (rf 0 + 1), (rf 1), (rf 2), att, bgn, tkn, wrd, vlu, sts, bst)]) [0] hc (by decide) (by decide) (flat1 _) (flat1 _) rfl rfl rfl rfl
set_option maxRecDepth 100000 in
theorem op_table (l : Launch) (K : KA) (G : GG) (ax : Nat) (ad : Ad) (am : Nat → Nat) (X : XS) (Y : YS) (h : Rel X Y) (x : Int32) : OPi Rel K l G ax ad am yX5_table cX5_table 3 yX6_table cX6_table 3 [.int x] X Y := by
  obtain ⟨⟨⟨wo, mi, bi, la, ch, ki, se, wd, hu, b9⟩, ⟨old, psz, T⟩, np, ns⟩, i0, i1, kp, ⟨f, len, pl, sa, tk, vl⟩, ⟨wo1, mi1, bi1, la1, ch1, ki1, se1, wd1, hu1, bt1⟩, sg, rf, ab, bl⟩ := X
  obtain ⟨nw, rd, asd, img, kpt, txt, sz, abv, blw, bds, nos, fls, att, bgn, tkn, wrd, vlu, sts, bst⟩ := Y
  obtain ⟨h1, h2, h3, h4, h5, h6⟩ := h
  by_cases c : inI x 0 7 = true
  · obtain ⟨n, zn, u, o, a1, a2, a3, a4, a5, a6, a7, a8, a9, b1, b2, b3, b4, b5, b6⟩ := h1
    obtain ⟨a, -, ha, ea⟩ := inI_nat (a := 0) (b := 7) (by omega) (by omega) rfl rfl c
    have e1 : ch = nI n := a3.2.2.2.2.1
    have e2 : ns = nI zn := a7
    have e3 : old = nI o := b3
    have e4 : psz = nI u := b4
    subst e1; subst e2; subst e3; subst e4
    have e5 : nw 22 = nI n := a2
    have hS2 : RelS ((x, 0, 0, 0, 0, ki1, se1, wd1, hu1, bt1), (0, 0, T), (np, 0)) (upd bg0 20 x) := relS_new ⟨a, by omega, ea⟩
    refine ⟨nI n, Unit, Unit, fun _ => (((x, 0, 0, 0, 0, ki1, se1, wd1, hu1, bt1), (0, 0, T), (np, 0)), i0, i1, kp, (f, len, pl, sa, tk, vl), (x, 0, 0, 0, 0, ki1, se1, wd1, hu1, bt1), sg, rf, ab, bl), fun _ => ((upd bg0 20 x), rd, asd, img, kpt, txt, sz, abv, blw, bds, nos, fls, att, bgn, tkn, wrd, vlu, sts, bst), ?_, ?_, fun _ _ => ⟨hS2, h2, h3, h4, h5, h6⟩⟩
    · exact LC.ofT (wb := [xO G ax (ad 11 0) (ad 11 1) (ad 11 2) (ad 9) (ad 10) (ad 11 3) (ad 11 4) ab bl, oS G (ad 11 0) (ad 0) (ad 1) (ad 2), tW G (ad 0) wo mi bi la (nI n) ki se wd hu b9, pW G (ad 1) (nI o) (nI u) T, nW G (ad 2) np (nI zn), tW G (ad 10) wo1 mi1 bi1 la1 ch1 ki1 se1 wd1 hu1 bt1]) (wb' := [xO G ax (ad 11 0) (ad 11 1) (ad 11 2) (ad 9) (ad 10) (ad 11 3) (ad 11 4) ab bl, oS G (ad 11 0) (ad 0) (ad 1) (ad 2), tW G (ad 0) x 0 0 0 0 ki1 se1 wd1 hu1 bt1, pW G (ad 1) 0 0 T, nW G (ad 2) np 0, tW G (ad 10) x 0 0 0 0 ki1 se1 wd1 hu1 bt1]) [0, 1, 2, 3, 4, 16] (c_X5_table_ok l G ax (ad 11 0) (ad 0) (ad 1) (ad 2) (ad 11 1) (ad 11 2) (ad 9) (ad 10) (ad 11 3) (ad 11 4) x ab bl wo mi bi la n ki se wd hu b9 o u T np zn wo1 mi1 bi1 la1 ch1 ki1 se1 wd1 hu1 bt1 c) (by decide) (by decide) rfl rfl rfl rfl rfl rfl
    · have hc := c_X6_table l G am x nw rd asd img kpt txt sz abv blw bds nos fls att bgn tkn wrd vlu sts bst 
      simp only [c, if_true] at hc
      rw [e5] at hc
      exact LC.ofT (wb := [mY G am (nw, rd, asd, img, kpt, txt, sz, abv, blw, bds, nos, fls, att, bgn, tkn, wrd, vlu, sts, bst)]) (wb' := [mY G am ((upd bg0 20 x), rd, asd, img, kpt, txt, sz, abv, blw, bds, nos, fls, att, bgn, tkn, wrd, vlu, sts, bst)]) [0] hc (by decide) (by decide) (flat1 _) (flat1 _) rfl rfl rfl rfl
  · have c := Bool.eq_false_iff.mpr c
    refine ⟨-2, Unit, Unit, fun _ => (((wo, mi, bi, la, ch, ki, se, wd, hu, b9), (old, psz, T), (np, ns)), i0, i1, kp, (f, len, pl, sa, tk, vl), (wo1, mi1, bi1, la1, ch1, ki1, se1, wd1, hu1, bt1), sg, upd rf 0 (rf 0 + 1), ab, bl), fun _ => (nw, rd, asd, img, kpt, txt, sz, abv, blw, bds + 1, nos, fls, att, bgn, tkn, wrd, vlu, sts, bst), ?_, ?_, fun _ _ => ⟨h1, h2, h3, rf_0 h4, h5, h6⟩⟩
    · exact LC.ofT (wb := [xO G ax (ad 11 0) (ad 11 1) (ad 11 2) (ad 9) (ad 10) (ad 11 3) (ad 11 4) ab bl, aW G (ad 11 4) 3 rf]) (wb' := [xO G ax (ad 11 0) (ad 11 1) (ad 11 2) (ad 9) (ad 10) (ad 11 3) (ad 11 4) ab bl, aW G (ad 11 4) 3 (upd rf 0 (rf 0 + 1))]) [0, 18] (c_X5_table_no l G ax (ad 11 0) (ad 11 1) (ad 11 2) (ad 9) (ad 10) (ad 11 3) (ad 11 4) x ab bl rf c) (by decide) (by decide) rfl rfl rfl rfl rfl rfl
    · have hc := c_X6_table l G am x nw rd asd img kpt txt sz abv blw bds nos fls att bgn tkn wrd vlu sts bst 
      simp only [c, Bool.false_eq_true, if_false] at hc
      exact LC.ofT (wb := [mY G am (nw, rd, asd, img, kpt, txt, sz, abv, blw, bds, nos, fls, att, bgn, tkn, wrd, vlu, sts, bst)]) (wb' := [mY G am (nw, rd, asd, img, kpt, txt, sz, abv, blw, bds + 1, nos, fls, att, bgn, tkn, wrd, vlu, sts, bst)]) [0] hc (by decide) (by decide) (flat1 _) (flat1 _) rfl rfl rfl rfl

set_option maxRecDepth 100000 in
theorem op_count (l : Launch) (K : KA) (G : GG) (ax : Nat) (ad : Ad) (am : Nat → Nat) (X : XS) (Y : YS) (h : Rel X Y) (x : Int32) : OPi Rel K l G ax ad am yX5_count cX5_count 2 yX6_count cX6_count 2 [.int x] X Y := by
  obtain ⟨⟨⟨wo, mi, bi, la, ch, ki, se, wd, hu, b9⟩, ⟨old, psz, T⟩, np, ns⟩, i0, i1, kp, ⟨f, len, pl, sa, tk, vl⟩, ⟨wo1, mi1, bi1, la1, ch1, ki1, se1, wd1, hu1, bt1⟩, sg, rf, ab, bl⟩ := X
  obtain ⟨nw, rd, asd, img, kpt, txt, sz, abv, blw, bds, nos, fls, att, bgn, tkn, wrd, vlu, sts, bst⟩ := Y
  obtain ⟨h1, h2, h3, h4, h5, h6⟩ := h
  obtain ⟨n, zn, u, o, a1, a2, a3, a4, a5, a6, a7, a8, a9, b1, b2, b3, b4, b5, b6⟩ := h1
  have e1 : ch = nI n := a3.2.2.2.2.1
  have e2 : ns = nI zn := a7
  have e3 : old = nI o := b3
  have e4 : psz = nI u := b4
  subst e1; subst e2; subst e3; subst e4
  have e5 : nw 22 = nI n := a2
  obtain ⟨z, q, r, hz, f1, f2, f3, f4, h7⟩ := h3
  have f1 : len = nI z := f1
  have f2 : sz = nI z := f2
  subst f1; subst f2
  have g1 : wo = nw 20 := a3.1
  have g2 : mi = nw 21 := a3.2.1
  have g3 : bi = nw 18 := a3.2.2.1
  have g4 : la = nw 19 := a3.2.2.2.1
  have g5 : nw 35 = nI zn := a8
  have g6 : nw 78 = nI u := b5
  by_cases c : inI x 0 7 = true
  · have ec : cnM nw (nI z) x = hmC wo mi bi la n zn u z x := by rw [cnM, hmC, e5, g5, g6, g1, g2, g3, g4]
    refine ⟨hmC wo mi bi la n zn u z x, Unit, Unit, fun _ => (((wo, mi, bi, la, nI n, ki, se, wd, hu, b9), (nI o, nI u, T), (np, nI zn)), i0, i1, kp, (f, nI z, pl, sa, tk, vl), (wo1, mi1, bi1, la1, ch1, ki1, se1, wd1, hu1, bt1), sg, rf, ab, bl), fun _ => (nw, rd, asd, img, kpt, txt, nI z, abv, blw, bds, nos, fls, att, bgn, tkn, wrd, vlu, sts, bst), ?_, ?_, fun _ _ => ⟨⟨n, zn, u, o, a1, a2, a3, a4, a5, a6, rfl, a8, a9, b1, b2, rfl, rfl, b5, b6⟩, h2, ⟨z, q, r, hz, rfl, rfl, f3, f4, h7⟩, h4, h5, h6⟩⟩
    · exact LC.ofT (wb := [xO G ax (ad 11 0) (ad 11 1) (ad 11 2) (ad 9) (ad 10) (ad 11 3) (ad 11 4) ab bl, oS G (ad 11 0) (ad 0) (ad 1) (ad 2), tW G (ad 0) wo mi bi la (nI n) ki se wd hu b9, pW G (ad 1) (nI o) (nI u) T, nW G (ad 2) np (nI zn), xT G (ad 9) f (nI z) pl sa tk vl]) (wb' := [xO G ax (ad 11 0) (ad 11 1) (ad 11 2) (ad 9) (ad 10) (ad 11 3) (ad 11 4) ab bl, oS G (ad 11 0) (ad 0) (ad 1) (ad 2), tW G (ad 0) wo mi bi la (nI n) ki se wd hu b9, pW G (ad 1) (nI o) (nI u) T, nW G (ad 2) np (nI zn), xT G (ad 9) f (nI z) pl sa tk vl]) [0, 1, 2, 3, 4, 15] (c_X5_count_ok l G ax (ad 11 0) (ad 0) (ad 1) (ad 2) (ad 11 1) (ad 11 2) (ad 9) (ad 10) (ad 11 3) (ad 11 4) x ab bl wo mi bi la n ki se wd hu b9 o u T np zn f z pl sa tk vl c) (by decide) (by decide) rfl rfl rfl rfl rfl rfl
    · have hc := c_X6_count l G am x nw rd asd img kpt txt (nI z) abv blw bds nos fls att bgn tkn wrd vlu sts bst 
      simp only [c, if_true] at hc
      rw [ec] at hc
      exact LC.ofT (wb := [mY G am (nw, rd, asd, img, kpt, txt, nI z, abv, blw, bds, nos, fls, att, bgn, tkn, wrd, vlu, sts, bst)]) (wb' := [mY G am (nw, rd, asd, img, kpt, txt, nI z, abv, blw, bds, nos, fls, att, bgn, tkn, wrd, vlu, sts, bst)]) [0] hc (by decide) (by decide) (flat1 _) (flat1 _) rfl rfl rfl rfl
  · have c := Bool.eq_false_iff.mpr c
    refine ⟨-2, Unit, Unit, fun _ => (((wo, mi, bi, la, nI n, ki, se, wd, hu, b9), (nI o, nI u, T), (np, nI zn)), i0, i1, kp, (f, nI z, pl, sa, tk, vl), (wo1, mi1, bi1, la1, ch1, ki1, se1, wd1, hu1, bt1), sg, upd rf 0 (rf 0 + 1), ab, bl), fun _ => (nw, rd, asd, img, kpt, txt, nI z, abv, blw, bds + 1, nos, fls, att, bgn, tkn, wrd, vlu, sts, bst), ?_, ?_, fun _ _ => ⟨⟨n, zn, u, o, a1, a2, a3, a4, a5, a6, rfl, a8, a9, b1, b2, rfl, rfl, b5, b6⟩, h2, ⟨z, q, r, hz, rfl, rfl, f3, f4, h7⟩, rf_0 h4, h5, h6⟩⟩
    · exact LC.ofT (wb := [xO G ax (ad 11 0) (ad 11 1) (ad 11 2) (ad 9) (ad 10) (ad 11 3) (ad 11 4) ab bl, aW G (ad 11 4) 3 rf]) (wb' := [xO G ax (ad 11 0) (ad 11 1) (ad 11 2) (ad 9) (ad 10) (ad 11 3) (ad 11 4) ab bl, aW G (ad 11 4) 3 (upd rf 0 (rf 0 + 1))]) [0, 18] (c_X5_count_bad l G ax (ad 11 0) (ad 11 1) (ad 11 2) (ad 9) (ad 10) (ad 11 3) (ad 11 4) x ab bl rf c) (by decide) (by decide) rfl rfl rfl rfl rfl rfl
    · have hc := c_X6_count l G am x nw rd asd img kpt txt (nI z) abv blw bds nos fls att bgn tkn wrd vlu sts bst 
      simp only [c, Bool.false_eq_true, if_false] at hc
      exact LC.ofT (wb := [mY G am (nw, rd, asd, img, kpt, txt, nI z, abv, blw, bds, nos, fls, att, bgn, tkn, wrd, vlu, sts, bst)]) (wb' := [mY G am (nw, rd, asd, img, kpt, txt, nI z, abv, blw, bds + 1, nos, fls, att, bgn, tkn, wrd, vlu, sts, bst)]) [0] hc (by decide) (by decide) (flat1 _) (flat1 _) rfl rfl rfl rfl

set_option maxRecDepth 100000 in
theorem op_seated (l : Launch) (K : KA) (G : GG) (ax : Nat) (ad : Ad) (am : Nat → Nat) (X : XS) (Y : YS) (h : Rel X Y) (x : Int32) : OPi Rel K l G ax ad am yX5_seated cX5_seated 4 yX6_seated cX6_seated 3 [.int x] X Y := by
  obtain ⟨⟨⟨wo, mi, bi, la, ch, ki, se, wd, hu, b9⟩, ⟨old, psz, T⟩, np, ns⟩, i0, i1, kp, ⟨f, len, pl, sa, tk9, vl⟩, ⟨wo1, mi1, bi1, la1, ch1, ki1, se1, wd1, hu1, bt1⟩, sg, rf, ab, bl⟩ := X
  obtain ⟨nw, rd, asd, img, kpt, txt, sz, abv, blw, bds, nos, fls, att, bgn, tkn, wrd, vlu, sts, bst⟩ := Y
  obtain ⟨h1, h2, h3, h4, h5, h6⟩ := h
  obtain ⟨n, zn, u, o, a1, a2, a3, a4, a5, a6, a7, a8, a9, b1, b2, b3, b4, b5, b6⟩ := h1
  have e1 : ch = nI n := a3.2.2.2.2.1
  have e2 : ns = nI zn := a7
  have e3 : old = nI o := b3
  have e4 : psz = nI u := b4
  subst e1; subst e2; subst e3; subst e4
  have e5 : nw 22 = nI n := a2
  have hF : FX n wo la ki wd hu b9 nw := by
    obtain ⟨g1, g2, g3, g4, g5, g6, g7, g8, g9, g10⟩ := id a3
    obtain ⟨ma, hma, ⟨lb, hlb, elb⟩, -, hbt⟩ := g10.2
    refine ⟨a1, g1, g6, g4, ⟨lb, hlb, elb⟩, fun j hj => ?_⟩
    obtain ⟨q1, q2, q3, q4, q5⟩ := g8 j hj
    obtain ⟨wa, hwa, ewa⟩ := (a5 j hj).2
    obtain ⟨bb, hbb, ebb⟩ := hbt j (by omega)
    exact ⟨q2, q3, (a4 j hj).1, (a4 j hj).2, q5, ⟨wa, by omega, ewa⟩, bb, by omega, ebb⟩
  obtain ⟨F9, r1, r2, hF9, hs1, hs2⟩ := seat_M hF a3.2.2.2.2.2.2.2.2.1 (fun j hj => (a3.2.2.2.2.2.2.2.1 j hj).2.2.2.1) se sg bst sts
  obtain ⟨Z, hZ⟩ : ∃ Z, srC wo la n ki wd hu b9 7 0 (nI n + 1) se sg = Z := ⟨_, rfl⟩
  rw [hZ] at hs1 hs2
  by_cases d : x = -1
  · refine ⟨Z.1, Unit, ((Nat → Int32) × (Nat → Int32) × (Nat → Int32)), fun uu => (((wo, mi, bi, la, nI n, ki, se, wd, hu, b9), (nI o, nI u, T), (np, nI zn)), i0, i1, kp, (f, len, pl, sa, tk9, vl), (wo, mi, bi, la, Z.2.1, ki, Z.2.2.1, wd, hu, b9), Z.2.2.2, rf, ab, bl), fun vv => (nw, rd, vv.1, img, kpt, txt, sz, abv, blw, bds, nos, fls, att, bgn, tkn, wrd, vlu, vv.2.1, vv.2.2), ?_, ?_, fun _ _ => ⟨⟨n, zn, u, o, a1, a2, a3, a4, a5, a6, rfl, a8, a9, b1, b2, rfl, rfl, b5, b6⟩, h2, h3, h4, h5, h6⟩⟩
    · exact LC.ofT (wb := [xO G ax (ad 11 0) (ad 11 1) (ad 11 2) (ad 9) (ad 10) (ad 11 3) (ad 11 4) ab bl, oS G (ad 11 0) (ad 0) (ad 1) (ad 2), tW G (ad 0) wo mi bi la (nI n) ki se wd hu b9, tW G (ad 10) wo1 mi1 bi1 la1 ch1 ki1 se1 wd1 hu1 bt1, aW G (ad 11 3) 6 sg]) (wb' := [xO G ax (ad 11 0) (ad 11 1) (ad 11 2) (ad 9) (ad 10) (ad 11 3) (ad 11 4) ab bl, oS G (ad 11 0) (ad 0) (ad 1) (ad 2), tW G (ad 0) wo mi bi la (nI n) ki se wd hu b9, tW G (ad 10) wo mi bi la Z.2.1 ki Z.2.2.1 wd hu b9, aW G (ad 11 3) 6 Z.2.2.2]) [0, 1, 2, 16, 17] (c_X5_seated_all l G ax (ad 11 0) (ad 0) (ad 1) (ad 2) (ad 11 1) (ad 11 2) (ad 9) (ad 10) (ad 11 3) (ad 11 4) x ab bl wo mi bi la n ki se wd hu b9 wo1 mi1 bi1 la1 ch1 ki1 se1 wd1 hu1 bt1 sg Z a1 hZ d) (by decide) (by decide) rfl rfl rfl rfl rfl rfl
    · have hc := c_X6_seated l G am x nw rd asd img kpt txt sz abv blw bds nos fls att bgn tkn wrd vlu sts bst n F9 r1 r2 a2 a1 hF9
      simp only [e5, eq_true d, true_or, if_true] at hc
      rw [← hs1] at hc
      exact LC.ofE (wb := [mY G am (nw, rd, asd, img, kpt, txt, sz, abv, blw, bds, nos, fls, att, bgn, tkn, wrd, vlu, sts, bst)]) (Fb := fun vv : ((Nat → Int32) × (Nat → Int32) × (Nat → Int32)) => [mY G am (nw, rd, vv.1, img, kpt, txt, sz, abv, blw, bds, nos, fls, att, bgn, tkn, wrd, vlu, vv.2.1, vv.2.2)]) [0] hc (by decide) (by decide) (flat1 _) (fun _ => flat1 _) rfl rfl (fun _ => rfl) (fun _ => rfl)
  · by_cases c : inI x 0 (nI n - 1) = true
    · obtain ⟨k, hk, ex⟩ := inI_child rfl a1 c
      refine ⟨Z.2.2.2 k, Unit, ((Nat → Int32) × (Nat → Int32) × (Nat → Int32)), fun uu => (((wo, mi, bi, la, nI n, ki, se, wd, hu, b9), (nI o, nI u, T), (np, nI zn)), i0, i1, kp, (f, len, pl, sa, tk9, vl), (wo, mi, bi, la, Z.2.1, ki, Z.2.2.1, wd, hu, b9), Z.2.2.2, rf, ab, bl), fun vv => (nw, rd, vv.1, img, kpt, txt, sz, abv, blw, bds, nos, fls, att, bgn, tkn, wrd, vlu, vv.2.1, vv.2.2), ?_, ?_, fun _ _ => ⟨⟨n, zn, u, o, a1, a2, a3, a4, a5, a6, rfl, a8, a9, b1, b2, rfl, rfl, b5, b6⟩, h2, h3, h4, h5, h6⟩⟩
      · exact LC.ofT (wb := [xO G ax (ad 11 0) (ad 11 1) (ad 11 2) (ad 9) (ad 10) (ad 11 3) (ad 11 4) ab bl, oS G (ad 11 0) (ad 0) (ad 1) (ad 2), tW G (ad 0) wo mi bi la (nI n) ki se wd hu b9, tW G (ad 10) wo1 mi1 bi1 la1 ch1 ki1 se1 wd1 hu1 bt1, aW G (ad 11 3) 6 sg]) (wb' := [xO G ax (ad 11 0) (ad 11 1) (ad 11 2) (ad 9) (ad 10) (ad 11 3) (ad 11 4) ab bl, oS G (ad 11 0) (ad 0) (ad 1) (ad 2), tW G (ad 0) wo mi bi la (nI n) ki se wd hu b9, tW G (ad 10) wo mi bi la Z.2.1 ki Z.2.2.1 wd hu b9, aW G (ad 11 3) 6 Z.2.2.2]) [0, 1, 2, 16, 17] (c_X5_seated_one l G ax (ad 11 0) (ad 0) (ad 1) (ad 2) (ad 11 1) (ad 11 2) (ad 9) (ad 10) (ad 11 3) (ad 11 4) x k ex ab bl wo mi bi la n ki se wd hu b9 wo1 mi1 bi1 la1 ch1 ki1 se1 wd1 hu1 bt1 sg Z a1 hZ d c hk) (by decide) (by decide) rfl rfl rfl rfl rfl rfl
      · have hc := c_X6_seated l G am x nw rd asd img kpt txt sz abv blw bds nos fls att bgn tkn wrd vlu sts bst n F9 r1 r2 a2 a1 hF9
        simp only [e5, eq_false d, c, or_true, if_true, if_false] at hc
        rw [show x.toNatClampNeg = k by rw [ex]; exact nI_clamp (by omega), ← hs2 k hk] at hc
        exact LC.ofE (wb := [mY G am (nw, rd, asd, img, kpt, txt, sz, abv, blw, bds, nos, fls, att, bgn, tkn, wrd, vlu, sts, bst)]) (Fb := fun vv : ((Nat → Int32) × (Nat → Int32) × (Nat → Int32)) => [mY G am (nw, rd, vv.1, img, kpt, txt, sz, abv, blw, bds, nos, fls, att, bgn, tkn, wrd, vlu, vv.2.1, vv.2.2)]) [0] hc (by decide) (by decide) (flat1 _) (fun _ => flat1 _) rfl rfl (fun _ => rfl) (fun _ => rfl)
    · have c := Bool.eq_false_iff.mpr c
      refine ⟨-10, Unit, ((Nat → Int32) × (Nat → Int32) × (Nat → Int32)), fun uu => (((wo, mi, bi, la, nI n, ki, se, wd, hu, b9), (nI o, nI u, T), (np, nI zn)), i0, i1, kp, (f, len, pl, sa, tk9, vl), (wo1, mi1, bi1, la1, ch1, ki1, se1, wd1, hu1, bt1), sg, upd rf 0 (rf 0 + 1), ab, bl), fun vv => (nw, rd, vv.1, img, kpt, txt, sz, abv, blw, bds + 1, nos, fls, att, bgn, tkn, wrd, vlu, vv.2.1, vv.2.2), ?_, ?_, fun _ _ => ⟨⟨n, zn, u, o, a1, a2, a3, a4, a5, a6, rfl, a8, a9, b1, b2, rfl, rfl, b5, b6⟩, h2, h3, rf_0 h4, h5, h6⟩⟩
      · exact LC.ofT (wb := [xO G ax (ad 11 0) (ad 11 1) (ad 11 2) (ad 9) (ad 10) (ad 11 3) (ad 11 4) ab bl, oS G (ad 11 0) (ad 0) (ad 1) (ad 2), tW G (ad 0) wo mi bi la (nI n) ki se wd hu b9, aW G (ad 11 4) 3 rf]) (wb' := [xO G ax (ad 11 0) (ad 11 1) (ad 11 2) (ad 9) (ad 10) (ad 11 3) (ad 11 4) ab bl, oS G (ad 11 0) (ad 0) (ad 1) (ad 2), tW G (ad 0) wo mi bi la (nI n) ki se wd hu b9, aW G (ad 11 4) 3 (upd rf 0 (rf 0 + 1))]) [0, 1, 2, 18] (c_X5_seated_bad l G ax (ad 11 0) (ad 0) (ad 1) (ad 2) (ad 11 1) (ad 11 2) (ad 9) (ad 10) (ad 11 3) (ad 11 4) x ab bl wo mi bi la n ki se wd hu b9 rf d c) (by decide) (by decide) rfl rfl rfl rfl rfl rfl
      · have hc := c_X6_seated l G am x nw rd asd img kpt txt sz abv blw bds nos fls att bgn tkn wrd vlu sts bst n F9 r1 r2 a2 a1 hF9
        simp only [e5, eq_false d, c, Bool.false_eq_true, or_self, if_false] at hc
        exact LC.ofE (wb := [mY G am (nw, rd, asd, img, kpt, txt, sz, abv, blw, bds, nos, fls, att, bgn, tkn, wrd, vlu, sts, bst)]) (Fb := fun vv : ((Nat → Int32) × (Nat → Int32) × (Nat → Int32)) => [mY G am (nw, rd, vv.1, img, kpt, txt, sz, abv, blw, bds + 1, nos, fls, att, bgn, tkn, wrd, vlu, vv.2.1, vv.2.2)]) [0] hc (by decide) (by decide) (flat1 _) (fun _ => flat1 _) rfl rfl (fun _ => rfl) (fun _ => rfl)

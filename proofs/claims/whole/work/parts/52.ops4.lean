set_option maxRecDepth 100000 in
theorem op_undo (l : Launch) (K : KA) (G : GG) (ax : Nat) (ad : Ad) (am : Nat → Nat) (X : XS) (Y : YS) (h : Rel X Y) : OPi Rel K l G ax ad am yX5_undo cX5_undo 1 yX6_undo cX6_undo 1 [] X Y := by
  obtain ⟨⟨⟨wo, mi, bi, la, ch, ki, se, wd, hu, b9⟩, ⟨old, psz, T⟩, np, ns⟩, i0, i1, kp, ⟨f, len, pl, sa, tk, vl⟩, ⟨wo1, mi1, bi1, la1, ch1, ki1, se1, wd1, hu1, bt1⟩, sg, rf, ab, bl⟩ := X
  obtain ⟨nw, rd, asd, img, kpt, txt, sz, abv, blw, bds, nos, fls, att, bgn, tkn, wrd, vlu, sts, bst⟩ := Y
  obtain ⟨h1, h2, h3, h4, h5, h6⟩ := h
  obtain ⟨n, zn, u, o, a1, a2, a3, a4, a5, a6, a7, a8, a9, b1, b2, b3, b4, b5, b6⟩ := h1
  have e1 : ch = nI n := a3.2.2.2.2.1
  have e2 : ns = nI zn := a7
  have e3 : old = nI o := b3
  have e4 : psz = nI u := b4
  subst e1; subst e2; subst e3; subst e4
  have e5 : nw 22 = nI n := a2
  by_cases c : u = 0
  · refine ⟨-3, Unit, Unit, fun _ => (((wo, mi, bi, la, nI n, ki, se, wd, hu, b9), (nI o, nI u, T), (np, nI zn)), i0, i1, kp, (f, len, pl, sa, tk, vl), (wo1, mi1, bi1, la1, ch1, ki1, se1, wd1, hu1, bt1), sg, upd rf 1 (rf 1 + 1), ab, bl), fun _ => (nw, rd, asd, img, kpt, txt, sz, abv, blw, bds, nos + 1, fls, att, bgn, tkn, wrd, vlu, sts, bst), ?_, ?_, fun _ _ => ⟨⟨n, zn, u, o, a1, a2, a3, a4, a5, a6, rfl, a8, a9, b1, b2, rfl, rfl, b5, b6⟩, h2, h3, rf_1 h4, h5, h6⟩⟩
    · exact LC.ofT (wb := [xO G ax (ad 11 0) (ad 11 1) (ad 11 2) (ad 9) (ad 10) (ad 11 3) (ad 11 4) ab bl, oS G (ad 11 0) (ad 0) (ad 1) (ad 2), pW G (ad 1) (nI o) (nI u) T, aW G (ad 11 4) 3 rf]) (wb' := [xO G ax (ad 11 0) (ad 11 1) (ad 11 2) (ad 9) (ad 10) (ad 11 3) (ad 11 4) ab bl, oS G (ad 11 0) (ad 0) (ad 1) (ad 2), pW G (ad 1) (nI o) (nI u) T, aW G (ad 11 4) 3 (upd rf 1 (rf 1 + 1))]) [0, 1, 3, 18] (c_X5_undo_no l G ax (ad 11 0) (ad 0) (ad 1) (ad 2) (ad 11 1) (ad 11 2) (ad 9) (ad 10) (ad 11 3) (ad 11 4) ab bl o u T rf c) (by decide) (by decide) rfl rfl rfl rfl rfl rfl
    · have hc := c_X6_undo l G am  nw rd asd img kpt txt sz abv blw bds nos fls att bgn tkn wrd vlu sts bst n u b5 b1
      simp only [eq_true c, if_true] at hc
      exact LC.ofT (wb := [mY G am (nw, rd, asd, img, kpt, txt, sz, abv, blw, bds, nos, fls, att, bgn, tkn, wrd, vlu, sts, bst)]) (wb' := [mY G am (nw, rd, asd, img, kpt, txt, sz, abv, blw, bds, nos + 1, fls, att, bgn, tkn, wrd, vlu, sts, bst)]) [0] hc (by decide) (by decide) (flat1 _) (flat1 _) rfl rfl rfl rfl
  · have ev : ∀ j, j < 22 → und nw (u - 1) j = nw (79 + 22 * (u - 1) + j) := fun j hj => by rw [und, pk_cpy_in (by omega) (by omega), upd_ne _ _ (by omega)]; exact congrArg nw (by omega)
    have eo : ∀ j, 22 ≤ j → ¬ j = 78 → und nw (u - 1) j = nw j := fun j h1 h2 => by rw [und, pk_cpy_out (by omega), upd_ne _ _ h2]
    have e78 : und nw (u - 1) 78 = nI (u - 1) := by rw [und, pk_cpy_out (by omega), upd_at]
    have hb := b6 (u - 1) (by omega)
    have hC : RelC n (T ((o + (u - 1)) % 8)) (und nw (u - 1)) := relC_congr a1 hb.1 ev
    have hm : (T ((o + (u - 1)) % 8)).2.1 = und nw (u - 1) 21 := hC.2.1
    have hS2 : RelS (T ((o + (u - 1)) % 8), (nI o, nI (u - 1), T), (np, nI zn)) (und nw (u - 1)) := ⟨n, zn, u - 1, o, a1, by rw [eo 22 (by omega) (by omega)]; exact a2, hC, relK_congr a1 hb.2 (fun j g1 g2 => eo j (by omega) (by omega)), fun j hj => by rw [eo (23 + j) (by omega) (by omega), eo (29 + j) (by omega) (by omega)]; exact a5 j hj, a6, rfl, by rw [eo 35 (by omega) (by omega)]; exact a8, fun j hj => by rw [eo (36 + j) (by omega) (by omega)]; exact a9 j hj, by omega, b2, rfl, rfl, e78, fun k hk => ⟨relC_congr a1 (b6 k (by omega)).1 (fun j hj => eo _ (by omega) (by omega)), relK_congr a1 (b6 k (by omega)).2 (fun j g1 g2 => eo j (by omega) (by omega))⟩⟩
    refine ⟨(T ((o + (u - 1)) % 8)).2.1, Unit, Unit, fun _ => ((T ((o + (u - 1)) % 8), (nI o, nI (u - 1), T), (np, nI zn)), i0, i1, kp, (f, len, pl, sa, tk, vl), (wo1, mi1, bi1, la1, ch1, ki1, se1, wd1, hu1, bt1), sg, rf, ab, bl), fun _ => ((und nw (u - 1)), rd, asd, img, kpt, txt, sz, abv, blw, bds, nos, fls, att, bgn, tkn, wrd, vlu, sts, bst), ?_, ?_, fun _ _ => ⟨hS2, h2, h3, h4, h5, h6⟩⟩
    · exact LC.ofT (wb := [xO G ax (ad 11 0) (ad 11 1) (ad 11 2) (ad 9) (ad 10) (ad 11 3) (ad 11 4) ab bl, oS G (ad 11 0) (ad 0) (ad 1) (ad 2), tW G (ad 0) wo mi bi la (nI n) ki se wd hu b9, pW G (ad 1) (nI o) (nI u) T]) (wb' := [xO G ax (ad 11 0) (ad 11 1) (ad 11 2) (ad 9) (ad 10) (ad 11 3) (ad 11 4) ab bl, oS G (ad 11 0) (ad 0) (ad 1) (ad 2), tW G (ad 0) ((T ((o + (u - 1)) % 8)).1) ((T ((o + (u - 1)) % 8)).2.1) ((T ((o + (u - 1)) % 8)).2.2.1) ((T ((o + (u - 1)) % 8)).2.2.2.1) ((T ((o + (u - 1)) % 8)).2.2.2.2.1) ((T ((o + (u - 1)) % 8)).2.2.2.2.2.1) ((T ((o + (u - 1)) % 8)).2.2.2.2.2.2.1) ((T ((o + (u - 1)) % 8)).2.2.2.2.2.2.2.1) ((T ((o + (u - 1)) % 8)).2.2.2.2.2.2.2.2.1) ((T ((o + (u - 1)) % 8)).2.2.2.2.2.2.2.2.2), pW G (ad 1) (nI o) (nI (u - 1)) T]) [0, 1, 2, 3] (c_X5_undo_ok l G ax (ad 11 0) (ad 0) (ad 1) (ad 2) (ad 11 1) (ad 11 2) (ad 9) (ad 10) (ad 11 3) (ad 11 4) ab bl wo mi bi la n ki se wd hu b9 o u T b2 b1 (by omega)) (by decide) (by decide) rfl rfl rfl rfl rfl rfl
    · have hc := c_X6_undo l G am  nw rd asd img kpt txt sz abv blw bds nos fls att bgn tkn wrd vlu sts bst n u b5 b1
      simp only [eq_false c, if_false] at hc
      rw [← hm] at hc
      exact LC.ofT (wb := [mY G am (nw, rd, asd, img, kpt, txt, sz, abv, blw, bds, nos, fls, att, bgn, tkn, wrd, vlu, sts, bst)]) (wb' := [mY G am ((und nw (u - 1)), rd, asd, img, kpt, txt, sz, abv, blw, bds, nos, fls, att, bgn, tkn, wrd, vlu, sts, bst)]) [0] hc (by decide) (by decide) (flat1 _) (flat1 _) rfl rfl rfl rfl

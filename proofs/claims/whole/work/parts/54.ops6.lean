theorem relC_seat {n k : Nat} {wo mi bi la ch v : Int32} {ki se wd hu b9 c d : Nat → Int32} (hn : n ≤ 6) (h : RelC n (wo, mi, bi, la, ch, ki, se, wd, hu, b9) c) (hk : k < n) (hv : ∃ a, a < 8 ∧ v = nI a) (hf : fi c v n 0 = -1 ∨ fi c v n 0 = nI k) (e : ∀ j, j < 22 → d j = c j) : RelC n (wo, mi, bi, la, ch, ki, upd se k v, wd, hu, b9) (upd d k v) := by
  have fr : ∀ j, j < n → ¬ j = k → ¬ c j = v := fun j hj hjk q => by
    rcases hf with hf | hf
    · exact fi_some (f := c) (by omega) hj q hf
    · rcases fi_or (f := c) (w := v) n 0 with g | ⟨i, -, h2, h3, h4⟩
      · exact fi_some (f := c) (by omega) hj q g
      · have ei : i = k := (nI_eq (by omega) (by omega)).mp (h3.symm.trans hf)
        exact hjk (h.2.2.2.2.2.2.2.2.1 j hj k hk (q.trans (ei ▸ h4).symm))
  obtain ⟨h1, h2, h3, h4, h5, h6, h7, h8, h9, h10⟩ := relC_congr (d := d) hn h e
  have ne : ∀ j, j ≠ k → upd d k v j = d j := fun j hj => upd_ne _ _ hj
  refine ⟨by rw [ne 20 (by omega)]; exact h1, by rw [ne 21 (by omega)]; exact h2, by rw [ne 18 (by omega)]; exact h3, by rw [ne 19 (by omega)]; exact h4, h5, by rw [ne 20 (by omega)]; exact h6, by rw [ne 21 (by omega)]; exact h7, fun j hj => ?_, fun i hi j hj hij => ?_, fun j g1 g2 => by rw [ne (12 + j) (by omega)]; exact h10.1 j g1 g2, bd_congr h10.2 (fun j q1 q2 q3 => ne j (by omega))⟩
  · obtain ⟨g1, g2, g3, g4, g5⟩ := h8 j hj
    rw [ne (6 + j) (by omega), ne (12 + j) (by omega)]
    by_cases ej : j = k
    · subst ej
      rw [upd_at]
      exact ⟨upd_at _ _ _, g2, g3, hv, g5⟩
    · rw [ne j ej]
      exact ⟨(upd_ne _ _ ej).trans g1, g2, g3, g4, g5⟩
  · by_cases ei : i = k <;> by_cases ej : j = k
    · rw [ei, ej]
    · subst ei
      rw [upd_at, ne j ej, e j (by omega)] at hij
      exact absurd hij.symm (fr j hj ej)
    · subst ej
      rw [upd_at, ne i ei, e i (by omega)] at hij
      exact absurd hij (fr i hi ei)
    · exact h9 i hi j hj (by rw [← ne i ei, ← ne j ej]; exact hij)
set_option maxRecDepth 100000 in
theorem op_moves (l : Launch) (K : KA) (G : GG) (ax : Nat) (ad : Ad) (am : Nat → Nat) (X : XS) (Y : YS) (h : Rel X Y) (x y : Int32) : OPi Rel K l G ax ad am yX5_moves cX5_moves 5 yX6_moves cX6_moves 5 [.int x, .int y] X Y := by
  obtain ⟨⟨⟨wo, mi, bi, la, ch, ki, se, wd, hu, b9⟩, ⟨old, psz, T⟩, np, ns⟩, i0, i1, kp, ⟨f, len, pl, sa, tk, vl⟩, ⟨wo1, mi1, bi1, la1, ch1, ki1, se1, wd1, hu1, bt1⟩, sg, rf, ab, bl⟩ := X
  obtain ⟨nw, rd, asd, img, kpt, txt, sz, abv, blw, bds, nos, fls, att, bgn, tkn, wrd, vlu, sts, bst⟩ := Y
  obtain ⟨h1, h2, h3, h4, h5, h6⟩ := h
  obtain ⟨n, zn, u, o, a1, a2, a3, a4, a5, a6, a7, a8, a9, b1, b2, b3, b4, b5, b6⟩ := h1
  have e1 : ch = nI n := a3.2.2.2.2.1
  have e2 : ns = nI zn := a7
  have e3 : old = nI o := b3
  have e4 : psz = nI u := b4
  subst e1; subst e2; subst e3; subst e4
  have e5 : nw 22 = nI n := a2
  by_cases c : (inI x 0 (nI n - 1) && inI y 0 7) = true
  · have c2 := (Bool.and_eq_true _ _ ▸ c : inI x 0 (nI n - 1) = true ∧ inI y 0 7 = true)
    obtain ⟨k, hk, ex⟩ := inI_child rfl a1 c2.1
    obtain ⟨b, -, hb, eb⟩ := inI_nat (a := 0) (b := 7) (by omega) (by omega) rfl rfl c2.2
    have hse : ∀ j, j < n → se j = nw j := fun j hj => (a3.2.2.2.2.2.2.2.1 j hj).1
    have ef : fi se y n 0 = fi nw y n 0 := fi_congr n 0 (fun j _ h2 => hse j (by omega))
    by_cases d : ¬ fi nw y n 0 = -1 ∧ ¬ fi nw y n 0 = x
    · refine ⟨-3, Unit, Unit, fun _ => (((wo, mi, bi, la, nI n, ki, se, wd, hu, b9), (nI o, nI u, T), (np, nI zn)), i0, i1, kp, (f, len, pl, sa, tk, vl), (wo1, mi1, bi1, la1, ch1, ki1, se1, wd1, hu1, bt1), sg, upd rf 1 (rf 1 + 1), ab, bl), fun _ => (nw, rd, asd, img, kpt, txt, sz, abv, blw, bds, nos + 1, fls, att, bgn, tkn, wrd, vlu, sts, bst), ?_, ?_, fun _ _ => ⟨⟨n, zn, u, o, a1, a2, a3, a4, a5, a6, rfl, a8, a9, b1, b2, rfl, rfl, b5, b6⟩, h2, h3, rf_1 h4, h5, h6⟩⟩
      · exact LC.ofT (wb := [xO G ax (ad 11 0) (ad 11 1) (ad 11 2) (ad 9) (ad 10) (ad 11 3) (ad 11 4) ab bl, oS G (ad 11 0) (ad 0) (ad 1) (ad 2), tW G (ad 0) wo mi bi la (nI n) ki se wd hu b9, aW G (ad 11 4) 3 rf]) (wb' := [xO G ax (ad 11 0) (ad 11 1) (ad 11 2) (ad 9) (ad 10) (ad 11 3) (ad 11 4) ab bl, oS G (ad 11 0) (ad 0) (ad 1) (ad 2), tW G (ad 0) wo mi bi la (nI n) ki se wd hu b9, aW G (ad 11 4) 3 (upd rf 1 (rf 1 + 1))]) [0, 1, 2, 18] (c_X5_moves_no l G ax (ad 11 0) (ad 0) (ad 1) (ad 2) (ad 11 1) (ad 11 2) (ad 9) (ad 10) (ad 11 3) (ad 11 4) x k ex y ab bl wo mi bi la n ki se wd hu b9 rf a1 c2.1 hk c2.2 (by rw [ef]; exact d.1) (by rw [ef]; exact d.2)) (by decide) (by decide) rfl rfl rfl rfl rfl rfl
      · have hc := c_X6_moves l G am x y nw rd asd img kpt txt sz abv blw bds nos fls att bgn tkn wrd vlu sts bst n u a2 a1 b5 b1
        simp only [e5, eq_true c2, eq_true d, if_true, not_true_eq_false, and_false, true_and, if_false] at hc
        exact LC.ofT (wb := [mY G am (nw, rd, asd, img, kpt, txt, sz, abv, blw, bds, nos, fls, att, bgn, tkn, wrd, vlu, sts, bst)]) (wb' := [mY G am (nw, rd, asd, img, kpt, txt, sz, abv, blw, bds, nos + 1, fls, att, bgn, tkn, wrd, vlu, sts, bst)]) [0] hc (by decide) (by decide) (flat1 _) (flat1 _) rfl rfl rfl rfl
    · have d2 : fi nw y n 0 = -1 ∨ fi nw y n 0 = nI k := by rw [← ex]; exact Decidable.or_iff_not_not_and_not.mpr d
      have hC : RelC n (wo, mi, bi, la, nI n, ki, upd se k y, wd, hu, b9) (upd (rmb nw u) k y) := relC_seat a1 a3 hk ⟨b, by omega, eb⟩ d2 (fun j hj => rmb_lo (by omega))
      have hS2 := relS_keep (t' := (wo, mi, bi, la, nI n, ki, upd se k y, wd, hu, b9)) (nw' := upd (rmb nw u) k y) a1 a2 a3 a4 a5 a6 rfl a8 a9 b1 b2 b6 hC a4 (fun j h1 h2 => by rw [upd_ne _ _ (by omega), rmb_lo (by omega)]) (by rw [upd_ne _ _ (by omega), rmb_78 b1]) (fun j hj => upd_ne _ _ (by omega))
      refine ⟨se k, Unit, Unit, fun _ => (((wo, mi, bi, la, nI n, ki, upd se k y, wd, hu, b9), (nI (kpO o u), nI (kpZ u), updT T ((kpO o u + kpZ u - 1) % 8) (wo, mi, bi, la, nI n, ki, se, wd, hu, b9)), (np, nI zn)), i0, i1, kp, (f, len, pl, sa, tk, vl), (wo1, mi1, bi1, la1, ch1, ki1, se1, wd1, hu1, bt1), sg, rf, ab, bl), fun _ => ((upd (rmb nw u) k y), rd, asd, img, kpt, txt, sz, abv, blw, bds, nos, fls, att, bgn, tkn, wrd, vlu, sts, bst), ?_, ?_, fun _ _ => ⟨hS2, h2, h3, h4, h5, h6⟩⟩
      · exact LC.ofT (wb := [xO G ax (ad 11 0) (ad 11 1) (ad 11 2) (ad 9) (ad 10) (ad 11 3) (ad 11 4) ab bl, oS G (ad 11 0) (ad 0) (ad 1) (ad 2), tW G (ad 0) wo mi bi la (nI n) ki se wd hu b9, pW G (ad 1) (nI o) (nI u) T]) (wb' := [xO G ax (ad 11 0) (ad 11 1) (ad 11 2) (ad 9) (ad 10) (ad 11 3) (ad 11 4) ab bl, oS G (ad 11 0) (ad 0) (ad 1) (ad 2), tW G (ad 0) wo mi bi la (nI n) ki (upd se k y) wd hu b9, pW G (ad 1) (nI (kpO o u)) (nI (kpZ u)) (updT T ((kpO o u + kpZ u - 1) % 8) (wo, mi, bi, la, nI n, ki, se, wd, hu, b9))]) [0, 1, 2, 3] (c_X5_moves_ok l G ax (ad 11 0) (ad 0) (ad 1) (ad 2) (ad 11 1) (ad 11 2) (ad 9) (ad 10) (ad 11 3) (ad 11 4) x k ex y ab bl wo mi bi la n ki se wd hu b9 o u T a1 b2 b1 c2.1 hk c2.2 (by rw [ef, ex]; exact d2)) (by decide) (by decide) rfl rfl rfl rfl rfl rfl
      · have hc := c_X6_moves l G am x y nw rd asd img kpt txt sz abv blw bds nos fls att bgn tkn wrd vlu sts bst n u a2 a1 b5 b1
        simp only [e5, eq_true c2, eq_false d, if_true, if_false, not_false_eq_true, and_true, and_false] at hc
        rw [show x.toNatClampNeg = k by rw [ex]; exact nI_clamp (by omega), rmb_lo (by omega), ← hse k hk] at hc
        exact LC.ofT (wb := [mY G am (nw, rd, asd, img, kpt, txt, sz, abv, blw, bds, nos, fls, att, bgn, tkn, wrd, vlu, sts, bst)]) (wb' := [mY G am ((upd (rmb nw u) k y), rd, asd, img, kpt, txt, sz, abv, blw, bds, nos, fls, att, bgn, tkn, wrd, vlu, sts, bst)]) [0] hc (by decide) (by decide) (flat1 _) (flat1 _) rfl rfl rfl rfl
  · have cc : ¬ (inI x 0 (nI n - 1) = true ∧ inI y 0 7 = true) := fun q => c (by rw [q.1, q.2]; rfl)
    have c := Bool.eq_false_iff.mpr c
    refine ⟨-2, Unit, Unit, fun _ => (((wo, mi, bi, la, nI n, ki, se, wd, hu, b9), (nI o, nI u, T), (np, nI zn)), i0, i1, kp, (f, len, pl, sa, tk, vl), (wo1, mi1, bi1, la1, ch1, ki1, se1, wd1, hu1, bt1), sg, upd rf 0 (rf 0 + 1), ab, bl), fun _ => (nw, rd, asd, img, kpt, txt, sz, abv, blw, bds + 1, nos, fls, att, bgn, tkn, wrd, vlu, sts, bst), ?_, ?_, fun _ _ => ⟨⟨n, zn, u, o, a1, a2, a3, a4, a5, a6, rfl, a8, a9, b1, b2, rfl, rfl, b5, b6⟩, h2, h3, rf_0 h4, h5, h6⟩⟩
    · exact LC.ofT (wb := [xO G ax (ad 11 0) (ad 11 1) (ad 11 2) (ad 9) (ad 10) (ad 11 3) (ad 11 4) ab bl, oS G (ad 11 0) (ad 0) (ad 1) (ad 2), tW G (ad 0) wo mi bi la (nI n) ki se wd hu b9, aW G (ad 11 4) 3 rf]) (wb' := [xO G ax (ad 11 0) (ad 11 1) (ad 11 2) (ad 9) (ad 10) (ad 11 3) (ad 11 4) ab bl, oS G (ad 11 0) (ad 0) (ad 1) (ad 2), tW G (ad 0) wo mi bi la (nI n) ki se wd hu b9, aW G (ad 11 4) 3 (upd rf 0 (rf 0 + 1))]) [0, 1, 2, 18] (c_X5_moves_bad l G ax (ad 11 0) (ad 0) (ad 1) (ad 2) (ad 11 1) (ad 11 2) (ad 9) (ad 10) (ad 11 3) (ad 11 4) x y ab bl wo mi bi la n ki se wd hu b9 rf c) (by decide) (by decide) rfl rfl rfl rfl rfl rfl
    · have hc := c_X6_moves l G am x y nw rd asd img kpt txt sz abv blw bds nos fls att bgn tkn wrd vlu sts bst n u a2 a1 b5 b1
      simp only [e5, eq_false cc, if_false, false_and] at hc
      exact LC.ofT (wb := [mY G am (nw, rd, asd, img, kpt, txt, sz, abv, blw, bds, nos, fls, att, bgn, tkn, wrd, vlu, sts, bst)]) (wb' := [mY G am (nw, rd, asd, img, kpt, txt, sz, abv, blw, bds + 1, nos, fls, att, bgn, tkn, wrd, vlu, sts, bst)]) [0] hc (by decide) (by decide) (flat1 _) (flat1 _) rfl rfl rfl rfl

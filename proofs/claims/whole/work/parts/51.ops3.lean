theorem rmb_78 {nw : Nat → Int32} {u : Nat} (hu : u ≤ 8) : rmb nw u 78 = nI (kpZ u) := by
  unfold rmb kpZ
  by_cases h : u = 8
  · rw [if_pos h, if_neg (by omega), rmF, upd_at, h]
  · rw [if_neg h, if_pos (by omega), rmF, upd_at]
theorem relC_woman {n : Nat} {wo mi bi la ch x : Int32} {ki se wd hu b9 c d : Nat → Int32} (hn : n ≤ 6) (h : RelC n (wo, mi, bi, la, ch, ki, se, wd, hu, b9) c) (hx : ∃ a, a < 8 ∧ x = nI a) (e : ∀ j, j < 22 → d j = c j) : RelC n (x, mi, bi, la, ch, ki, se, wd, hu, b9) (upd d 20 x) := by
  obtain ⟨h1, h2, h3, h4, h5, h6, h7, h8, h9, h10⟩ := relC_congr (d := d) hn h e
  have ne : ∀ j, j ≠ 20 → upd d 20 x j = d j := fun j hj => upd_ne _ _ hj
  refine ⟨(upd_at _ _ _).symm, by rw [ne 21 (by omega)]; exact h2, by rw [ne 18 (by omega)]; exact h3, by rw [ne 19 (by omega)]; exact h4, h5, by rw [upd_at]; exact hx, by rw [ne 21 (by omega)]; exact h7, fun j hj => ?_, fun i hi j hj hij => h9 i hi j hj (by rw [← ne i (by omega), ← ne j (by omega)]; exact hij), fun j g1 g2 => by rw [ne (12 + j) (by omega)]; exact h10.1 j g1 g2, bd_congr h10.2 (fun j q1 q2 q3 => ne j (by omega))⟩
  rw [ne j (by omega), ne (6 + j) (by omega), ne (12 + j) (by omega)]
  exact h8 j hj
/-- a table kept in the past, and another one now -/
theorem relS_keep {t t' : Tb} {ns : Int32} {T : Nat → Tb} {np nw nw' : Nat → Int32} {n zn u o : Nat} (a1 : n ≤ 6) (a2 : nw 22 = nI n) (a3 : RelC n t nw) (a4 : RelK n t nw) (a5 : ∀ j, j < n → (∃ a, a ≤ 5 ∧ nw (23 + j) = nI a) ∧ ∃ a, a ≤ 20 ∧ nw (29 + j) = nI a) (a6 : zn ≤ 6) (a7 : ns = nI zn) (a8 : nw 35 = nI zn) (a9 : ∀ j, j < 7 * zn → np j = nw (36 + j) ∧ ∃ a, a ≤ 60 ∧ nw (36 + j) = nI a)
    (b1 : u ≤ 8) (b2 : o < 8) (b6 : ∀ k, k < u → RelC n (T ((o + k) % 8)) (fun i => nw (79 + 22 * k + i)) ∧ RelK n (T ((o + k) % 8)) nw) (hC : RelC n t' nw') (hK : RelK n t' nw) (e1 : ∀ j, 22 ≤ j → j < 78 → nw' j = nw j) (e2 : nw' 78 = nI (kpZ u)) (e3 : ∀ j, 79 ≤ j → nw' j = rmb nw u j) : RelS (t', (nI (kpO o u), nI (kpZ u), updT T ((kpO o u + kpZ u - 1) % 8) t), (np, ns)) nw' :=
  ⟨n, zn, kpZ u, kpO o u, a1, by rw [e1 22 (by omega) (by omega)]; exact a2, hC, relK_congr a1 hK (fun j h1 h2 => e1 j (by omega) (by omega)), fun j hj => by rw [e1 (23 + j) (by omega) (by omega), e1 (29 + j) (by omega) (by omega)]; exact a5 j hj, a6, a7, by rw [e1 35 (by omega) (by omega)]; exact a8, fun j hj => by rw [e1 (36 + j) (by omega) (by omega)]; exact a9 j hj, by unfold kpZ; split <;> omega, by unfold kpO; split <;> omega, rfl, rfl, e2, past_keep a1 b1 b2 a3 a4 b6 e3 (fun j h1 h2 => e1 j (by omega) (by omega))⟩
set_option maxRecDepth 100000 in
theorem op_woman (l : Launch) (K : KA) (G : GG) (ax : Nat) (ad : Ad) (am : Nat → Nat) (X : XS) (Y : YS) (h : Rel X Y) (x : Int32) : OPi Rel K l G ax ad am yX5_woman cX5_woman 3 yX6_woman cX6_woman 3 [.int x] X Y := by
  obtain ⟨⟨⟨wo, mi, bi, la, ch, ki, se, wd, hu, b9⟩, ⟨old, psz, T⟩, np, ns⟩, i0, i1, kp, ⟨f, len, pl, sa, tk, vl⟩, ⟨wo1, mi1, bi1, la1, ch1, ki1, se1, wd1, hu1, bt1⟩, sg, rf, ab, bl⟩ := X
  obtain ⟨nw, rd, asd, img, kpt, txt, sz, abv, blw, bds, nos, fls, att, bgn, tkn, wrd, vlu, sts, bst⟩ := Y
  obtain ⟨h1, h2, h3, h4, h5, h6⟩ := h
  by_cases c : inI x 0 7 = true
  · obtain ⟨n, zn, u, o, a1, a2, a3, a4, a5, a6, a7, a8, a9, b1, b2, b3, b4, b5, b6⟩ := h1
    have e1 : ch = nI n := a3.2.2.2.2.1
    have e2 : ns = nI zn := a7
    have e3 : old = nI o := b3
    have e4 : psz = nI u := b4
    subst e1; subst e2; subst e3; subst e4
    have e5 : nw 22 = nI n := a2
    obtain ⟨a, -, ha, ea⟩ := inI_nat (a := 0) (b := 7) (by omega) (by omega) rfl rfl c
    have e6 : wo = nw 20 := a3.1
    have hC : RelC n (x, mi, bi, la, nI n, ki, se, wd, hu, b9) (upd (rmb nw u) 20 x) := relC_woman a1 a3 ⟨a, by omega, ea⟩ (fun j hj => rmb_lo (by omega))
    have hS2 := relS_keep (t' := (x, mi, bi, la, nI n, ki, se, wd, hu, b9)) (nw' := upd (rmb nw u) 20 x) a1 a2 a3 a4 a5 a6 rfl a8 a9 b1 b2 b6 hC a4 (fun j h1 h2 => by rw [upd_ne _ _ (by omega), rmb_lo (by omega)]) (by rw [upd_ne _ _ (by omega), rmb_78 b1]) (fun j hj => upd_ne _ _ (by omega))
    refine ⟨wo, Unit, Unit, fun _ => (((x, mi, bi, la, nI n, ki, se, wd, hu, b9), (nI (kpO o u), nI (kpZ u), updT T ((kpO o u + kpZ u - 1) % 8) (wo, mi, bi, la, nI n, ki, se, wd, hu, b9)), (np, nI zn)), i0, i1, kp, (f, len, pl, sa, tk, vl), (wo1, mi1, bi1, la1, ch1, ki1, se1, wd1, hu1, bt1), sg, rf, ab, bl), fun _ => ((upd (rmb nw u) 20 x), rd, asd, img, kpt, txt, sz, abv, blw, bds, nos, fls, att, bgn, tkn, wrd, vlu, sts, bst), ?_, ?_, fun _ _ => ⟨hS2, h2, h3, h4, h5, h6⟩⟩
    · exact LC.ofT (wb := [xO G ax (ad 11 0) (ad 11 1) (ad 11 2) (ad 9) (ad 10) (ad 11 3) (ad 11 4) ab bl, oS G (ad 11 0) (ad 0) (ad 1) (ad 2), tW G (ad 0) wo mi bi la (nI n) ki se wd hu b9, pW G (ad 1) (nI o) (nI u) T]) (wb' := [xO G ax (ad 11 0) (ad 11 1) (ad 11 2) (ad 9) (ad 10) (ad 11 3) (ad 11 4) ab bl, oS G (ad 11 0) (ad 0) (ad 1) (ad 2), tW G (ad 0) x mi bi la (nI n) ki se wd hu b9, pW G (ad 1) (nI (kpO o u)) (nI (kpZ u)) (updT T ((kpO o u + kpZ u - 1) % 8) (wo, mi, bi, la, nI n, ki, se, wd, hu, b9))]) [0, 1, 2, 3] (c_X5_woman_ok l G ax (ad 11 0) (ad 0) (ad 1) (ad 2) (ad 11 1) (ad 11 2) (ad 9) (ad 10) (ad 11 3) (ad 11 4) x ab bl wo mi bi la n ki se wd hu b9 o u T a1 b2 b1 c) (by decide) (by decide) rfl rfl rfl rfl rfl rfl
    · have hc := c_X6_woman l G am x nw rd asd img kpt txt sz abv blw bds nos fls att bgn tkn wrd vlu sts bst n u b5 b1
      simp only [c, if_true] at hc
      rw [rmb_lo (by omega), ← e6] at hc
      exact LC.ofT (wb := [mY G am (nw, rd, asd, img, kpt, txt, sz, abv, blw, bds, nos, fls, att, bgn, tkn, wrd, vlu, sts, bst)]) (wb' := [mY G am ((upd (rmb nw u) 20 x), rd, asd, img, kpt, txt, sz, abv, blw, bds, nos, fls, att, bgn, tkn, wrd, vlu, sts, bst)]) [0] hc (by decide) (by decide) (flat1 _) (flat1 _) rfl rfl rfl rfl
  · have c := Bool.eq_false_iff.mpr c
    obtain ⟨n, zn, u, o, a1, a2, a3, a4, a5, a6, a7, a8, a9, b1, b2, b3, b4, b5, b6⟩ := id h1
    refine ⟨-2, Unit, Unit, fun _ => (((wo, mi, bi, la, ch, ki, se, wd, hu, b9), (old, psz, T), (np, ns)), i0, i1, kp, (f, len, pl, sa, tk, vl), (wo1, mi1, bi1, la1, ch1, ki1, se1, wd1, hu1, bt1), sg, upd rf 0 (rf 0 + 1), ab, bl), fun _ => (nw, rd, asd, img, kpt, txt, sz, abv, blw, bds + 1, nos, fls, att, bgn, tkn, wrd, vlu, sts, bst), ?_, ?_, fun _ _ => ⟨h1, h2, h3, rf_0 h4, h5, h6⟩⟩
    · exact LC.ofT (wb := [xO G ax (ad 11 0) (ad 11 1) (ad 11 2) (ad 9) (ad 10) (ad 11 3) (ad 11 4) ab bl, aW G (ad 11 4) 3 rf]) (wb' := [xO G ax (ad 11 0) (ad 11 1) (ad 11 2) (ad 9) (ad 10) (ad 11 3) (ad 11 4) ab bl, aW G (ad 11 4) 3 (upd rf 0 (rf 0 + 1))]) [0, 18] (c_X5_woman_bad l G ax (ad 11 0) (ad 11 1) (ad 11 2) (ad 9) (ad 10) (ad 11 3) (ad 11 4) x ab bl rf c) (by decide) (by decide) rfl rfl rfl rfl rfl rfl
    · have hc := c_X6_woman l G am x nw rd asd img kpt txt sz abv blw bds nos fls att bgn tkn wrd vlu sts bst n u b5 b1
      simp only [c, Bool.false_eq_true, if_false] at hc
      exact LC.ofT (wb := [mY G am (nw, rd, asd, img, kpt, txt, sz, abv, blw, bds, nos, fls, att, bgn, tkn, wrd, vlu, sts, bst)]) (wb' := [mY G am (nw, rd, asd, img, kpt, txt, sz, abv, blw, bds + 1, nos, fls, att, bgn, tkn, wrd, vlu, sts, bst)]) [0] hc (by decide) (by decide) (flat1 _) (flat1 _) rfl rfl rfl rfl

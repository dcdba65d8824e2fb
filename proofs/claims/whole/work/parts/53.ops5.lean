theorem relC_hunger {n k : Nat} {wo mi bi la ch v : Int32} {ki se wd hu b9 c d : Nat → Int32} (hn : n ≤ 6) (h : RelC n (wo, mi, bi, la, ch, ki, se, wd, hu, b9) c) (hk : k < n) (hv : ∃ a, a ≤ 30 ∧ v = nI a) (e : ∀ j, j < 22 → d j = c j) : RelC n (wo, mi, bi, la, ch, ki, se, wd, upd hu k v, b9) (upd d (6 + k) v) := by
  obtain ⟨h1, h2, h3, h4, h5, h6, h7, h8, h9, h10⟩ := relC_congr (d := d) hn h e
  have ne : ∀ j, j ≠ 6 + k → upd d (6 + k) v j = d j := fun j hj => upd_ne _ _ hj
  refine ⟨by rw [ne 20 (by omega)]; exact h1, by rw [ne 21 (by omega)]; exact h2, by rw [ne 18 (by omega)]; exact h3, by rw [ne 19 (by omega)]; exact h4, h5, by rw [ne 20 (by omega)]; exact h6, by rw [ne 21 (by omega)]; exact h7, fun j hj => ?_, fun i hi j hj hij => h9 i hi j hj (by rw [← ne i (by omega), ← ne j (by omega)]; exact hij), fun j g1 g2 => by rw [ne (12 + j) (by omega)]; exact h10.1 j g1 g2, bd_congr h10.2 (fun j q1 q2 q3 => ne j (by omega))⟩
  obtain ⟨g1, g2, g3, g4, g5⟩ := h8 j hj
  rw [ne j (by omega), ne (12 + j) (by omega)]
  by_cases ej : j = k
  · subst ej
    rw [upd_at]
    exact ⟨g1, upd_at _ _ _, g3, g4, hv⟩
  · rw [ne (6 + j) (by omega)]
    exact ⟨g1, (upd_ne _ _ ej).trans g2, g3, g4, g5⟩
set_option maxRecDepth 100000 in
theorem op_carrot (l : Launch) (K : KA) (G : GG) (ax : Nat) (ad : Ad) (am : Nat → Nat) (X : XS) (Y : YS) (h : Rel X Y) (x : Int32) : OPi Rel K l G ax ad am yX5_carrot cX5_carrot 2 yX6_carrot cX6_carrot 2 [.int x] X Y := by
  obtain ⟨⟨⟨wo, mi, bi, la, ch, ki, se, wd, hu, b9⟩, ⟨old, psz, T⟩, np, ns⟩, i0, i1, kp, ⟨f, len, pl, sa, tk, vl⟩, ⟨wo1, mi1, bi1, la1, ch1, ki1, se1, wd1, hu1, bt1⟩, sg, rf, ab, bl⟩ := X
  obtain ⟨nw, rd, asd, img, kpt, txt, sz, abv, blw, bds, nos, fls, att, bgn, tkn, wrd, vlu, sts, bst⟩ := Y
  obtain ⟨h1, h2, h3, h4, h5, h6⟩ := h
  obtain ⟨n, zn, u, o, a1, a2, a3, a4, a5, a6, a7, a8, a9, b1, b2, b3, b4, b5, b6⟩ := h1
  have e1 : ch = nI n := a3.2.2.2.2.1
  have e2 : ns = nI zn := a7
  have e3 : old = nI o := b3
  have e4 : psz = nI u := b4
  subst e1; subst e2; subst e3; subst e4
  have e5 : nw 22 = nI n := a2
  by_cases c : inI x 0 (nI n - 1) = true
  · obtain ⟨k, hk, ex⟩ := inI_child rfl a1 c
    obtain ⟨g1, g2, g3, g4, a, ha, ea⟩ := a3.2.2.2.2.2.2.2.1 k hk
    have g2 : hu k = nw (6 + k) := g2
    have ea : nw (6 + k) = nI a := ea
    have ev : mx0 (hu k - 10) = lsr (nw (6 + k)) 10 := by rw [g2, ea]; exact (by decide +kernel : ∀ a, a ≤ 30 → mx0 (nI a - 10) = lsr (nI a) 10) a ha
    have hv : ∃ b, b ≤ 30 ∧ mx0 (hu k - 10) = nI b := by rw [g2, ea]; exact (by decide +kernel : ∀ a, a ≤ 30 → ∃ b, b ≤ 30 ∧ mx0 (nI a - 10) = nI b) a ha
    have hC : RelC n (wo, mi, bi, la, nI n, ki, se, wd, upd hu k (mx0 (hu k - 10)), b9) (upd (rmb nw u) (6 + k) (mx0 (hu k - 10))) := relC_hunger a1 a3 hk hv (fun j hj => rmb_lo (by omega))
    have hS2 := relS_keep (t' := (wo, mi, bi, la, nI n, ki, se, wd, upd hu k (mx0 (hu k - 10)), b9)) (nw' := upd (rmb nw u) (6 + k) (mx0 (hu k - 10))) a1 a2 a3 a4 a5 a6 rfl a8 a9 b1 b2 b6 hC a4 (fun j h1 h2 => by rw [upd_ne _ _ (by omega), rmb_lo (by omega)]) (by rw [upd_ne _ _ (by omega), rmb_78 b1]) (fun j hj => upd_ne _ _ (by omega))
    refine ⟨mx0 (hu k - 10), Unit, Unit, fun _ => (((wo, mi, bi, la, nI n, ki, se, wd, upd hu k (mx0 (hu k - 10)), b9), (nI (kpO o u), nI (kpZ u), updT T ((kpO o u + kpZ u - 1) % 8) (wo, mi, bi, la, nI n, ki, se, wd, hu, b9)), (np, nI zn)), i0, i1, kp, (f, len, pl, sa, tk, vl), (wo1, mi1, bi1, la1, ch1, ki1, se1, wd1, hu1, bt1), sg, rf, ab, bl), fun _ => ((upd (rmb nw u) (6 + k) (mx0 (hu k - 10))), rd, asd, img, kpt, txt, sz, abv, blw, bds, nos, fls, att, bgn, tkn, wrd, vlu, sts, bst), ?_, ?_, fun _ _ => ⟨hS2, h2, h3, h4, h5, h6⟩⟩
    · exact LC.ofT (wb := [xO G ax (ad 11 0) (ad 11 1) (ad 11 2) (ad 9) (ad 10) (ad 11 3) (ad 11 4) ab bl, oS G (ad 11 0) (ad 0) (ad 1) (ad 2), tW G (ad 0) wo mi bi la (nI n) ki se wd hu b9, pW G (ad 1) (nI o) (nI u) T]) (wb' := [xO G ax (ad 11 0) (ad 11 1) (ad 11 2) (ad 9) (ad 10) (ad 11 3) (ad 11 4) ab bl, oS G (ad 11 0) (ad 0) (ad 1) (ad 2), tW G (ad 0) wo mi bi la (nI n) ki se wd (upd hu k (mx0 (hu k - 10))) b9, pW G (ad 1) (nI (kpO o u)) (nI (kpZ u)) (updT T ((kpO o u + kpZ u - 1) % 8) (wo, mi, bi, la, nI n, ki, se, wd, hu, b9))]) [0, 1, 2, 3] (c_X5_carrot_ok l G ax (ad 11 0) (ad 0) (ad 1) (ad 2) (ad 11 1) (ad 11 2) (ad 9) (ad 10) (ad 11 3) (ad 11 4) x k ex ab bl wo mi bi la n ki se wd hu b9 o u T a1 b2 b1 c hk) (by decide) (by decide) rfl rfl rfl rfl rfl rfl
    · have hc := c_X6_carrot l G am x nw rd asd img kpt txt sz abv blw bds nos fls att bgn tkn wrd vlu sts bst n u a2 a1 b5 b1
      simp only [e5, c, if_true] at hc
      rw [show x.toNatClampNeg = k by rw [ex]; exact nI_clamp (by omega), rmb_lo (by omega), ← ev] at hc
      exact LC.ofT (wb := [mY G am (nw, rd, asd, img, kpt, txt, sz, abv, blw, bds, nos, fls, att, bgn, tkn, wrd, vlu, sts, bst)]) (wb' := [mY G am ((upd (rmb nw u) (6 + k) (mx0 (hu k - 10))), rd, asd, img, kpt, txt, sz, abv, blw, bds, nos, fls, att, bgn, tkn, wrd, vlu, sts, bst)]) [0] hc (by decide) (by decide) (flat1 _) (flat1 _) rfl rfl rfl rfl
  · have c := Bool.eq_false_iff.mpr c
    refine ⟨-2, Unit, Unit, fun _ => (((wo, mi, bi, la, nI n, ki, se, wd, hu, b9), (nI o, nI u, T), (np, nI zn)), i0, i1, kp, (f, len, pl, sa, tk, vl), (wo1, mi1, bi1, la1, ch1, ki1, se1, wd1, hu1, bt1), sg, upd rf 0 (rf 0 + 1), ab, bl), fun _ => (nw, rd, asd, img, kpt, txt, sz, abv, blw, bds + 1, nos, fls, att, bgn, tkn, wrd, vlu, sts, bst), ?_, ?_, fun _ _ => ⟨⟨n, zn, u, o, a1, a2, a3, a4, a5, a6, rfl, a8, a9, b1, b2, rfl, rfl, b5, b6⟩, h2, h3, rf_0 h4, h5, h6⟩⟩
    · exact LC.ofT (wb := [xO G ax (ad 11 0) (ad 11 1) (ad 11 2) (ad 9) (ad 10) (ad 11 3) (ad 11 4) ab bl, oS G (ad 11 0) (ad 0) (ad 1) (ad 2), tW G (ad 0) wo mi bi la (nI n) ki se wd hu b9, aW G (ad 11 4) 3 rf]) (wb' := [xO G ax (ad 11 0) (ad 11 1) (ad 11 2) (ad 9) (ad 10) (ad 11 3) (ad 11 4) ab bl, oS G (ad 11 0) (ad 0) (ad 1) (ad 2), tW G (ad 0) wo mi bi la (nI n) ki se wd hu b9, aW G (ad 11 4) 3 (upd rf 0 (rf 0 + 1))]) [0, 1, 2, 18] (c_X5_carrot_bad l G ax (ad 11 0) (ad 0) (ad 1) (ad 2) (ad 11 1) (ad 11 2) (ad 9) (ad 10) (ad 11 3) (ad 11 4) x ab bl wo mi bi la n ki se wd hu b9 rf c) (by decide) (by decide) rfl rfl rfl rfl rfl rfl
    · have hc := c_X6_carrot l G am x nw rd asd img kpt txt sz abv blw bds nos fls att bgn tkn wrd vlu sts bst n u a2 a1 b5 b1
      simp only [e5, c, Bool.false_eq_true, if_false] at hc
      exact LC.ofT (wb := [mY G am (nw, rd, asd, img, kpt, txt, sz, abv, blw, bds, nos, fls, att, bgn, tkn, wrd, vlu, sts, bst)]) (wb' := [mY G am (nw, rd, asd, img, kpt, txt, sz, abv, blw, bds + 1, nos, fls, att, bgn, tkn, wrd, vlu, sts, bst)]) [0] hc (by decide) (by decide) (flat1 _) (flat1 _) rfl rfl rfl rfl

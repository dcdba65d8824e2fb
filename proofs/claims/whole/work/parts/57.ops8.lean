theorem nt_lo {nw : Nat → Int32} {z j : Nat} {x0 x1 x2 x3 x4 x5 x6 : Int32} (h : j < 35 ∨ (35 < j ∧ j < 36 + 7 * z) ∨ 36 + 7 * z + 6 < j) : ntM nw z x0 x1 x2 x3 x4 x5 x6 j = nw j := by
  unfold ntM
  rw [upd_ne _ _ (by omega), upd_ne _ _ (by omega), upd_ne _ _ (by omega), upd_ne _ _ (by omega), upd_ne _ _ (by omega), upd_ne _ _ (by omega), upd_ne _ _ (by omega), upd_ne _ _ (by omega)]
theorem nt_rel {np nw : Nat → Int32} {z j : Nat} {x0 x1 x2 x3 x4 x5 x6 : Int32} (a9 : ∀ j, j < 7 * z → np j = nw (36 + j) ∧ ∃ a, a ≤ 60 ∧ nw (36 + j) = nI a) (hz : z < 6) (h0 : ∃ a, a ≤ 60 ∧ x0 = nI a) (h1 : ∃ a, a ≤ 60 ∧ x1 = nI a) (h2 : ∃ a, a ≤ 60 ∧ x2 = nI a) (h3 : ∃ a, a ≤ 60 ∧ x3 = nI a) (h4 : ∃ a, a ≤ 60 ∧ x4 = nI a) (h5 : ∃ a, a ≤ 60 ∧ x5 = nI a) (h6 : ∃ a, a ≤ 60 ∧ x6 = nI a) (hj : j < 7 * (z + 1)) :
    ntC np z x0 x1 x2 x3 x4 x5 x6 j = ntM nw z x0 x1 x2 x3 x4 x5 x6 (36 + j) ∧ ∃ a, a ≤ 60 ∧ ntM nw z x0 x1 x2 x3 x4 x5 x6 (36 + j) = nI a := by
  by_cases hl : j < 7 * z
  · rw [nt_lo (by omega)]
    refine ⟨?_, (a9 j hl).2⟩
    unfold ntC
    rw [upd_ne _ _ (by omega), upd_ne _ _ (by omega), upd_ne _ _ (by omega), upd_ne _ _ (by omega), upd_ne _ _ (by omega), upd_ne _ _ (by omega), upd_ne _ _ (by omega)]
    exact (a9 j hl).1
  · have key : ∀ x : Int32, (∃ a, a ≤ 60 ∧ x = nI a) → ntC np z x0 x1 x2 x3 x4 x5 x6 j = x → ntM nw z x0 x1 x2 x3 x4 x5 x6 (36 + j) = x → ntC np z x0 x1 x2 x3 x4 x5 x6 j = ntM nw z x0 x1 x2 x3 x4 x5 x6 (36 + j) ∧ ∃ a, a ≤ 60 ∧ ntM nw z x0 x1 x2 x3 x4 x5 x6 (36 + j) = nI a := fun x hx e1 e2 => by
      rw [e1, e2]; exact ⟨rfl, hx⟩
    obtain ⟨i, hi, ei⟩ : ∃ i, i < 7 ∧ j = 7 * z + i := ⟨j - 7 * z, by omega, by omega⟩
    subst ei
    rcases (show i = 0 ∨ i = 1 ∨ i = 2 ∨ i = 3 ∨ i = 4 ∨ i = 5 ∨ i = 6 by omega) with e | e | e | e | e | e | e <;> subst e
    · refine key x0 h0 ?_ ?_ <;> simp only [ntC, ntM, upd] <;> repeat (first | rw [if_pos (by omega)] | rw [if_neg (by omega)])
    · refine key x1 h1 ?_ ?_ <;> simp only [ntC, ntM, upd] <;> repeat (first | rw [if_pos (by omega)] | rw [if_neg (by omega)])
    · refine key x2 h2 ?_ ?_ <;> simp only [ntC, ntM, upd] <;> repeat (first | rw [if_pos (by omega)] | rw [if_neg (by omega)])
    · refine key x3 h3 ?_ ?_ <;> simp only [ntC, ntM, upd] <;> repeat (first | rw [if_pos (by omega)] | rw [if_neg (by omega)])
    · refine key x4 h4 ?_ ?_ <;> simp only [ntC, ntM, upd] <;> repeat (first | rw [if_pos (by omega)] | rw [if_neg (by omega)])
    · refine key x5 h5 ?_ ?_ <;> simp only [ntC, ntM, upd] <;> repeat (first | rw [if_pos (by omega)] | rw [if_neg (by omega)])
    · refine key x6 h6 ?_ ?_ <;> simp only [ntC, ntM, upd] <;> repeat (first | rw [if_pos (by omega)] | rw [if_neg (by omega)])
theorem cm_at (nw : Nat → Int32) (n : Nat) (xk xs xw xh : Int32) (j : Nat) : upd (cmM nw n xk xs xw xh) 78 0 j = if j = 78 then 0 else if j = 22 then nI (n + 1) else if j = 6 + n then xh else if j = 29 + n then xw else if j = n then xs else if j = 23 + n then xk else nw j := rfl
theorem relS_child {wo mi bi la : Int32} {ki se wd hu b9 np nw : Nat → Int32} {T : Nat → Tb} {n zn : Nat} {xk xs xw xh : Int32} (a1 : n ≤ 6) (hn : n < 6) (a3 : RelC n (wo, mi, bi, la, nI n, ki, se, wd, hu, b9) nw) (a4 : RelK n (wo, mi, bi, la, nI n, ki, se, wd, hu, b9) nw) (a5 : ∀ j, j < n → (∃ a, a ≤ 5 ∧ nw (23 + j) = nI a) ∧ ∃ a, a ≤ 20 ∧ nw (29 + j) = nI a) (a6 : zn ≤ 6) (a8 : nw 35 = nI zn) (a9 : ∀ j, j < 7 * zn → np j = nw (36 + j) ∧ ∃ a, a ≤ 60 ∧ nw (36 + j) = nI a)
    (d : fi nw xs n 0 = -1) (hk : ∃ a, a ≤ 5 ∧ xk = nI a) (hs : ∃ a, a < 8 ∧ xs = nI a) (hw : ∃ a, a ≤ 20 ∧ xw = nI a) (hh : ∃ a, a ≤ 30 ∧ xh = nI a) : RelS ((wo, mi, bi, la, nI (n + 1), upd ki n xk, upd se n xs, upd wd n xw, upd hu n xh, upd b9 n 0), (0, 0, T), (np, nI zn)) (upd (cmM nw n xk xs xw xh) 78 0) := by
  obtain ⟨h1, h2, h3, h4, h5, h6, h7, h8, h9, h10⟩ := a3
  have ne : ∀ j, ¬ j = 78 → ¬ j = 22 → ¬ j = 6 + n → ¬ j = 29 + n → ¬ j = n → ¬ j = 23 + n → upd (cmM nw n xk xs xw xh) 78 0 j = nw j := fun j z1 z2 z3 z4 z5 z6 => by rw [cm_at, if_neg z1, if_neg z2, if_neg z3, if_neg z4, if_neg z5, if_neg z6]
  have eS : upd (cmM nw n xk xs xw xh) 78 0 n = xs := by rw [cm_at, if_neg (by omega), if_neg (by omega), if_neg (by omega), if_neg (by omega), if_pos rfl]
  have eH : upd (cmM nw n xk xs xw xh) 78 0 (6 + n) = xh := by rw [cm_at, if_neg (by omega), if_neg (by omega), if_pos rfl]
  have eW : upd (cmM nw n xk xs xw xh) 78 0 (29 + n) = xw := by rw [cm_at, if_neg (by omega), if_neg (by omega), if_neg (by omega), if_pos rfl]
  have eK : upd (cmM nw n xk xs xw xh) 78 0 (23 + n) = xk := by rw [cm_at, if_neg (by omega), if_neg (by omega), if_neg (by omega), if_neg (by omega), if_neg (by omega), if_pos rfl]
  have fr : ∀ j, j < n → ¬ nw j = xs := fun j hj q => fi_some (f := nw) (by omega) hj q d
  refine ⟨n + 1, zn, 0, 0, by omega, by rw [cm_at, if_neg (by omega), if_pos rfl], ⟨?_, ?_, ?_, ?_, rfl, ?_, ?_, fun j hj => ?_, fun i hi j hj hij => ?_, fun j g1 g2 => ?_, bd_congr h10.2 (fun j q1 q2 q3 => ne j (by omega) (by omega) (by omega) (by omega) (by omega) (by omega))⟩, fun j hj => ?_, fun j hj => ?_, a6, rfl, ?_, fun j hj => ?_, by omega, by omega, rfl, rfl, upd_at _ _ _, fun k hk => absurd hk (by omega)⟩
  · rw [ne 20 (by omega) (by omega) (by omega) (by omega) (by omega) (by omega)]; exact h1
  · rw [ne 21 (by omega) (by omega) (by omega) (by omega) (by omega) (by omega)]; exact h2
  · rw [ne 18 (by omega) (by omega) (by omega) (by omega) (by omega) (by omega)]; exact h3
  · rw [ne 19 (by omega) (by omega) (by omega) (by omega) (by omega) (by omega)]; exact h4
  · rw [ne 20 (by omega) (by omega) (by omega) (by omega) (by omega) (by omega)]; exact h6
  · rw [ne 21 (by omega) (by omega) (by omega) (by omega) (by omega) (by omega)]; exact h7
  · by_cases e : j = n
    · subst e
      rw [eS, eH, ne (12 + j) (by omega) (by omega) (by omega) (by omega) (by omega) (by omega), h10.1 j (Nat.le_refl _) hn]
      exact ⟨upd_at _ _ _, upd_at _ _ _, upd_at _ _ _, hs, hh⟩
    · rw [ne j (by omega) (by omega) (by omega) (by omega) (by omega) (by omega), ne (6 + j) (by omega) (by omega) (by omega) (by omega) (by omega) (by omega), ne (12 + j) (by omega) (by omega) (by omega) (by omega) (by omega) (by omega)]
      obtain ⟨q1, q2, q3, q4, q5⟩ := h8 j (by omega)
      exact ⟨(upd_ne _ _ e).trans q1, (upd_ne _ _ e).trans q2, (upd_ne _ _ e).trans q3, q4, q5⟩
  · by_cases ei : i = n <;> by_cases ej : j = n
    · rw [ei, ej]
    · subst ei
      rw [eS, ne j (by omega) (by omega) (by omega) (by omega) (by omega) (by omega)] at hij
      exact absurd hij.symm (fr j (by omega))
    · subst ej
      rw [eS, ne i (by omega) (by omega) (by omega) (by omega) (by omega) (by omega)] at hij
      exact absurd hij (fr i (by omega))
    · rw [ne i (by omega) (by omega) (by omega) (by omega) (by omega) (by omega), ne j (by omega) (by omega) (by omega) (by omega) (by omega) (by omega)] at hij
      exact h9 i (by omega) j (by omega) hij
  · rw [ne (12 + j) (by omega) (by omega) (by omega) (by omega) (by omega) (by omega)]; exact h10.1 j (by omega) g2
  · by_cases e : j = n
    · subst e
      rw [eK, eW]
      exact ⟨upd_at _ _ _, upd_at _ _ _⟩
    · rw [ne (23 + j) (by omega) (by omega) (by omega) (by omega) (by omega) (by omega), ne (29 + j) (by omega) (by omega) (by omega) (by omega) (by omega) (by omega)]
      exact ⟨(upd_ne _ _ e).trans (a4 j (by omega)).1, (upd_ne _ _ e).trans (a4 j (by omega)).2⟩
  · by_cases e : j = n
    · subst e
      rw [eK, eW]
      exact ⟨hk, hw⟩
    · rw [ne (23 + j) (by omega) (by omega) (by omega) (by omega) (by omega) (by omega), ne (29 + j) (by omega) (by omega) (by omega) (by omega) (by omega) (by omega)]
      exact a5 j (by omega)
  · rw [ne 35 (by omega) (by omega) (by omega) (by omega) (by omega) (by omega)]; exact a8
  · rw [ne (36 + j) (by omega) (by omega) (by omega) (by omega) (by omega) (by omega)]; exact a9 j hj
set_option maxRecDepth 100000 in
theorem op_digest (l : Launch) (K : KA) (G : GG) (ax : Nat) (ad : Ad) (am : Nat → Nat) (X : XS) (Y : YS) (h : Rel X Y) : OPl Rel K l G ax ad am yX5_digest cX5_digest 5 yX6_digest cX6_digest 4 [] X Y := by
  obtain ⟨⟨⟨wo, mi, bi, la, ch, ki, se, wd, hu, b9⟩, ⟨old, psz, T⟩, np, ns⟩, i0, i1, kp, ⟨f, len, pl, sa, tk9, vl⟩, ⟨wo1, mi1, bi1, la1, ch1, ki1, se1, wd1, hu1, bt1⟩, sg, rf, ab, bl⟩ := X
  obtain ⟨nw, rd, asd, img, kpt, txt, sz, abv, blw, bds, nos, fls, att, bgn, tkn, wrd, vlu, sts, bst⟩ := Y
  obtain ⟨h1, h2, h3, h4, h5, h6⟩ := h
  obtain ⟨n, zn, u, o, a1, a2, a3, a4, a5, a6, a7, a8, a9, b1, b2, b3, b4, b5, b6⟩ := h1
  have e1 : ch = nI n := a3.2.2.2.2.1
  have e2 : ns = nI zn := a7
  have e3 : old = nI o := b3
  have e4 : psz = nI u := b4
  subst e1; subst e2; subst e3; subst e4
  have e5 : nw 22 = nI n := a2
  obtain ⟨z, q, r, hz, f1, f2, f3, f4, h7⟩ := h3
  have f1 : len = nI z := f1
  have f2 : sz = nI z := f2
  subst f1; subst f2
  have g1 : wo = nw 20 := a3.1
  have g2 : mi = nw 21 := a3.2.1
  have g3 : bi = nw 18 := a3.2.2.1
  have g4 : la = nw 19 := a3.2.2.2.1
  have g5 : nw 35 = nI zn := a8
  have g6 : nw 78 = nI u := b5
  have g7 : ab = abv := h5
  have g8 : bl = blw := h6
  have hA : ∀ k, dg1 nw (nI z) k = dgA wo mi bi la n zn u z k := by
    intro k
    induction k with
    | zero => rfl
    | succ k ih => rw [dg1, dgA, ih, cnM, hmC, e5, g5, g6, g1, g2, g3, g4]
  have hB : ∀ h k, k ≤ n → dg2 nw h k = dgB ki se wd hu b9 h k := by
    intro h k
    induction k with
    | zero => exact fun _ => rfl
    | succ k ih =>
        intro hk
        obtain ⟨q1, q2, q3, -⟩ := a3.2.2.2.2.2.2.2.1 k (by omega)
        obtain ⟨q4, q5⟩ := a4 k (by omega)
        have q1 : se k = nw k := q1
        have q2 : hu k = nw (6 + k) := q2
        have q3 : b9 k = nw (12 + k) := q3
        have q4 : ki k = nw (23 + k) := q4
        have q5 : wd k = nw (29 + k) := q5
        rw [dg2, dgB, ih (by omega), ← q1, ← q2, ← q3, ← q4, ← q5]
        rfl
  have hC : ∀ h k, k ≤ 7 * zn → dg3 nw h k = dgC np h k := by
    intro h k
    induction k with
    | zero => exact fun _ => rfl
    | succ k ih => exact fun hk => by rw [dg3, dgC, ih (by omega)]; exact congrArg (fun q : Int32 => 31 * dgC np h k + q.toInt64) (a9 k (by omega)).1.symm
  refine ⟨31 * (31 * dgC np (dgB ki se wd hu b9 (dgA wo mi bi la n zn u z 8) n) (zn * 7) + ab) + bl, Unit, Unit, fun _ => (((wo, mi, bi, la, nI n, ki, se, wd, hu, b9), (nI o, nI u, T), (np, nI zn)), i0, i1, kp, (f, nI z, pl, sa, tk9, vl), (wo1, mi1, bi1, la1, ch1, ki1, se1, wd1, hu1, bt1), sg, rf, ab, bl), fun _ => (nw, rd, asd, img, kpt, txt, nI z, abv, blw, bds, nos, fls, att, bgn, tkn, wrd, vlu, sts, bst), ?_, ?_, fun _ _ => ⟨⟨n, zn, u, o, a1, a2, a3, a4, a5, a6, rfl, a8, a9, b1, b2, rfl, rfl, b5, b6⟩, h2, ⟨z, q, r, hz, rfl, rfl, f3, f4, h7⟩, h4, h5, h6⟩⟩
  · exact LC.ofT (wb := [xO G ax (ad 11 0) (ad 11 1) (ad 11 2) (ad 9) (ad 10) (ad 11 3) (ad 11 4) ab bl, oS G (ad 11 0) (ad 0) (ad 1) (ad 2), tW G (ad 0) wo mi bi la (nI n) ki se wd hu b9, pW G (ad 1) (nI o) (nI u) T, nW G (ad 2) np (nI zn), xT G (ad 9) f (nI z) pl sa tk9 vl]) (wb' := [xO G ax (ad 11 0) (ad 11 1) (ad 11 2) (ad 9) (ad 10) (ad 11 3) (ad 11 4) ab bl, oS G (ad 11 0) (ad 0) (ad 1) (ad 2), tW G (ad 0) wo mi bi la (nI n) ki se wd hu b9, pW G (ad 1) (nI o) (nI u) T, nW G (ad 2) np (nI zn), xT G (ad 9) f (nI z) pl sa tk9 vl]) [0, 1, 2, 3, 4, 15] (c_X5_digest l G ax (ad 11 0) (ad 0) (ad 1) (ad 2) (ad 11 1) (ad 11 2) (ad 9) (ad 10) (ad 11 3) (ad 11 4) ab bl wo mi bi la n ki se wd hu b9 o u T np zn f z pl sa tk9 vl a1 a6) (by decide) (by decide) rfl rfl rfl rfl rfl rfl
  · have hc := c_X6_digest l G am  nw rd asd img kpt txt (nI z) abv blw bds nos fls att bgn tkn wrd vlu sts bst n zn a2 a1 a8 a6
    rw [hA, hB _ n (Nat.le_refl n), hC _ (7 * zn) (Nat.le_refl _), show 7 * zn = zn * 7 by omega, ← g7, ← g8] at hc
    rw [← g7, ← g8]
    exact LC.ofT (wb := [mY G am (nw, rd, asd, img, kpt, txt, nI z, ab, bl, bds, nos, fls, att, bgn, tkn, wrd, vlu, sts, bst)]) (wb' := [mY G am (nw, rd, asd, img, kpt, txt, nI z, ab, bl, bds, nos, fls, att, bgn, tkn, wrd, vlu, sts, bst)]) [0] hc (by decide) (by decide) (flat1 _) (flat1 _) rfl rfl rfl rfl
set_option maxRecDepth 100000 in
theorem op_of (l : Launch) (K : KA) (G : GG) (ax : Nat) (ad : Ad) (am : Nat → Nat) (X : XS) (Y : YS) (h : Rel X Y) (x y : Int32) : OPi Rel K l G ax ad am yX5_of cX5_of 3 yX6_of cX6_of 3 [.int x, .int y] X Y := by
  obtain ⟨⟨⟨wo, mi, bi, la, ch, ki, se, wd, hu, b9⟩, ⟨old, psz, T⟩, np, ns⟩, i0, i1, kp, ⟨f, len, pl, sa, tk9, vl⟩, ⟨wo1, mi1, bi1, la1, ch1, ki1, se1, wd1, hu1, bt1⟩, sg, rf, ab, bl⟩ := X
  obtain ⟨nw, rd, asd, img, kpt, txt, sz, abv, blw, bds, nos, fls, att, bgn, tkn, wrd, vlu, sts, bst⟩ := Y
  obtain ⟨h1, h2, h3, h4, h5, h6⟩ := h
  obtain ⟨n, zn, u, o, a1, a2, a3, a4, a5, a6, a7, a8, a9, b1, b2, b3, b4, b5, b6⟩ := h1
  have e1 : ch = nI n := a3.2.2.2.2.1
  have e2 : ns = nI zn := a7
  have e3 : old = nI o := b3
  have e4 : psz = nI u := b4
  subst e1; subst e2; subst e3; subst e4
  have e5 : nw 22 = nI n := a2
  have rt := rt_of a1 a3 a4 a5
  by_cases c : (inI x 0 (nI n - 1) && inI y 0 5) = true
  · have c2 := (Bool.and_eq_true _ _ ▸ c : inI x 0 (nI n - 1) = true ∧ inI y 0 5 = true)
    obtain ⟨k, hk, ex⟩ := inI_child rfl a1 c2.1
    obtain ⟨q1, q2, q3, -⟩ := a3.2.2.2.2.2.2.2.1 k hk
    obtain ⟨q4, q5⟩ := a4 k hk
    have q1 : se k = nw k := q1
    have q2 : hu k = nw (6 + k) := q2
    have q3 : b9 k = nw (12 + k) := q3
    have q4 : ki k = nw (23 + k) := q4
    have q5 : wd k = nw (29 + k) := q5
    by_cases d : y = 5
    · refine ⟨tgI (tk se n) (se k), Unit, Unit, fun _ => (((wo, mi, bi, la, nI n, ki, se, wd, hu, b9), (nI o, nI u, T), (np, nI zn)), i0, i1, kp, (f, len, pl, sa, tk9, vl), (wo1, mi1, bi1, la1, ch1, ki1, se1, wd1, hu1, bt1), sg, rf, ab, bl), fun _ => (nw, rd, asd, img, kpt, txt, sz, abv, blw, bds, nos, fls, att, bgn, tkn, wrd, vlu, sts, bst), ?_, ?_, fun _ _ => ⟨⟨n, zn, u, o, a1, a2, a3, a4, a5, a6, rfl, a8, a9, b1, b2, rfl, rfl, b5, b6⟩, h2, h3, h4, h5, h6⟩⟩
      · exact LC.ofT (wb := [xO G ax (ad 11 0) (ad 11 1) (ad 11 2) (ad 9) (ad 10) (ad 11 3) (ad 11 4) ab bl, oS G (ad 11 0) (ad 0) (ad 1) (ad 2), tW G (ad 0) wo mi bi la (nI n) ki se wd hu b9]) (wb' := [xO G ax (ad 11 0) (ad 11 1) (ad 11 2) (ad 9) (ad 10) (ad 11 3) (ad 11 4) ab bl, oS G (ad 11 0) (ad 0) (ad 1) (ad 2), tW G (ad 0) wo mi bi la (nI n) ki se wd hu b9]) [0, 1, 2] (c_X5_of_tight l G ax (ad 11 0) (ad 0) (ad 1) (ad 2) (ad 11 1) (ad 11 2) (ad 9) (ad 10) (ad 11 3) (ad 11 4) x k ex y ab bl wo mi bi la n ki se wd hu b9 a1 c2.1 hk c2.2 d) (by decide) (by decide) rfl rfl rfl rfl rfl rfl
      · have hc := c_X6_of l G am x y nw rd asd img kpt txt sz abv blw bds nos fls att bgn tkn wrd vlu sts bst n a2 a1
        simp only [e5, eq_true c2, if_true] at hc
        rw [show x.toNatClampNeg = k by rw [ex]; exact nI_clamp (by omega)] at hc
        rw [if_neg (by rw [d]; decide), if_neg (by rw [d]; decide), if_neg (by rw [d]; decide), if_neg (by rw [d]; decide), if_neg (by rw [d]; decide), ← rt_tg rt hk] at hc
        exact LC.ofT (wb := [mY G am (nw, rd, asd, img, kpt, txt, sz, abv, blw, bds, nos, fls, att, bgn, tkn, wrd, vlu, sts, bst)]) (wb' := [mY G am (nw, rd, asd, img, kpt, txt, sz, abv, blw, bds, nos, fls, att, bgn, tkn, wrd, vlu, sts, bst)]) [0] hc (by decide) (by decide) (flat1 _) (flat1 _) rfl rfl rfl rfl
    · have d5 : ¬ y = 0 → ¬ y = 1 → ¬ y = 2 → ¬ y = 3 → y = 4 := fun z0 z1 z2 z3 => by
        obtain ⟨b, -, hb, eb⟩ := inI_nat (a := 0) (b := 5) (by omega) (by omega) rfl rfl c2.2
        rcases (show b = 0 ∨ b = 1 ∨ b = 2 ∨ b = 3 ∨ b = 4 ∨ b = 5 by omega) with rfl | rfl | rfl | rfl | rfl | rfl
        · exact absurd eb z0
        · exact absurd eb z1
        · exact absurd eb z2
        · exact absurd eb z3
        · exact eb
        · exact absurd eb d
      have ea : (if y = 0 then nw (23 + k) else if y = 1 then nw k else if y = 2 then nw (29 + k) else if y = 3 then nw (6 + k) else if y = 4 then nw (12 + k) else tgM nw n (nw k)) = (if y = 0 then ki k else if y = 1 then se k else if y = 2 then wd k else if y = 3 then hu k else b9 k) := by
        rw [q1, q2, q3, q4, q5]
        by_cases z0 : y = 0
        · rw [if_pos z0, if_pos z0]
        rw [if_neg z0, if_neg z0]
        by_cases z1 : y = 1
        · rw [if_pos z1, if_pos z1]
        rw [if_neg z1, if_neg z1]
        by_cases z2 : y = 2
        · rw [if_pos z2, if_pos z2]
        rw [if_neg z2, if_neg z2]
        by_cases z3 : y = 3
        · rw [if_pos z3, if_pos z3]
        rw [if_neg z3, if_neg z3, if_pos (d5 z0 z1 z2 z3)]
      refine ⟨if y = 0 then ki k else if y = 1 then se k else if y = 2 then wd k else if y = 3 then hu k else b9 k, Unit, Unit, fun _ => (((wo, mi, bi, la, nI n, ki, se, wd, hu, b9), (nI o, nI u, T), (np, nI zn)), i0, i1, kp, (f, len, pl, sa, tk9, vl), (wo1, mi1, bi1, la1, ch1, ki1, se1, wd1, hu1, bt1), sg, rf, ab, bl), fun _ => (nw, rd, asd, img, kpt, txt, sz, abv, blw, bds, nos, fls, att, bgn, tkn, wrd, vlu, sts, bst), ?_, ?_, fun _ _ => ⟨⟨n, zn, u, o, a1, a2, a3, a4, a5, a6, rfl, a8, a9, b1, b2, rfl, rfl, b5, b6⟩, h2, h3, h4, h5, h6⟩⟩
      · exact LC.ofT (wb := [xO G ax (ad 11 0) (ad 11 1) (ad 11 2) (ad 9) (ad 10) (ad 11 3) (ad 11 4) ab bl, oS G (ad 11 0) (ad 0) (ad 1) (ad 2), tW G (ad 0) wo mi bi la (nI n) ki se wd hu b9]) (wb' := [xO G ax (ad 11 0) (ad 11 1) (ad 11 2) (ad 9) (ad 10) (ad 11 3) (ad 11 4) ab bl, oS G (ad 11 0) (ad 0) (ad 1) (ad 2), tW G (ad 0) wo mi bi la (nI n) ki se wd hu b9]) [0, 1, 2] (c_X5_of_part l G ax (ad 11 0) (ad 0) (ad 1) (ad 2) (ad 11 1) (ad 11 2) (ad 9) (ad 10) (ad 11 3) (ad 11 4) x k ex y ab bl wo mi bi la n ki se wd hu b9 a1 c2.1 hk c2.2 d) (by decide) (by decide) rfl rfl rfl rfl rfl rfl
      · have hc := c_X6_of l G am x y nw rd asd img kpt txt sz abv blw bds nos fls att bgn tkn wrd vlu sts bst n a2 a1
        simp only [e5, eq_true c2, if_true] at hc
        rw [show x.toNatClampNeg = k by rw [ex]; exact nI_clamp (by omega)] at hc
        rw [ea] at hc
        exact LC.ofT (wb := [mY G am (nw, rd, asd, img, kpt, txt, sz, abv, blw, bds, nos, fls, att, bgn, tkn, wrd, vlu, sts, bst)]) (wb' := [mY G am (nw, rd, asd, img, kpt, txt, sz, abv, blw, bds, nos, fls, att, bgn, tkn, wrd, vlu, sts, bst)]) [0] hc (by decide) (by decide) (flat1 _) (flat1 _) rfl rfl rfl rfl
  · have cc : ¬ (inI x 0 (nI n - 1) = true ∧ inI y 0 5 = true) := fun q => c (by rw [q.1, q.2]; rfl)
    have c := Bool.eq_false_iff.mpr c
    refine ⟨-2, Unit, Unit, fun _ => (((wo, mi, bi, la, nI n, ki, se, wd, hu, b9), (nI o, nI u, T), (np, nI zn)), i0, i1, kp, (f, len, pl, sa, tk9, vl), (wo1, mi1, bi1, la1, ch1, ki1, se1, wd1, hu1, bt1), sg, upd rf 0 (rf 0 + 1), ab, bl), fun _ => (nw, rd, asd, img, kpt, txt, sz, abv, blw, bds + 1, nos, fls, att, bgn, tkn, wrd, vlu, sts, bst), ?_, ?_, fun _ _ => ⟨⟨n, zn, u, o, a1, a2, a3, a4, a5, a6, rfl, a8, a9, b1, b2, rfl, rfl, b5, b6⟩, h2, h3, rf_0 h4, h5, h6⟩⟩
    · exact LC.ofT (wb := [xO G ax (ad 11 0) (ad 11 1) (ad 11 2) (ad 9) (ad 10) (ad 11 3) (ad 11 4) ab bl, oS G (ad 11 0) (ad 0) (ad 1) (ad 2), tW G (ad 0) wo mi bi la (nI n) ki se wd hu b9, aW G (ad 11 4) 3 rf]) (wb' := [xO G ax (ad 11 0) (ad 11 1) (ad 11 2) (ad 9) (ad 10) (ad 11 3) (ad 11 4) ab bl, oS G (ad 11 0) (ad 0) (ad 1) (ad 2), tW G (ad 0) wo mi bi la (nI n) ki se wd hu b9, aW G (ad 11 4) 3 (upd rf 0 (rf 0 + 1))]) [0, 1, 2, 18] (c_X5_of_bad l G ax (ad 11 0) (ad 0) (ad 1) (ad 2) (ad 11 1) (ad 11 2) (ad 9) (ad 10) (ad 11 3) (ad 11 4) x y ab bl wo mi bi la n ki se wd hu b9 rf c) (by decide) (by decide) rfl rfl rfl rfl rfl rfl
    · have hc := c_X6_of l G am x y nw rd asd img kpt txt sz abv blw bds nos fls att bgn tkn wrd vlu sts bst n a2 a1
      simp only [e5, eq_false cc, if_false] at hc
      exact LC.ofT (wb := [mY G am (nw, rd, asd, img, kpt, txt, sz, abv, blw, bds, nos, fls, att, bgn, tkn, wrd, vlu, sts, bst)]) (wb' := [mY G am (nw, rd, asd, img, kpt, txt, sz, abv, blw, bds + 1, nos, fls, att, bgn, tkn, wrd, vlu, sts, bst)]) [0] hc (by decide) (by decide) (flat1 _) (flat1 _) rfl rfl rfl rfl
set_option maxRecDepth 100000 in
theorem op_now (l : Launch) (K : KA) (G : GG) (ax : Nat) (ad : Ad) (am : Nat → Nat) (X : XS) (Y : YS) (h : Rel X Y) (x y : Int32) : OPi Rel K l G ax ad am yX5_now cX5_now 3 yX6_now cX6_now 3 [.int x, .int y] X Y := by
  obtain ⟨⟨⟨wo, mi, bi, la, ch, ki, se, wd, hu, b9⟩, ⟨old, psz, T⟩, np, ns⟩, i0, i1, kp, ⟨f, len, pl, sa, tk9, vl⟩, ⟨wo1, mi1, bi1, la1, ch1, ki1, se1, wd1, hu1, bt1⟩, sg, rf, ab, bl⟩ := X
  obtain ⟨nw, rd, asd, img, kpt, txt, sz, abv, blw, bds, nos, fls, att, bgn, tkn, wrd, vlu, sts, bst⟩ := Y
  obtain ⟨h1, h2, h3, h4, h5, h6⟩ := h
  obtain ⟨n, zn, u, o, a1, a2, a3, a4, a5, a6, a7, a8, a9, b1, b2, b3, b4, b5, b6⟩ := h1
  have e1 : ch = nI n := a3.2.2.2.2.1
  have e2 : ns = nI zn := a7
  have e3 : old = nI o := b3
  have e4 : psz = nI u := b4
  subst e1; subst e2; subst e3; subst e4
  have e5 : nw 22 = nI n := a2
  have rt := rt_of a1 a3 a4 a5
  by_cases c : (inI x 0 (nI n - 1) && inI y 0 2) = true
  · have c2 := (Bool.and_eq_true _ _ ▸ c : inI x 0 (nI n - 1) = true ∧ inI y 0 2 = true)
    obtain ⟨k, hk, ex⟩ := inI_child rfl a1 c2.1
    by_cases d : y = 0
    · refine ⟨nr (ki k) (hu k) (tgI (tk se n) (se k)) (wd k) (b9 k) la, Unit, Unit, fun _ => (((wo, mi, bi, la, nI n, ki, se, wd, hu, b9), (nI o, nI u, T), (np, nI zn)), i0, i1, kp, (f, len, pl, sa, tk9, vl), (wo1, mi1, bi1, la1, ch1, ki1, se1, wd1, hu1, bt1), sg, rf, ab, bl), fun _ => (nw, rd, asd, img, kpt, txt, sz, abv, blw, bds, nos, fls, att, bgn, tkn, wrd, vlu, sts, bst), ?_, ?_, fun _ _ => ⟨⟨n, zn, u, o, a1, a2, a3, a4, a5, a6, rfl, a8, a9, b1, b2, rfl, rfl, b5, b6⟩, h2, h3, h4, h5, h6⟩⟩
      · exact LC.ofT (wb := [xO G ax (ad 11 0) (ad 11 1) (ad 11 2) (ad 9) (ad 10) (ad 11 3) (ad 11 4) ab bl, oS G (ad 11 0) (ad 0) (ad 1) (ad 2), tW G (ad 0) wo mi bi la (nI n) ki se wd hu b9]) (wb' := [xO G ax (ad 11 0) (ad 11 1) (ad 11 2) (ad 9) (ad 10) (ad 11 3) (ad 11 4) ab bl, oS G (ad 11 0) (ad 0) (ad 1) (ad 2), tW G (ad 0) wo mi bi la (nI n) ki se wd hu b9]) [0, 1, 2] (c_X5_now_near l G ax (ad 11 0) (ad 0) (ad 1) (ad 2) (ad 11 1) (ad 11 2) (ad 9) (ad 10) (ad 11 3) (ad 11 4) x k ex y ab bl wo mi bi la n ki se wd hu b9 a1 c2.1 hk c2.2 d) (by decide) (by decide) rfl rfl rfl rfl rfl rfl
      · have hc := c_X6_now l G am x y nw rd asd img kpt txt sz abv blw bds nos fls att bgn tkn wrd vlu sts bst n a2 a1
        simp only [e5, eq_true c2, if_true] at hc
        rw [show x.toNatClampNeg = k by rw [ex]; exact nI_clamp (by omega)] at hc
        rw [if_pos d, ← rt_nr rt hk] at hc
        exact LC.ofT (wb := [mY G am (nw, rd, asd, img, kpt, txt, sz, abv, blw, bds, nos, fls, att, bgn, tkn, wrd, vlu, sts, bst)]) (wb' := [mY G am (nw, rd, asd, img, kpt, txt, sz, abv, blw, bds, nos, fls, att, bgn, tkn, wrd, vlu, sts, bst)]) [0] hc (by decide) (by decide) (flat1 _) (flat1 _) rfl rfl rfl rfl
    · by_cases d4 : y = 1
      · refine ⟨whm se n (se k), Unit, Unit, fun _ => (((wo, mi, bi, la, nI n, ki, se, wd, hu, b9), (nI o, nI u, T), (np, nI zn)), i0, i1, kp, (f, len, pl, sa, tk9, vl), (wo1, mi1, bi1, la1, ch1, ki1, se1, wd1, hu1, bt1), sg, rf, ab, bl), fun _ => (nw, rd, asd, img, kpt, txt, sz, abv, blw, bds, nos, fls, att, bgn, tkn, wrd, vlu, sts, bst), ?_, ?_, fun _ _ => ⟨⟨n, zn, u, o, a1, a2, a3, a4, a5, a6, rfl, a8, a9, b1, b2, rfl, rfl, b5, b6⟩, h2, h3, h4, h5, h6⟩⟩
        · exact LC.ofT (wb := [xO G ax (ad 11 0) (ad 11 1) (ad 11 2) (ad 9) (ad 10) (ad 11 3) (ad 11 4) ab bl, oS G (ad 11 0) (ad 0) (ad 1) (ad 2), tW G (ad 0) wo mi bi la (nI n) ki se wd hu b9]) (wb' := [xO G ax (ad 11 0) (ad 11 1) (ad 11 2) (ad 9) (ad 10) (ad 11 3) (ad 11 4) ab bl, oS G (ad 11 0) (ad 0) (ad 1) (ad 2), tW G (ad 0) wo mi bi la (nI n) ki se wd hu b9]) [0, 1, 2] (c_X5_now_whom l G ax (ad 11 0) (ad 0) (ad 1) (ad 2) (ad 11 1) (ad 11 2) (ad 9) (ad 10) (ad 11 3) (ad 11 4) x k ex y ab bl wo mi bi la n ki se wd hu b9 a1 c2.1 hk c2.2 d d4) (by decide) (by decide) rfl rfl rfl rfl rfl rfl
        · have hc := c_X6_now l G am x y nw rd asd img kpt txt sz abv blw bds nos fls att bgn tkn wrd vlu sts bst n a2 a1
          simp only [e5, eq_true c2, if_true] at hc
          rw [show x.toNatClampNeg = k by rw [ex]; exact nI_clamp (by omega)] at hc
          rw [if_neg d, if_pos d4, ← rt_wh rt hk] at hc
          exact LC.ofT (wb := [mY G am (nw, rd, asd, img, kpt, txt, sz, abv, blw, bds, nos, fls, att, bgn, tkn, wrd, vlu, sts, bst)]) (wb' := [mY G am (nw, rd, asd, img, kpt, txt, sz, abv, blw, bds, nos, fls, att, bgn, tkn, wrd, vlu, sts, bst)]) [0] hc (by decide) (by decide) (flat1 _) (flat1 _) rfl rfl rfl rfl
      · have eb : bI (bitesM nw n k) = (bitr wo la n ki se wd hu b9 >>> (x &&& 31)) &&& 1 := by
          have h0 : bitr wo la n ki se wd hu b9 = bitrM nw n := rt_bitr (d := (mi, bi, la, hu, b9)) rt
          rw [h0, ex, shr1 _ (by omega), bitrM, btM_bt (by omega) n (by omega), decide_eq_true hk, Bool.true_and]
          rfl
        refine ⟨(bitr wo la n ki se wd hu b9 >>> (x &&& 31)) &&& 1, Unit, Unit, fun _ => (((wo, mi, bi, la, nI n, ki, se, wd, hu, b9), (nI o, nI u, T), (np, nI zn)), i0, i1, kp, (f, len, pl, sa, tk9, vl), (wo1, mi1, bi1, la1, ch1, ki1, se1, wd1, hu1, bt1), sg, rf, ab, bl), fun _ => (nw, rd, asd, img, kpt, txt, sz, abv, blw, bds, nos, fls, att, bgn, tkn, wrd, vlu, sts, bst), ?_, ?_, fun _ _ => ⟨⟨n, zn, u, o, a1, a2, a3, a4, a5, a6, rfl, a8, a9, b1, b2, rfl, rfl, b5, b6⟩, h2, h3, h4, h5, h6⟩⟩
        · exact LC.ofT (wb := [xO G ax (ad 11 0) (ad 11 1) (ad 11 2) (ad 9) (ad 10) (ad 11 3) (ad 11 4) ab bl, oS G (ad 11 0) (ad 0) (ad 1) (ad 2), tW G (ad 0) wo mi bi la (nI n) ki se wd hu b9]) (wb' := [xO G ax (ad 11 0) (ad 11 1) (ad 11 2) (ad 9) (ad 10) (ad 11 3) (ad 11 4) ab bl, oS G (ad 11 0) (ad 0) (ad 1) (ad 2), tW G (ad 0) wo mi bi la (nI n) ki se wd hu b9]) [0, 1, 2] (c_X5_now_bite l G ax (ad 11 0) (ad 0) (ad 1) (ad 2) (ad 11 1) (ad 11 2) (ad 9) (ad 10) (ad 11 3) (ad 11 4) x k ex y ab bl wo mi bi la n ki se wd hu b9 a1 c2.1 hk c2.2 d d4) (by decide) (by decide) rfl rfl rfl rfl rfl rfl
        · have hc := c_X6_now l G am x y nw rd asd img kpt txt sz abv blw bds nos fls att bgn tkn wrd vlu sts bst n a2 a1
          simp only [e5, eq_true c2, if_true] at hc
          rw [show x.toNatClampNeg = k by rw [ex]; exact nI_clamp (by omega)] at hc
          rw [if_neg d, if_neg d4, eb] at hc
          exact LC.ofT (wb := [mY G am (nw, rd, asd, img, kpt, txt, sz, abv, blw, bds, nos, fls, att, bgn, tkn, wrd, vlu, sts, bst)]) (wb' := [mY G am (nw, rd, asd, img, kpt, txt, sz, abv, blw, bds, nos, fls, att, bgn, tkn, wrd, vlu, sts, bst)]) [0] hc (by decide) (by decide) (flat1 _) (flat1 _) rfl rfl rfl rfl
  · have cc : ¬ (inI x 0 (nI n - 1) = true ∧ inI y 0 2 = true) := fun q => c (by rw [q.1, q.2]; rfl)
    have c := Bool.eq_false_iff.mpr c
    refine ⟨-10, Unit, Unit, fun _ => (((wo, mi, bi, la, nI n, ki, se, wd, hu, b9), (nI o, nI u, T), (np, nI zn)), i0, i1, kp, (f, len, pl, sa, tk9, vl), (wo1, mi1, bi1, la1, ch1, ki1, se1, wd1, hu1, bt1), sg, upd rf 0 (rf 0 + 1), ab, bl), fun _ => (nw, rd, asd, img, kpt, txt, sz, abv, blw, bds + 1, nos, fls, att, bgn, tkn, wrd, vlu, sts, bst), ?_, ?_, fun _ _ => ⟨⟨n, zn, u, o, a1, a2, a3, a4, a5, a6, rfl, a8, a9, b1, b2, rfl, rfl, b5, b6⟩, h2, h3, rf_0 h4, h5, h6⟩⟩
    · exact LC.ofT (wb := [xO G ax (ad 11 0) (ad 11 1) (ad 11 2) (ad 9) (ad 10) (ad 11 3) (ad 11 4) ab bl, oS G (ad 11 0) (ad 0) (ad 1) (ad 2), tW G (ad 0) wo mi bi la (nI n) ki se wd hu b9, aW G (ad 11 4) 3 rf]) (wb' := [xO G ax (ad 11 0) (ad 11 1) (ad 11 2) (ad 9) (ad 10) (ad 11 3) (ad 11 4) ab bl, oS G (ad 11 0) (ad 0) (ad 1) (ad 2), tW G (ad 0) wo mi bi la (nI n) ki se wd hu b9, aW G (ad 11 4) 3 (upd rf 0 (rf 0 + 1))]) [0, 1, 2, 18] (c_X5_now_bad l G ax (ad 11 0) (ad 0) (ad 1) (ad 2) (ad 11 1) (ad 11 2) (ad 9) (ad 10) (ad 11 3) (ad 11 4) x y ab bl wo mi bi la n ki se wd hu b9 rf c) (by decide) (by decide) rfl rfl rfl rfl rfl rfl
    · have hc := c_X6_now l G am x y nw rd asd img kpt txt sz abv blw bds nos fls att bgn tkn wrd vlu sts bst n a2 a1
      simp only [e5, eq_false cc, if_false] at hc
      exact LC.ofT (wb := [mY G am (nw, rd, asd, img, kpt, txt, sz, abv, blw, bds, nos, fls, att, bgn, tkn, wrd, vlu, sts, bst)]) (wb' := [mY G am (nw, rd, asd, img, kpt, txt, sz, abv, blw, bds + 1, nos, fls, att, bgn, tkn, wrd, vlu, sts, bst)]) [0] hc (by decide) (by decide) (flat1 _) (flat1 _) rfl rfl rfl rfl
set_option maxRecDepth 100000 in
theorem op_note (l : Launch) (K : KA) (G : GG) (ax : Nat) (ad : Ad) (am : Nat → Nat) (X : XS) (Y : YS) (h : Rel X Y) (x0 x1 x2 x3 x4 x5 x6 : Int32) : OPi Rel K l G ax ad am yX5_note cX5_note 9 yX6_note cX6_note 9 [.int x0, .int x1, .int x2, .int x3, .int x4, .int x5, .int x6] X Y := by
  obtain ⟨⟨⟨wo, mi, bi, la, ch, ki, se, wd, hu, b9⟩, ⟨old, psz, T⟩, np, ns⟩, i0, i1, kp, ⟨f, len, pl, sa, tk9, vl⟩, ⟨wo1, mi1, bi1, la1, ch1, ki1, se1, wd1, hu1, bt1⟩, sg, rf, ab, bl⟩ := X
  obtain ⟨nw, rd, asd, img, kpt, txt, sz, abv, blw, bds, nos, fls, att, bgn, tkn, wrd, vlu, sts, bst⟩ := Y
  obtain ⟨h1, h2, h3, h4, h5, h6⟩ := h
  obtain ⟨n, zn, u, o, a1, a2, a3, a4, a5, a6, a7, a8, a9, b1, b2, b3, b4, b5, b6⟩ := h1
  have e1 : ch = nI n := a3.2.2.2.2.1
  have e2 : ns = nI zn := a7
  have e3 : old = nI o := b3
  have e4 : psz = nI u := b4
  subst e1; subst e2; subst e3; subst e4
  have e5 : nw 22 = nI n := a2
  by_cases c : (inI x0 0 (nI n - 1) && (inI x1 0 30 && (inI x2 0 2 && (inI x3 0 20 && (inI x4 0 9 && (inI x5 0 6 && inI x6 0 60)))))) = true
  · have cg := c
    simp only [Bool.and_eq_true] at cg
    obtain ⟨g0, g1, g2, g3, g4, g5, g6⟩ := cg
    by_cases d : zn = 6
    · refine ⟨-4, Unit, Unit, fun _ => (((wo, mi, bi, la, nI n, ki, se, wd, hu, b9), (nI o, nI u, T), (np, nI zn)), i0, i1, kp, (f, len, pl, sa, tk9, vl), (wo1, mi1, bi1, la1, ch1, ki1, se1, wd1, hu1, bt1), sg, upd rf 2 (rf 2 + 1), ab, bl), fun _ => (nw, rd, asd, img, kpt, txt, sz, abv, blw, bds, nos, fls + 1, att, bgn, tkn, wrd, vlu, sts, bst), ?_, ?_, fun _ _ => ⟨⟨n, zn, u, o, a1, a2, a3, a4, a5, a6, rfl, a8, a9, b1, b2, rfl, rfl, b5, b6⟩, h2, h3, rf_2 h4, h5, h6⟩⟩
      · exact LC.ofT (wb := [xO G ax (ad 11 0) (ad 11 1) (ad 11 2) (ad 9) (ad 10) (ad 11 3) (ad 11 4) ab bl, oS G (ad 11 0) (ad 0) (ad 1) (ad 2), tW G (ad 0) wo mi bi la (nI n) ki se wd hu b9, nW G (ad 2) np (nI zn), aW G (ad 11 4) 3 rf]) (wb' := [xO G ax (ad 11 0) (ad 11 1) (ad 11 2) (ad 9) (ad 10) (ad 11 3) (ad 11 4) ab bl, oS G (ad 11 0) (ad 0) (ad 1) (ad 2), tW G (ad 0) wo mi bi la (nI n) ki se wd hu b9, nW G (ad 2) np (nI zn), aW G (ad 11 4) 3 (upd rf 2 (rf 2 + 1))]) [0, 1, 2, 4, 18] (c_X5_note_full l G ax (ad 11 0) (ad 0) (ad 1) (ad 2) (ad 11 1) (ad 11 2) (ad 9) (ad 10) (ad 11 3) (ad 11 4) x0 x1 x2 x3 x4 x5 x6 ab bl wo mi bi la n ki se wd hu b9 np zn rf g0 g1 g2 g3 g4 g5 g6 a6 (by omega)) (by decide) (by decide) rfl rfl rfl rfl rfl rfl
      · have hc := c_X6_note l G am x0 x1 x2 x3 x4 x5 x6 nw rd asd img kpt txt sz abv blw bds nos fls att bgn tkn wrd vlu sts bst zn a8 a6
        simp only [e5, c, eq_true d, if_true, true_and, not_true_eq_false, and_false, if_false] at hc
        exact LC.ofT (wb := [mY G am (nw, rd, asd, img, kpt, txt, sz, abv, blw, bds, nos, fls, att, bgn, tkn, wrd, vlu, sts, bst)]) (wb' := [mY G am (nw, rd, asd, img, kpt, txt, sz, abv, blw, bds, nos, fls + 1, att, bgn, tkn, wrd, vlu, sts, bst)]) [0] hc (by decide) (by decide) (flat1 _) (flat1 _) rfl rfl rfl rfl
    · obtain ⟨k0_, hk0, ek0⟩ := inI_child rfl a1 g0
      obtain ⟨k1_, -, hk1, ek1⟩ := inI_nat (a := 0) (b := 30) (by omega) (by omega) rfl rfl g1
      obtain ⟨k2_, -, hk2, ek2⟩ := inI_nat (a := 0) (b := 2) (by omega) (by omega) rfl rfl g2
      obtain ⟨k3_, -, hk3, ek3⟩ := inI_nat (a := 0) (b := 20) (by omega) (by omega) rfl rfl g3
      obtain ⟨k4_, -, hk4, ek4⟩ := inI_nat (a := 0) (b := 9) (by omega) (by omega) rfl rfl g4
      obtain ⟨k5_, -, hk5, ek5⟩ := inI_nat (a := 0) (b := 6) (by omega) (by omega) rfl rfl g5
      obtain ⟨k6_, -, hk6, ek6⟩ := inI_nat (a := 0) (b := 60) (by omega) (by omega) rfl rfl g6
      have hS2 : RelS ((wo, mi, bi, la, nI n, ki, se, wd, hu, b9), (nI o, nI u, T), (ntC np zn x0 x1 x2 x3 x4 x5 x6, nI (zn + 1))) (ntM nw zn x0 x1 x2 x3 x4 x5 x6) := relS_notes a1 a2 a3 a4 a5 (zn := zn + 1) (by omega) rfl (upd_at _ _ _) (fun j hj => nt_rel a9 (by omega) ⟨k0_, by omega, ek0⟩ ⟨k1_, by omega, ek1⟩ ⟨k2_, by omega, ek2⟩ ⟨k3_, by omega, ek3⟩ ⟨k4_, by omega, ek4⟩ ⟨k5_, by omega, ek5⟩ ⟨k6_, by omega, ek6⟩ hj) b1 b2 rfl rfl b5 b6 (fun j hj => nt_lo (by omega)) (fun j hj => nt_lo (by omega))
      refine ⟨nI (zn + 1), Unit, Unit, fun _ => (((wo, mi, bi, la, nI n, ki, se, wd, hu, b9), (nI o, nI u, T), (ntC np zn x0 x1 x2 x3 x4 x5 x6, nI (zn + 1))), i0, i1, kp, (f, len, pl, sa, tk9, vl), (wo1, mi1, bi1, la1, ch1, ki1, se1, wd1, hu1, bt1), sg, rf, ab, bl), fun _ => ((ntM nw zn x0 x1 x2 x3 x4 x5 x6), rd, asd, img, kpt, txt, sz, abv, blw, bds, nos, fls, att, bgn, tkn, wrd, vlu, sts, bst), ?_, ?_, fun _ _ => ⟨hS2, h2, h3, h4, h5, h6⟩⟩
      · exact LC.ofT (wb := [xO G ax (ad 11 0) (ad 11 1) (ad 11 2) (ad 9) (ad 10) (ad 11 3) (ad 11 4) ab bl, oS G (ad 11 0) (ad 0) (ad 1) (ad 2), tW G (ad 0) wo mi bi la (nI n) ki se wd hu b9, nW G (ad 2) np (nI zn)]) (wb' := [xO G ax (ad 11 0) (ad 11 1) (ad 11 2) (ad 9) (ad 10) (ad 11 3) (ad 11 4) ab bl, oS G (ad 11 0) (ad 0) (ad 1) (ad 2), tW G (ad 0) wo mi bi la (nI n) ki se wd hu b9, nW G (ad 2) (ntC np zn x0 x1 x2 x3 x4 x5 x6) (nI (zn + 1))]) [0, 1, 2, 4] (c_X5_note_ok l G ax (ad 11 0) (ad 0) (ad 1) (ad 2) (ad 11 1) (ad 11 2) (ad 9) (ad 10) (ad 11 3) (ad 11 4) x0 x1 x2 x3 x4 x5 x6 ab bl wo mi bi la n ki se wd hu b9 np zn g0 g1 g2 g3 g4 g5 g6 (by omega)) (by decide) (by decide) rfl rfl rfl rfl rfl rfl
      · have hc := c_X6_note l G am x0 x1 x2 x3 x4 x5 x6 nw rd asd img kpt txt sz abv blw bds nos fls att bgn tkn wrd vlu sts bst zn a8 a6
        simp only [e5, c, eq_false d, if_true, true_and, not_false_eq_true, and_false, if_false] at hc
        exact LC.ofT (wb := [mY G am (nw, rd, asd, img, kpt, txt, sz, abv, blw, bds, nos, fls, att, bgn, tkn, wrd, vlu, sts, bst)]) (wb' := [mY G am ((ntM nw zn x0 x1 x2 x3 x4 x5 x6), rd, asd, img, kpt, txt, sz, abv, blw, bds, nos, fls, att, bgn, tkn, wrd, vlu, sts, bst)]) [0] hc (by decide) (by decide) (flat1 _) (flat1 _) rfl rfl rfl rfl
  · have c := Bool.eq_false_iff.mpr c
    refine ⟨-2, Unit, Unit, fun _ => (((wo, mi, bi, la, nI n, ki, se, wd, hu, b9), (nI o, nI u, T), (np, nI zn)), i0, i1, kp, (f, len, pl, sa, tk9, vl), (wo1, mi1, bi1, la1, ch1, ki1, se1, wd1, hu1, bt1), sg, upd rf 0 (rf 0 + 1), ab, bl), fun _ => (nw, rd, asd, img, kpt, txt, sz, abv, blw, bds + 1, nos, fls, att, bgn, tkn, wrd, vlu, sts, bst), ?_, ?_, fun _ _ => ⟨⟨n, zn, u, o, a1, a2, a3, a4, a5, a6, rfl, a8, a9, b1, b2, rfl, rfl, b5, b6⟩, h2, h3, rf_0 h4, h5, h6⟩⟩
    · exact LC.ofT (wb := [xO G ax (ad 11 0) (ad 11 1) (ad 11 2) (ad 9) (ad 10) (ad 11 3) (ad 11 4) ab bl, oS G (ad 11 0) (ad 0) (ad 1) (ad 2), tW G (ad 0) wo mi bi la (nI n) ki se wd hu b9, aW G (ad 11 4) 3 rf]) (wb' := [xO G ax (ad 11 0) (ad 11 1) (ad 11 2) (ad 9) (ad 10) (ad 11 3) (ad 11 4) ab bl, oS G (ad 11 0) (ad 0) (ad 1) (ad 2), tW G (ad 0) wo mi bi la (nI n) ki se wd hu b9, aW G (ad 11 4) 3 (upd rf 0 (rf 0 + 1))]) [0, 1, 2, 18] (c_X5_note_bad l G ax (ad 11 0) (ad 0) (ad 1) (ad 2) (ad 11 1) (ad 11 2) (ad 9) (ad 10) (ad 11 3) (ad 11 4) x0 x1 x2 x3 x4 x5 x6 ab bl wo mi bi la n ki se wd hu b9 rf c) (by decide) (by decide) rfl rfl rfl rfl rfl rfl
    · have hc := c_X6_note l G am x0 x1 x2 x3 x4 x5 x6 nw rd asd img kpt txt sz abv blw bds nos fls att bgn tkn wrd vlu sts bst zn a8 a6
      simp only [e5, c, Bool.false_eq_true, false_and, if_false] at hc
      exact LC.ofT (wb := [mY G am (nw, rd, asd, img, kpt, txt, sz, abv, blw, bds, nos, fls, att, bgn, tkn, wrd, vlu, sts, bst)]) (wb' := [mY G am (nw, rd, asd, img, kpt, txt, sz, abv, blw, bds + 1, nos, fls, att, bgn, tkn, wrd, vlu, sts, bst)]) [0] hc (by decide) (by decide) (flat1 _) (flat1 _) rfl rfl rfl rfl
set_option maxRecDepth 100000 in
theorem op_child (l : Launch) (K : KA) (G : GG) (ax : Nat) (ad : Ad) (am : Nat → Nat) (X : XS) (Y : YS) (h : Rel X Y) (xk xs xw xh : Int32) : OPi Rel K l G ax ad am yX5_child cX5_child 6 yX6_child cX6_child 5 [.int xk, .int xs, .int xw, .int xh] X Y := by
  obtain ⟨⟨⟨wo, mi, bi, la, ch, ki, se, wd, hu, b9⟩, ⟨old, psz, T⟩, np, ns⟩, i0, i1, kp, ⟨f, len, pl, sa, tk9, vl⟩, ⟨wo1, mi1, bi1, la1, ch1, ki1, se1, wd1, hu1, bt1⟩, sg, rf, ab, bl⟩ := X
  obtain ⟨nw, rd, asd, img, kpt, txt, sz, abv, blw, bds, nos, fls, att, bgn, tkn, wrd, vlu, sts, bst⟩ := Y
  obtain ⟨h1, h2, h3, h4, h5, h6⟩ := h
  obtain ⟨n, zn, u, o, a1, a2, a3, a4, a5, a6, a7, a8, a9, b1, b2, b3, b4, b5, b6⟩ := h1
  have e1 : ch = nI n := a3.2.2.2.2.1
  have e2 : ns = nI zn := a7
  have e3 : old = nI o := b3
  have e4 : psz = nI u := b4
  subst e1; subst e2; subst e3; subst e4
  have e5 : nw 22 = nI n := a2
  by_cases c : (inI xk 0 5 && (inI xs 0 7 && (inI xw 0 20 && inI xh 0 30))) = true
  · have cg := c
    simp only [Bool.and_eq_true] at cg
    obtain ⟨g1, g2, g3, g4⟩ := cg
    have hse : ∀ j, j < n → se j = nw j := fun j hj => (a3.2.2.2.2.2.2.2.1 j hj).1
    have ef : fi se xs n 0 = fi nw xs n 0 := fi_congr n 0 (fun j _ h2 => hse j (by omega))
    by_cases d : fi nw xs n 0 = -1
    · by_cases d6 : n = 6
      · refine ⟨-4, Unit, Unit, fun _ => (((wo, mi, bi, la, nI n, ki, se, wd, hu, b9), (nI o, nI u, T), (np, nI zn)), i0, i1, kp, (f, len, pl, sa, tk9, vl), (wo1, mi1, bi1, la1, ch1, ki1, se1, wd1, hu1, bt1), sg, upd rf 2 (rf 2 + 1), ab, bl), fun _ => (nw, rd, asd, img, kpt, txt, sz, abv, blw, bds, nos, fls + 1, att, bgn, tkn, wrd, vlu, sts, bst), ?_, ?_, fun _ _ => ⟨⟨n, zn, u, o, a1, a2, a3, a4, a5, a6, rfl, a8, a9, b1, b2, rfl, rfl, b5, b6⟩, h2, h3, rf_2 h4, h5, h6⟩⟩
        · exact LC.ofT (wb := [xO G ax (ad 11 0) (ad 11 1) (ad 11 2) (ad 9) (ad 10) (ad 11 3) (ad 11 4) ab bl, oS G (ad 11 0) (ad 0) (ad 1) (ad 2), tW G (ad 0) wo mi bi la (nI n) ki se wd hu b9, aW G (ad 11 4) 3 rf]) (wb' := [xO G ax (ad 11 0) (ad 11 1) (ad 11 2) (ad 9) (ad 10) (ad 11 3) (ad 11 4) ab bl, oS G (ad 11 0) (ad 0) (ad 1) (ad 2), tW G (ad 0) wo mi bi la (nI n) ki se wd hu b9, aW G (ad 11 4) 3 (upd rf 2 (rf 2 + 1))]) [0, 1, 2, 18] (c_X5_child_full l G ax (ad 11 0) (ad 0) (ad 1) (ad 2) (ad 11 1) (ad 11 2) (ad 9) (ad 10) (ad 11 3) (ad 11 4) xk xs xw xh ab bl wo mi bi la n ki se wd hu b9 rf g1 g2 g3 g4 a1 (by rw [ef]; exact d) (by omega)) (by decide) (by decide) rfl rfl rfl rfl rfl rfl
        · have hc := c_X6_child l G am xk xs xw xh nw rd asd img kpt txt sz abv blw bds nos fls att bgn tkn wrd vlu sts bst n a2 a1
          simp only [c, eq_true d, eq_true d6, if_true, true_and, not_true_eq_false, and_false, if_false, and_true] at hc
          exact LC.ofT (wb := [mY G am (nw, rd, asd, img, kpt, txt, sz, abv, blw, bds, nos, fls, att, bgn, tkn, wrd, vlu, sts, bst)]) (wb' := [mY G am (nw, rd, asd, img, kpt, txt, sz, abv, blw, bds, nos, fls + 1, att, bgn, tkn, wrd, vlu, sts, bst)]) [0] hc (by decide) (by decide) (flat1 _) (flat1 _) rfl rfl rfl rfl
      · obtain ⟨k1_, -, hk1, ek1⟩ := inI_nat (a := 0) (b := 5) (by omega) (by omega) rfl rfl g1
        obtain ⟨k2_, -, hk2, ek2⟩ := inI_nat (a := 0) (b := 7) (by omega) (by omega) rfl rfl g2
        obtain ⟨k3_, -, hk3, ek3⟩ := inI_nat (a := 0) (b := 20) (by omega) (by omega) rfl rfl g3
        obtain ⟨k4_, -, hk4, ek4⟩ := inI_nat (a := 0) (b := 30) (by omega) (by omega) rfl rfl g4
        have hS2 : RelS ((wo, mi, bi, la, nI (n + 1), upd ki n xk, upd se n xs, upd wd n xw, upd hu n xh, upd b9 n 0), (0, 0, T), (np, nI zn)) (upd (cmM nw n xk xs xw xh) 78 0) := relS_child a1 (by omega) a3 a4 a5 a6 a8 a9 d ⟨k1_, hk1, ek1⟩ ⟨k2_, by omega, ek2⟩ ⟨k3_, hk3, ek3⟩ ⟨k4_, hk4, ek4⟩
        refine ⟨nI n, Unit, Unit, fun _ => (((wo, mi, bi, la, nI (n + 1), upd ki n xk, upd se n xs, upd wd n xw, upd hu n xh, upd b9 n 0), (0, 0, T), (np, nI zn)), i0, i1, kp, (f, len, pl, sa, tk9, vl), (wo1, mi1, bi1, la1, ch1, ki1, se1, wd1, hu1, bt1), sg, rf, ab, bl), fun _ => ((upd (cmM nw n xk xs xw xh) 78 0), rd, asd, img, kpt, txt, sz, abv, blw, bds, nos, fls, att, bgn, tkn, wrd, vlu, sts, bst), ?_, ?_, fun _ _ => ⟨hS2, h2, h3, h4, h5, h6⟩⟩
        · exact LC.ofT (wb := [xO G ax (ad 11 0) (ad 11 1) (ad 11 2) (ad 9) (ad 10) (ad 11 3) (ad 11 4) ab bl, oS G (ad 11 0) (ad 0) (ad 1) (ad 2), tW G (ad 0) wo mi bi la (nI n) ki se wd hu b9, pW G (ad 1) (nI o) (nI u) T]) (wb' := [xO G ax (ad 11 0) (ad 11 1) (ad 11 2) (ad 9) (ad 10) (ad 11 3) (ad 11 4) ab bl, oS G (ad 11 0) (ad 0) (ad 1) (ad 2), tW G (ad 0) wo mi bi la (nI (n + 1)) (upd ki n xk) (upd se n xs) (upd wd n xw) (upd hu n xh) (upd b9 n 0), pW G (ad 1) 0 0 T]) [0, 1, 2, 3] (c_X5_child_ok l G ax (ad 11 0) (ad 0) (ad 1) (ad 2) (ad 11 1) (ad 11 2) (ad 9) (ad 10) (ad 11 3) (ad 11 4) xk xs xw xh ab bl wo mi bi la n ki se wd hu b9 o u T g1 g2 g3 g4 a1 (by rw [ef]; exact d) (by omega)) (by decide) (by decide) rfl rfl rfl rfl rfl rfl
        · have hc := c_X6_child l G am xk xs xw xh nw rd asd img kpt txt sz abv blw bds nos fls att bgn tkn wrd vlu sts bst n a2 a1
          simp only [c, eq_true d, eq_false d6, if_true, true_and, not_false_eq_true, not_true_eq_false, and_false, if_false, and_true] at hc
          exact LC.ofT (wb := [mY G am (nw, rd, asd, img, kpt, txt, sz, abv, blw, bds, nos, fls, att, bgn, tkn, wrd, vlu, sts, bst)]) (wb' := [mY G am ((upd (cmM nw n xk xs xw xh) 78 0), rd, asd, img, kpt, txt, sz, abv, blw, bds, nos, fls, att, bgn, tkn, wrd, vlu, sts, bst)]) [0] hc (by decide) (by decide) (flat1 _) (flat1 _) rfl rfl rfl rfl
    · refine ⟨-3, Unit, Unit, fun _ => (((wo, mi, bi, la, nI n, ki, se, wd, hu, b9), (nI o, nI u, T), (np, nI zn)), i0, i1, kp, (f, len, pl, sa, tk9, vl), (wo1, mi1, bi1, la1, ch1, ki1, se1, wd1, hu1, bt1), sg, upd rf 1 (rf 1 + 1), ab, bl), fun _ => (nw, rd, asd, img, kpt, txt, sz, abv, blw, bds, nos + 1, fls, att, bgn, tkn, wrd, vlu, sts, bst), ?_, ?_, fun _ _ => ⟨⟨n, zn, u, o, a1, a2, a3, a4, a5, a6, rfl, a8, a9, b1, b2, rfl, rfl, b5, b6⟩, h2, h3, rf_1 h4, h5, h6⟩⟩
      · exact LC.ofT (wb := [xO G ax (ad 11 0) (ad 11 1) (ad 11 2) (ad 9) (ad 10) (ad 11 3) (ad 11 4) ab bl, oS G (ad 11 0) (ad 0) (ad 1) (ad 2), tW G (ad 0) wo mi bi la (nI n) ki se wd hu b9, aW G (ad 11 4) 3 rf]) (wb' := [xO G ax (ad 11 0) (ad 11 1) (ad 11 2) (ad 9) (ad 10) (ad 11 3) (ad 11 4) ab bl, oS G (ad 11 0) (ad 0) (ad 1) (ad 2), tW G (ad 0) wo mi bi la (nI n) ki se wd hu b9, aW G (ad 11 4) 3 (upd rf 1 (rf 1 + 1))]) [0, 1, 2, 18] (c_X5_child_no l G ax (ad 11 0) (ad 0) (ad 1) (ad 2) (ad 11 1) (ad 11 2) (ad 9) (ad 10) (ad 11 3) (ad 11 4) xk xs xw xh ab bl wo mi bi la n ki se wd hu b9 rf g1 g2 g3 g4 a1 (by rw [ef]; exact d)) (by decide) (by decide) rfl rfl rfl rfl rfl rfl
      · have hc := c_X6_child l G am xk xs xw xh nw rd asd img kpt txt sz abv blw bds nos fls att bgn tkn wrd vlu sts bst n a2 a1
        simp only [c, eq_false d, if_true, true_and, false_and, not_false_eq_true, and_false, if_false, and_true] at hc
        exact LC.ofT (wb := [mY G am (nw, rd, asd, img, kpt, txt, sz, abv, blw, bds, nos, fls, att, bgn, tkn, wrd, vlu, sts, bst)]) (wb' := [mY G am (nw, rd, asd, img, kpt, txt, sz, abv, blw, bds, nos + 1, fls, att, bgn, tkn, wrd, vlu, sts, bst)]) [0] hc (by decide) (by decide) (flat1 _) (flat1 _) rfl rfl rfl rfl
  · have c := Bool.eq_false_iff.mpr c
    refine ⟨-2, Unit, Unit, fun _ => (((wo, mi, bi, la, nI n, ki, se, wd, hu, b9), (nI o, nI u, T), (np, nI zn)), i0, i1, kp, (f, len, pl, sa, tk9, vl), (wo1, mi1, bi1, la1, ch1, ki1, se1, wd1, hu1, bt1), sg, upd rf 0 (rf 0 + 1), ab, bl), fun _ => (nw, rd, asd, img, kpt, txt, sz, abv, blw, bds + 1, nos, fls, att, bgn, tkn, wrd, vlu, sts, bst), ?_, ?_, fun _ _ => ⟨⟨n, zn, u, o, a1, a2, a3, a4, a5, a6, rfl, a8, a9, b1, b2, rfl, rfl, b5, b6⟩, h2, h3, rf_0 h4, h5, h6⟩⟩
    · exact LC.ofT (wb := [xO G ax (ad 11 0) (ad 11 1) (ad 11 2) (ad 9) (ad 10) (ad 11 3) (ad 11 4) ab bl, aW G (ad 11 4) 3 rf]) (wb' := [xO G ax (ad 11 0) (ad 11 1) (ad 11 2) (ad 9) (ad 10) (ad 11 3) (ad 11 4) ab bl, aW G (ad 11 4) 3 (upd rf 0 (rf 0 + 1))]) [0, 18] (c_X5_child_bad l G ax (ad 11 0) (ad 11 1) (ad 11 2) (ad 9) (ad 10) (ad 11 3) (ad 11 4) xk xs xw xh ab bl rf c) (by decide) (by decide) rfl rfl rfl rfl rfl rfl
    · have hc := c_X6_child l G am xk xs xw xh nw rd asd img kpt txt sz abv blw bds nos fls att bgn tkn wrd vlu sts bst n a2 a1
      simp only [c, Bool.false_eq_true, false_and, if_false] at hc
      exact LC.ofT (wb := [mY G am (nw, rd, asd, img, kpt, txt, sz, abv, blw, bds, nos, fls, att, bgn, tkn, wrd, vlu, sts, bst)]) (wb' := [mY G am (nw, rd, asd, img, kpt, txt, sz, abv, blw, bds + 1, nos, fls, att, bgn, tkn, wrd, vlu, sts, bst)]) [0] hc (by decide) (by decide) (flat1 _) (flat1 _) rfl rfl rfl rfl

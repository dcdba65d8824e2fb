theorem rq_0 {wo a : Nat} (h : a < 8) {v : Int32} (hv : v = nI a) {ki se wd hu bt : Nat → Int32} : RQ v (0, ki, se, wd, hu, bt) (upd (upd bg0 20 0) 20 v) 0 := by
  have ne : ∀ j, j ≠ 20 → upd (upd bg0 20 0) 20 v j = bg0 j := fun j hj => by rw [upd_ne _ _ hj, upd_ne _ _ hj]
  refine ⟨by omega, rfl, by rw [ne 22 (by omega)]; rfl, ⟨(upd_at _ _ _).symm, by rw [ne 21 (by omega)]; rfl, by rw [ne 18 (by omega)]; rfl, by rw [ne 19 (by omega)]; rfl, rfl, ⟨a, h, by rw [upd_at]; exact hv⟩, ⟨0, by omega, by rw [ne 21 (by omega)]; rfl⟩, fun j hj => absurd hj (by omega), fun j hj => absurd hj (by omega), fun j _ hj => ?_, bd_congr (bd_0 0) (fun j _ _ q => upd_ne _ _ q)⟩, fun j hj => absurd hj (by omega), fun j hj => absurd hj (by omega), by rw [ne 35 (by omega)]; rfl, by rw [ne 78 (by omega)]; rfl⟩
  rw [ne (12 + j) (by omega), bg0, if_neg (by omega)]
theorem rd_whole {f txt : Nat → Int32} {z : Nat} (h : ∀ j, j < z → f j = txt j) (hb : ∀ j, j < z → ∃ a, a ≤ 127 ∧ f j = nI a) (hz : z ≤ 150) (S : Cs) (hS : S.1 = 0) (ki se wd hu bt : Nat → Int32) : PQ (rdC f z S (0, ki, se, wd, hu, bt)).2 (rdC f z S (0, ki, se, wd, hu, bt)).1 (rdM txt z) := by
  have ht : ∀ S : Cs, TK (nxk f z S) (stM txt z S.1) := tk_of h hb
  have hT := ht S
  have o0 := nxk_ok (f := f) (z := z) (S := S) (by omega)
  have eQ0 := rdL_eq (txt := txt) (z := z) (f := z + 1) (i := 0) (S := stM txt z 0) (rd := upd bg0 20 0) (n := 0) (by omega)
  rw [show decide (0 = 0) = true from rfl, if_neg (fun q => q.1 rfl), Nat.add_sub_cancel] at eQ0
  rw [hS] at hT
  unfold rdC rdM
  rw [eQ0]
  generalize nxk f z S = T at hT o0 ⊢
  generalize stM txt z 0 = M at hT ⊢
  obtain ⟨hT1, hT2, hT3⟩ := id hT
  have fault : ¬ T.2.2.1 = 3 → riM txt z M true (upd bg0 20 0) 0 = (false, M, upd bg0 20 0, 0) → PQ (if T.2.2.1 = 3 then (rlC f z 151 0 (rwC f z T 0).1 (rwC f z T 0).2.1 (0, ki, se, wd, hu, bt), (rwC f z T 0).2.2) else (rlC f z 151 0 false T (0, ki, se, wd, hu, bt), 0)).2 (if T.2.2.1 = 3 then (rlC f z 151 0 (rwC f z T 0).1 (rwC f z T 0).2.1 (0, ki, se, wd, hu, bt), (rwC f z T 0).2.2) else (rlC f z 151 0 false T (0, ki, se, wd, hu, bt), 0)).1 (if (riM txt z M true (upd bg0 20 0) 0).1 then
      (if (stM txt z (riM txt z M true (upd bg0 20 0) 0).2.1.1).2.2.1 = 3 then rdL txt z z (0 + 1) (stM txt z (stM txt z (riM txt z M true (upd bg0 20 0) 0).2.1.1).1) (riM txt z M true (upd bg0 20 0) 0).2.2.1 (riM txt z M true (upd bg0 20 0) 0).2.2.2
       else (-10 - (stM txt z (riM txt z M true (upd bg0 20 0) 0).2.1.1).2.1, false, upd bg0 20 0))
    else (-10 - (riM txt z M true (upd bg0 20 0) 0).2.1.2.1, false, upd bg0 20 0)) := fun ha hri => by
    rw [if_neg ha, if_neg (by rw [hri]; exact Bool.false_ne_true), hri]
    show PQ 0 (rlC f z (150 + 1) 0 false T (0, ki, se, wd, hu, bt)) (-10 - M.2.1, false, upd bg0 20 0)
    rw [rl_false]
    exact pq_fault (by omega) hT2
  rcases hT3 with ⟨a, b⟩ | ⟨a, b⟩ | ⟨a, b, c⟩ | ⟨a, b, c⟩ | ⟨a, b, c⟩ | ⟨a, b, c⟩ | ⟨a, c⟩
  · exact fault (by rw [a]; decide) (by rw [riM, if_neg (by rw [b]; decide)])
  · exact fault (by rw [a]; decide) (by rw [riM, if_neg (by rw [b]; decide)])
  · exact fault (by rw [a]; decide) (by rw [riM, if_neg (by rw [b]; decide)])
  · have er : riM txt z M true (upd bg0 20 0) 0 = tbM txt z M (upd bg0 20 0) 0 := by rw [riM, if_pos b, if_pos c, if_pos rfl]
    rw [if_pos a, er]
    have ot := o0.2.2.2 (by rw [a]; decide)
    have o1 := nxk_ok (f := f) o0.2.1
    have o2 := nxk_ok (f := f) o1.2.1
    have t1 := ht T
    rw [hT1] at t1
    have t2 := ht (nxk f z T)
    rw [t1.1] at t2
    by_cases c1 : nbC (nxk f z T) 7 = true
    · obtain ⟨x1, y1, z1⟩ := nb_le (b := 7) rfl (by omega) c1
      have e1 := nbC_eq t1 c1
      have em : tbM txt z M (upd bg0 20 0) 0 = (true, stM txt z M.1, upd (upd bg0 20 0) 20 (nxk f z T).2.2.2, 0) := by rw [tbM, if_pos ((tk_nb t1 7).symm.trans c1), e1]
      have ec : rwC f z T 0 = (mkC (nxk f z (nxk f z T)), nxk f z (nxk f z T), (nxk f z T).2.2.2) := by rw [rwC, if_pos c1]
      rw [if_pos (by rw [em]), em, ec]
      generalize nxk f z (nxk f z T) = T2 at t2 o2 ⊢
      generalize (nxk f z T).2.2.2 = v at z1 ⊢
      show PQ v (rlC f z (149 + 2) 0 (mkC T2) T2 (0, ki, se, wd, hu, bt)) (if (stM txt z (stM txt z M.1).1).2.2.1 = 3 then rdL txt z z (0 + 1) (stM txt z (stM txt z (stM txt z M.1).1).1) (upd (upd bg0 20 0) 20 v) 0 else (-10 - (stM txt z (stM txt z M.1).1).2.1, false, upd bg0 20 0))
      by_cases hs : T2.2.2.1 = 1
      · rw [if_pos ((tk_semi t2).mp hs), mkC, decide_eq_true hs, ← t2.1]
        exact rd_lock h hb hz 149 0 T2 0 ki se wd hu bt _ (by omega) hs (by omega) o2.2.1 (rq_0 (wo := 0) (a := x1) (by omega) z1)
      · rw [if_neg (fun q => hs ((tk_semi t2).mpr q)), mkC, decide_eq_false hs, rl_false]
        exact pq_fault (by omega) t2.2.1
    · have em : tbM txt z M (upd bg0 20 0) 0 = (false, stM txt z M.1, upd bg0 20 0, 0) := by rw [tbM, if_neg (fun q => c1 ((tk_nb t1 7).trans q))]
      have ec : rwC f z T 0 = (false, nxk f z T, 0) := by rw [rwC, if_neg c1]
      rw [if_neg (by rw [em]; exact Bool.false_ne_true), em, ec]
      show PQ 0 (rlC f z (150 + 1) 0 false (nxk f z T) (0, ki, se, wd, hu, bt)) (-10 - (stM txt z M.1).2.1, false, upd bg0 20 0)
      rw [rl_false]
      exact pq_fault (by have := o1.2.2.1; omega) t1.2.1
  · exact fault (by rw [a]; decide) (by rw [riM, if_pos b, if_neg (by rw [c]; decide), if_pos rfl])
  · exact fault (by rw [a]; decide) (by rw [riM, if_pos b, if_neg (by rw [c]; decide), if_pos rfl])
  · rcases c with c | ⟨c, c1, c2, c3⟩
    · exact fault (by rw [a]; decide) (by rw [riM, if_neg (by rw [c]; decide)])
    · exact fault (by rw [a]; decide) (by rw [riM, if_pos c, if_neg c1, if_pos rfl])
set_option maxRecDepth 100000 in
theorem op_read (l : Launch) (K : KA) (G : GG) (ax : Nat) (ad : Ad) (am : Nat → Nat) (X : XS) (Y : YS) (h : Rel X Y) : OPi Rel K l G ax ad am yX5_read cX5_read 2 yX6_read cX6_read 2 [] X Y := by
  obtain ⟨⟨⟨wo, mi, bi, la, ch, ki, se, wd, hu, b9⟩, ⟨old, psz, T⟩, np, ns⟩, i0, i1, kp, ⟨f, len, pl, sa, tk9, vl⟩, ⟨wo1, mi1, bi1, la1, ch1, ki1, se1, wd1, hu1, bt1⟩, sg, rf, ab, bl⟩ := X
  obtain ⟨nw, rd, asd, img, kpt, txt, sz, abv, blw, bds, nos, fls, att, bgn, tkn, wrd, vlu, sts, bst⟩ := Y
  obtain ⟨h1, h2, h3, h4, h5, h6⟩ := h
  obtain ⟨n, zn, u, o, a1, a2, a3, a4, a5, a6, a7, a8, a9, b1, b2, b3, b4, b5, b6⟩ := h1
  have e1 : ch = nI n := a3.2.2.2.2.1
  have e2 : ns = nI zn := a7
  have e3 : old = nI o := b3
  have e4 : psz = nI u := b4
  subst e1; subst e2; subst e3; subst e4
  have e5 : nw 22 = nI n := a2
  obtain ⟨z, q, r, hz, f1, f2, f3, f4, h7⟩ := h3
  have f1 : len = nI z := f1
  have f2 : sz = nI z := f2
  have f3 : pl = nI q := f3
  have f4 : sa = nI r := f4
  subst f1; subst f2; subst f3; subst f4
  have h8 : ∀ j, j < z → f j = txt j := fun j hj => (h7 j hj).1
  have h9 : ∀ j, j < z → ∃ a, a ≤ 127 ∧ f j = nI a := fun j hj => by rw [h8 j hj]; exact (h7 j hj).2
  have hp := rd_whole h8 h9 hz (0, r, tk9, vl) rfl ki1 se1 wd1 hu1 bt1
  obtain ⟨Z, hZ⟩ : ∃ Z, rdC f z (0, r, tk9, vl) (0, ki1, se1, wd1, hu1, bt1) = Z := ⟨_, rfl⟩
  rw [hZ] at hp
  obtain ⟨hp1, hp2⟩ := hp
  rcases hp2 with ⟨g1, g2, n2, g3⟩ | ⟨g1, g2⟩
  · obtain ⟨r1, r2, r3, r4, r5, r6, r7, r8⟩ := g3
    have hS2 : RelS ((Z.2, 0, 0, 0, nI Z.1.2.2.1, Z.1.2.2.2.1, Z.1.2.2.2.2.1, Z.1.2.2.2.2.2.1, Z.1.2.2.2.2.2.2.1, Z.1.2.2.2.2.2.2.2), (0, 0, T), (np, 0)) (rdM txt z).2.2 := ⟨n2, 0, 0, 0, r1, r3, by rw [r2]; exact r4, by rw [r2]; exact r5, r6, by omega, rfl, r7, fun j hj => absurd hj (by omega), by omega, by omega, rfl, rfl, r8, fun k hk => absurd hk (by omega)⟩
    obtain ⟨N2, hN2⟩ : ∃ N2, (rdM txt z).2.2 = N2 := ⟨_, rfl⟩
    rw [hN2] at hS2
    refine ⟨Z.1.1, Unit, ((Nat → Int32) × Int32 × Int32 × Int32 × Int64 × Int32), fun uu => (((Z.2, 0, 0, 0, nI Z.1.2.2.1, Z.1.2.2.2.1, Z.1.2.2.2.2.1, Z.1.2.2.2.2.2.1, Z.1.2.2.2.2.2.2.1, Z.1.2.2.2.2.2.2.2), (0, 0, T), (np, 0)), i0, i1, kp, (f, nI z, nI Z.1.2.1.1, nI Z.1.2.1.2.1, Z.1.2.1.2.2.1, Z.1.2.1.2.2.2), (Z.2, 0, 0, 0, nI Z.1.2.2.1, Z.1.2.2.2.1, Z.1.2.2.2.2.1, Z.1.2.2.2.2.2.1, Z.1.2.2.2.2.2.2.1, Z.1.2.2.2.2.2.2.2), sg, rf, ab, bl), fun vv => (N2, vv.1, asd, img, kpt, txt, nI z, abv, blw, bds, nos, fls, vv.2.1, vv.2.2.1, vv.2.2.2.1, vv.2.2.2.2.1, vv.2.2.2.2.2, sts, bst), ?_, ?_, fun _ _ => ⟨hS2, h2, ⟨z, Z.1.2.1.1, Z.1.2.1.2.1, hz, rfl, rfl, rfl, rfl, h7⟩, h4, h5, h6⟩⟩
    · exact LC.ofK (wb := [xO G ax (ad 11 0) (ad 11 1) (ad 11 2) (ad 9) (ad 10) (ad 11 3) (ad 11 4) ab bl, oS G (ad 11 0) (ad 0) (ad 1) (ad 2), tW G (ad 0) wo mi bi la (nI n) ki se wd hu b9, pW G (ad 1) (nI o) (nI u) T, nW G (ad 2) np (nI zn), xT G (ad 9) f (nI z) (nI q) (nI r) tk9 vl, tW G (ad 10) wo1 mi1 bi1 la1 ch1 ki1 se1 wd1 hu1 bt1]) (wb' := [xO G ax (ad 11 0) (ad 11 1) (ad 11 2) (ad 9) (ad 10) (ad 11 3) (ad 11 4) ab bl, oS G (ad 11 0) (ad 0) (ad 1) (ad 2), tW G (ad 0) Z.2 0 0 0 (nI Z.1.2.2.1) Z.1.2.2.2.1 Z.1.2.2.2.2.1 Z.1.2.2.2.2.2.1 Z.1.2.2.2.2.2.2.1 Z.1.2.2.2.2.2.2.2, pW G (ad 1) 0 0 T, nW G (ad 2) np 0, xT G (ad 9) f (nI z) (nI Z.1.2.1.1) (nI Z.1.2.1.2.1) Z.1.2.1.2.2.1 Z.1.2.1.2.2.2, tW G (ad 10) Z.2 0 0 0 (nI Z.1.2.2.1) Z.1.2.2.2.1 Z.1.2.2.2.2.1 Z.1.2.2.2.2.2.1 Z.1.2.2.2.2.2.2.1 Z.1.2.2.2.2.2.2.2]) [0, 1, 2, 3, 4, 15, 16] (c_X5_read_ok K l G ax (ad 11 0) (ad 0) (ad 1) (ad 2) (ad 11 1) (ad 11 2) (ad 9) (ad 10) (ad 11 3) (ad 11 4) ab bl wo mi bi la n ki se wd hu b9 o u T np zn f z q r tk9 vl wo1 mi1 bi1 la1 ch1 ki1 se1 wd1 hu1 bt1 Z hz hZ g2) (by decide) (by decide) rfl rfl rfl rfl rfl rfl
    · have hc := c_X6_read l G am nw rd asd img kpt txt abv blw bds nos fls att bgn tkn wrd vlu sts bst z hz
      rw [← hp1, hN2] at hc
      simp only [g1, if_true] at hc
      exact LC.ofE (wb := [mY G am (nw, rd, asd, img, kpt, txt, nI z, abv, blw, bds, nos, fls, att, bgn, tkn, wrd, vlu, sts, bst)]) (Fb := fun vv : ((Nat → Int32) × Int32 × Int32 × Int32 × Int64 × Int32) => [mY G am (N2, vv.1, asd, img, kpt, txt, nI z, abv, blw, bds, nos, fls, vv.2.1, vv.2.2.1, vv.2.2.2.1, vv.2.2.2.2.1, vv.2.2.2.2.2, sts, bst)]) [0] hc (by decide) (by decide) (flat1 _) (fun _ => flat1 _) rfl rfl (fun _ => rfl) (fun _ => rfl)
  · refine ⟨Z.1.1, Unit, ((Nat → Int32) × Int32 × Int32 × Int32 × Int64 × Int32), fun uu => (((wo, mi, bi, la, nI n, ki, se, wd, hu, b9), (nI o, nI u, T), (np, nI zn)), i0, i1, kp, (f, nI z, nI Z.1.2.1.1, nI Z.1.2.1.2.1, Z.1.2.1.2.2.1, Z.1.2.1.2.2.2), (Z.2, 0, 0, 0, nI Z.1.2.2.1, Z.1.2.2.2.1, Z.1.2.2.2.2.1, Z.1.2.2.2.2.2.1, Z.1.2.2.2.2.2.2.1, Z.1.2.2.2.2.2.2.2), sg, rf, ab, bl), fun vv => (nw, vv.1, asd, img, kpt, txt, nI z, abv, blw, bds, nos, fls, vv.2.1, vv.2.2.1, vv.2.2.2.1, vv.2.2.2.2.1, vv.2.2.2.2.2, sts, bst), ?_, ?_, fun _ _ => ⟨⟨n, zn, u, o, a1, a2, a3, a4, a5, a6, rfl, a8, a9, b1, b2, rfl, rfl, b5, b6⟩, h2, ⟨z, Z.1.2.1.1, Z.1.2.1.2.1, hz, rfl, rfl, rfl, rfl, h7⟩, h4, h5, h6⟩⟩
    · exact LC.ofK (wb := [xO G ax (ad 11 0) (ad 11 1) (ad 11 2) (ad 9) (ad 10) (ad 11 3) (ad 11 4) ab bl, xT G (ad 9) f (nI z) (nI q) (nI r) tk9 vl, tW G (ad 10) wo1 mi1 bi1 la1 ch1 ki1 se1 wd1 hu1 bt1]) (wb' := [xO G ax (ad 11 0) (ad 11 1) (ad 11 2) (ad 9) (ad 10) (ad 11 3) (ad 11 4) ab bl, xT G (ad 9) f (nI z) (nI Z.1.2.1.1) (nI Z.1.2.1.2.1) Z.1.2.1.2.2.1 Z.1.2.1.2.2.2, tW G (ad 10) Z.2 0 0 0 (nI Z.1.2.2.1) Z.1.2.2.2.1 Z.1.2.2.2.2.1 Z.1.2.2.2.2.2.1 Z.1.2.2.2.2.2.2.1 Z.1.2.2.2.2.2.2.2]) [0, 15, 16] (c_X5_read_no K l G ax (ad 11 0) (ad 11 1) (ad 11 2) (ad 9) (ad 10) (ad 11 3) (ad 11 4) ab bl f z q r tk9 vl wo1 mi1 bi1 la1 ch1 ki1 se1 wd1 hu1 bt1 Z hz hZ g2) (by decide) (by decide) rfl rfl rfl rfl rfl rfl
    · have hc := c_X6_read l G am nw rd asd img kpt txt abv blw bds nos fls att bgn tkn wrd vlu sts bst z hz
      rw [← hp1] at hc
      simp only [g1, Bool.false_eq_true, if_false] at hc
      exact LC.ofE (wb := [mY G am (nw, rd, asd, img, kpt, txt, nI z, abv, blw, bds, nos, fls, att, bgn, tkn, wrd, vlu, sts, bst)]) (Fb := fun vv : ((Nat → Int32) × Int32 × Int32 × Int32 × Int64 × Int32) => [mY G am (nw, vv.1, asd, img, kpt, txt, nI z, abv, blw, bds, nos, fls, vv.2.1, vv.2.2.1, vv.2.2.2.1, vv.2.2.2.2.1, vv.2.2.2.2.2, sts, bst)]) [0] hc (by decide) (by decide) (flat1 _) (fun _ => flat1 _) rfl rfl (fun _ => rfl) (fun _ => rfl)

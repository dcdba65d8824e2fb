theorem relS_congr {S : Sn} {a b : Nat → Int32} (h : RelS S a) (e : ∀ j, j < 255 → b j = a j) : RelS S b := by
  obtain ⟨n, zn, u, o, a1, a2, a3, a4, a5, a6, a7, a8, a9, b1, b2, b3, b4, b5, b6⟩ := h
  exact ⟨n, zn, u, o, a1, by rw [e 22 (by omega)]; exact a2, relC_congr a1 a3 (fun j hj => e j (by omega)), relK_congr a1 a4 (fun j _ hj => e j (by omega)), fun j hj => by rw [e (23 + j) (by omega), e (29 + j) (by omega)]; exact a5 j hj, a6, a7, by rw [e 35 (by omega)]; exact a8, fun j hj => by rw [e (36 + j) (by omega)]; exact a9 j hj, b1, b2, b3, b4, by rw [e 78 (by omega)]; exact b5, fun k hk => ⟨relC_congr a1 (b6 k hk).1 (fun j hj => e (79 + 22 * k + j) (by omega)), relK_congr a1 (b6 k hk).2 (fun j _ hj => e j (by omega))⟩⟩
theorem rt_congr {n : Nat} {wo : Int32} {ki se wd : Nat → Int32} {d : Dy} {t t2 : Nat → Int32} (h : RT n wo ki se wd d t) (e : ∀ j, j < 35 → t2 j = t j) : RT n wo ki se wd d t2 := by
  obtain ⟨h1, h2, h3, h4, h5, h6, h7⟩ := h
  refine ⟨h1, by rw [e 20 (by omega)]; exact h2, by rw [e 20 (by omega)]; exact h3, by rw [e 21 (by omega)]; exact h4, by rw [e 18 (by omega)]; exact h5, by rw [e 19 (by omega)]; exact h6, fun j hj => ?_⟩
  rw [e j (by omega), e (6 + j) (by omega), e (12 + j) (by omega), e (23 + j) (by omega), e (29 + j) (by omega)]
  exact h7 j hj
theorem gM_hi {set : Int32} {J : Nat → Nat} {t : Nat → Int32} {n i : Nat} (hJ : ∀ k, k < n → hasI set (nI k) = true → J k < n) (hn : n ≤ 6) (h1 : n ≤ i) : ∀ k, k ≤ n → gM set J t k (12 + i) = t (12 + i)
  | 0, _ => rfl
  | k + 1, hk => by
    simp only [gM, gS]
    rw [upd_ne _ _ (by omega)]
    by_cases hs : hasI set (nI k) = true
    · have := hJ k (by omega) hs
      rw [if_pos hs, upd_ne _ _ (by omega), upd_ne _ _ (by omega), gM_hi hJ hn h1 k (by omega)]
    · rw [if_neg hs, gM_hi hJ hn h1 k (by omega)]
theorem goN_hi {t : Nat → Int32} {n i : Nat} (hn : n ≤ 6) (h1 : n ≤ i) (h2 : i < 6) : ∀ k, goN n k t (12 + i) = t (12 + i)
  | 0 => rfl
  | k + 1 => by
    rw [goN, goM_in (by omega) (by omega), gM_hi (fun q hq hs => ?_) hn h1 n (Nat.le_refl n), goN_hi hn h1 h2 k]
    obtain ⟨j, hj, ej⟩ := bitrM_has hn hs hq
    rw [whJ, ej, nI_clamp (by omega)]
    exact hj
theorem goN_21 {t : Nat → Int32} {n m : Nat} (hn : n ≤ 6) (h : t 21 = nI m) : ∀ k, goN n k t 21 = nI (m + k)
  | 0 => h
  | k + 1 => by rw [goN, goM_21 hn, goN_21 hn h k, show (1 : Int32) = nI 1 from rfl, nI_add]; rfl
theorem bda_congr {c d : Nat → Int32} {a : Nat} (h : BDa c a) (e : ∀ j, 12 ≤ j → j < 22 → d j = c j) : BDa d a := by
  obtain ⟨⟨b, hb, eb⟩, h2, h3⟩ := h
  exact ⟨⟨b, hb, by rw [e 19 (by omega) (by omega)]; exact eb⟩, by rw [e 21 (by omega) (by omega)]; exact h2, fun j hj => by rw [e (12 + j) (by omega) (by omega)]; exact h3 j hj⟩
theorem tmS_nat (se : Nat → Int32) (n : Nat) (set i : Int32) : ∀ k, ∃ c, c ≤ k ∧ tmS se n set i k = nI c
  | 0 => ⟨0, by omega, rfl⟩
  | k + 1 => by
    obtain ⟨c, hc, ec⟩ := tmS_nat se n set i k
    rw [tmS, ec]
    split
    · exact ⟨c + 1, by omega, nI_1 c⟩
    · exact ⟨c, by omega, rfl⟩
theorem bd_go {t : Nat → Int32} {n a : Nat} (hn : n ≤ 6) (h : BDa t a) : ∀ k, BDa (goN n k t) (a + k)
  | 0 => h
  | k + 1 => by
    obtain ⟨-, h2, h3⟩ := bd_go hn h k
    rw [goN]
    generalize goN n k t = u at h2 h3
    refine ⟨by rw [goM_19]; exact bits6 hn, by rw [goM_21 hn, h2]; exact nI_1 (a + k), fun j hj => ?_⟩
    obtain ⟨b, hb, eb⟩ := h3 j hj
    rw [goM_in (by omega) (by omega), gM_12 (se := u) (fun q hq hs => ?_) hn n (Nat.le_refl n)]
    · obtain ⟨c, hc, ec⟩ := tmS_nat u n (bitrM u n) (nI j) n
      exact ⟨b + c, by omega, by rw [eb, ec, nI_add]⟩
    · obtain ⟨i, hi, ei⟩ := bitrM_has hn hs hq
      rw [whm_M, whJ, ei, nI_clamp (by omega)]
      exact (nI_eq (by omega) (by omega)).symm
theorem relC_go {n m mn : Nat} {wo mi bi la : Int32} {ki se wd hu b9 t t2 : Nat → Int32} {D : Dy} (hn : n ≤ 6) (h : RelC n (wo, mi, bi, la, nI n, ki, se, wd, hu, b9) t) (e : ∀ j, j < 35 → t2 j = t j) (hm : t 21 = nI mn) (hb : mn + m ≤ 999) (hr : RT n wo ki se wd D (goN n m t2)) : RelC n (wo, D.1, D.2.1, D.2.2.1, nI n, ki, se, wd, D.2.2.2.1, D.2.2.2.2) (goN n m t2) := by
  obtain ⟨-, -, -, -, -, -, -, -, h9, h10⟩ := h
  obtain ⟨r1, r2, r3, r4, r5, r6, r7⟩ := hr
  refine ⟨r2, r4, r5, r6, rfl, r3, ⟨mn + m, hb, goN_21 hn (by rw [e 21 (by omega)]; exact hm) m⟩, fun j hj => ?_, fun i hi j hj hij => ?_, fun j g1 g2 => ?_, ?_⟩
  · obtain ⟨q1, q2, q3, -, -, q6, q7, -⟩ := r7 j hj
    exact ⟨q1, q2, q3, q6, q7⟩
  · rw [goN_out hn (by omega), goN_out hn (by omega), e i (by omega), e j (by omega)] at hij
    exact h9 i hi j hj hij
  · rw [goN_hi hn g1 g2, e (12 + j) (by omega)]
    exact h10.1 j g1 g2
  · obtain ⟨a, ha, hB⟩ := h10.2
    have ea : a = mn := (nI_eq (by omega) (by omega)).mp (hB.2.1.symm.trans hm)
    subst ea
    exact ⟨a + m, hb, bd_go hn (bda_congr hB (fun j q1 q2 => e j (by omega))) m⟩
theorem pos_bits {x : Int32} {c : Nat} (h : x = nI c) (hc : c < 1000) : (x ≤ 0) ↔ ¬ (0 < x) := by
  rw [h, show (0 : Int32) = nI 0 from rfl, nI_leI (by omega) (by omega), nI_ltI (by omega) (by omega)]
  omega
theorem rt_quiet {n : Nat} {wo : Int32} {ki se wd : Nat → Int32} : ∀ (r k : Nat) (d : Dy) (t : Nat → Int32), RT n wo ki se wd d t → qtC wo n ki se wd r k d = qtM n r k t
  | 0, _, _, _, _ => rfl
  | r + 1, k, d, t, h => by
    obtain ⟨c, hc, ec⟩ := bits6 (t := t) h.1
    have e1 : brM n 1 t = bitsV (bitrM t n) := by
      show goM t n 18 - t 18 = _
      rw [goM_18 h.1, add_sub_same]
    rw [qtC, qtM, rt_bitr h, bc_M h.1, e1, rt_quiet r (k + 1) _ _ (rt_step h)]
    by_cases h0 : 0 < bitsV (bitrM t n)
    · rw [if_pos h0, if_neg (fun q => (pos_bits ec (by omega)).mp q h0)]
    · rw [if_neg h0, if_pos ((pos_bits ec (by omega)).mpr h0)]
set_option maxRecDepth 100000 in
theorem op_image (l : Launch) (K : KA) (G : GG) (ax : Nat) (ad : Ad) (am : Nat → Nat) (X : XS) (Y : YS) (h : Rel X Y) (x : Int32) : OPi Rel K l G ax ad am yX5_image cX5_image 2 yX6_image cX6_image 2 [.int x] X Y := by
  obtain ⟨⟨⟨wo, mi, bi, la, ch, ki, se, wd, hu, b9⟩, ⟨old, psz, T⟩, np, ns⟩, i0, i1, kp, ⟨f, len, pl, sa, tk9, vl⟩, ⟨wo1, mi1, bi1, la1, ch1, ki1, se1, wd1, hu1, bt1⟩, sg, rf, ab, bl⟩ := X
  obtain ⟨nw, rd, asd, img, kpt, txt, sz, abv, blw, bds, nos, fls, att, bgn, tkn, wrd, vlu, sts, bst⟩ := Y
  obtain ⟨⟨wo2, mi2, bi2, la2, ch2, ki2, se2, wd2, hu2, bt2⟩, ⟨old2, psz2, T2⟩, np2, ns2⟩ := i0
  obtain ⟨⟨wo3, mi3, bi3, la3, ch3, ki3, se3, wd3, hu3, bt3⟩, ⟨old3, psz3, T3⟩, np3, ns3⟩ := i1
  obtain ⟨h1, h2, h3, h4, h5, h6⟩ := h
  have h2 : kp 0 = kpt 0 ∧ kp 1 = kpt 1 ∧ (¬ kp 0 = 0 → RelS ((wo2, mi2, bi2, la2, ch2, ki2, se2, wd2, hu2, bt2), (old2, psz2, T2), (np2, ns2)) (fun j => img j)) ∧ (¬ kp 1 = 0 → RelS ((wo3, mi3, bi3, la3, ch3, ki3, se3, wd3, hu3, bt3), (old3, psz3, T3), (np3, ns3)) (fun j => img (255 + j))) := h2
  obtain ⟨w1, w2, w3, w4⟩ := h2
  by_cases c : inI x 0 1 = true
  · obtain ⟨k, -, hk, ek⟩ := inI_nat (a := 0) (b := 1) (by omega) (by omega) rfl rfl c
    rcases (show k = 0 ∨ k = 1 by omega) with rfl | rfl
    · have hR : Rel (((wo, mi, bi, la, ch, ki, se, wd, hu, b9), (old, psz, T), (np, ns)), ((wo, mi, bi, la, ch, ki, se, wd, hu, b9), (old, psz, T), (np, ns)), ((wo3, mi3, bi3, la3, ch3, ki3, se3, wd3, hu3, bt3), (old3, psz3, T3), (np3, ns3)), (upd kp 0 1), (f, len, pl, sa, tk9, vl), (wo1, mi1, bi1, la1, ch1, ki1, se1, wd1, hu1, bt1), sg, rf, ab, bl) (nw, rd, asd, (va_cpy nw img 0 (255 * 0) 255), (upd kpt 0 (vp_nar .boolean 1)), txt, sz, abv, blw, bds, nos, fls, att, bgn, tkn, wrd, vlu, sts, bst) := ⟨h1, ⟨by show upd kp 0 1 0 = upd kpt 0 (vp_nar .boolean 1) 0; rw [upd_at, upd_at]; rfl, by show upd kp 0 1 1 = upd kpt 0 (vp_nar .boolean 1) 1; rw [upd_ne _ _ (by omega), upd_ne _ _ (by omega)]; exact w2, fun _ => relS_congr h1 (fun j hj => (pk_cpy_in (by omega) (by omega)).trans (congrArg nw (by omega))), fun q => relS_congr (w4 (fun z => (show ¬ upd kp 0 1 1 = 0 from q) (by rw [upd_ne _ _ (by omega)]; exact z))) (fun j hj => pk_cpy_out (by omega))⟩, h3, h4, h5, h6⟩
      refine ⟨1, Unit, Unit, fun _ => (((wo, mi, bi, la, ch, ki, se, wd, hu, b9), (old, psz, T), (np, ns)), ((wo, mi, bi, la, ch, ki, se, wd, hu, b9), (old, psz, T), (np, ns)), ((wo3, mi3, bi3, la3, ch3, ki3, se3, wd3, hu3, bt3), (old3, psz3, T3), (np3, ns3)), (upd kp 0 1), (f, len, pl, sa, tk9, vl), (wo1, mi1, bi1, la1, ch1, ki1, se1, wd1, hu1, bt1), sg, rf, ab, bl), fun _ => (nw, rd, asd, (va_cpy nw img 0 (255 * 0) 255), (upd kpt 0 (vp_nar .boolean 1)), txt, sz, abv, blw, bds, nos, fls, att, bgn, tkn, wrd, vlu, sts, bst), ?_, ?_, fun _ _ => hR⟩
      · exact LC.ofT (wb := [xO G ax (ad 11 0) (ad 11 1) (ad 11 2) (ad 9) (ad 10) (ad 11 3) (ad 11 4) ab bl, gW G (ad 11 1) (fun j => ad 11 (5 + j)), zW G (ad 11 2) 2 kp, oS G (ad 11 0) (ad 0) (ad 1) (ad 2), tW G (ad 0) wo mi bi la ch ki se wd hu b9, pW G (ad 1) old psz T, nW G (ad 2) np ns, oS G (ad 11 5) (ad 3) (ad 4) (ad 5), tW G (ad 3) wo2 mi2 bi2 la2 ch2 ki2 se2 wd2 hu2 bt2, pW G (ad 4) old2 psz2 T2, nW G (ad 5) np2 ns2]) (wb' := [xO G ax (ad 11 0) (ad 11 1) (ad 11 2) (ad 9) (ad 10) (ad 11 3) (ad 11 4) ab bl, gW G (ad 11 1) (fun j => ad 11 (5 + j)), zW G (ad 11 2) 2 (upd kp 0 1), oS G (ad 11 0) (ad 0) (ad 1) (ad 2), tW G (ad 0) wo mi bi la ch ki se wd hu b9, pW G (ad 1) old psz T, nW G (ad 2) np ns, oS G (ad 11 5) (ad 3) (ad 4) (ad 5), tW G (ad 3) wo mi bi la ch ki se wd hu b9, pW G (ad 4) old psz T, nW G (ad 5) np ns]) [0, 5, 14, 1, 2, 3, 4, 6, 7, 8, 9] (c_X5_image_ok l G ax (ad 11 0) (ad 0) (ad 1) (ad 2) (ad 11 1) (ad 11 2) (ad 9) (ad 10) (ad 11 3) (ad 11 4) (fun j => ad 11 (5 + j)) (ad 11 5) (ad 3) (ad 4) (ad 5) x 0 ek ab bl kp wo mi bi la ch ki se wd hu b9 old psz T np ns wo2 mi2 bi2 la2 ch2 ki2 se2 wd2 hu2 bt2 old2 psz2 T2 np2 ns2 c (by omega) rfl) (by decide) (by decide) rfl rfl rfl rfl rfl rfl
      · have hc := c_X6_image l G am x nw rd asd img kpt txt sz abv blw bds nos fls att bgn tkn wrd vlu sts bst 
        simp only [c, if_true] at hc
        rw [show x.toNatClampNeg = 0 by rw [ek]; rfl] at hc
        exact LC.ofT (wb := [mY G am (nw, rd, asd, img, kpt, txt, sz, abv, blw, bds, nos, fls, att, bgn, tkn, wrd, vlu, sts, bst)]) (wb' := [mY G am (nw, rd, asd, (va_cpy nw img 0 (255 * 0) 255), (upd kpt 0 (vp_nar .boolean 1)), txt, sz, abv, blw, bds, nos, fls, att, bgn, tkn, wrd, vlu, sts, bst)]) [0] hc (by decide) (by decide) (flat1 _) (flat1 _) rfl rfl rfl rfl
    · have hR : Rel (((wo, mi, bi, la, ch, ki, se, wd, hu, b9), (old, psz, T), (np, ns)), ((wo2, mi2, bi2, la2, ch2, ki2, se2, wd2, hu2, bt2), (old2, psz2, T2), (np2, ns2)), ((wo, mi, bi, la, ch, ki, se, wd, hu, b9), (old, psz, T), (np, ns)), (upd kp 1 1), (f, len, pl, sa, tk9, vl), (wo1, mi1, bi1, la1, ch1, ki1, se1, wd1, hu1, bt1), sg, rf, ab, bl) (nw, rd, asd, (va_cpy nw img 0 (255 * 1) 255), (upd kpt 1 (vp_nar .boolean 1)), txt, sz, abv, blw, bds, nos, fls, att, bgn, tkn, wrd, vlu, sts, bst) := ⟨h1, ⟨by show upd kp 1 1 0 = upd kpt 1 (vp_nar .boolean 1) 0; rw [upd_ne _ _ (by omega), upd_ne _ _ (by omega)]; exact w1, by show upd kp 1 1 1 = upd kpt 1 (vp_nar .boolean 1) 1; rw [upd_at, upd_at]; rfl, fun q => relS_congr (w3 (fun z => (show ¬ upd kp 1 1 0 = 0 from q) (by rw [upd_ne _ _ (by omega)]; exact z))) (fun j hj => pk_cpy_out (by omega)), fun _ => relS_congr h1 (fun j hj => (pk_cpy_in (by omega) (by omega)).trans (congrArg nw (by omega)))⟩, h3, h4, h5, h6⟩
      refine ⟨1, Unit, Unit, fun _ => (((wo, mi, bi, la, ch, ki, se, wd, hu, b9), (old, psz, T), (np, ns)), ((wo2, mi2, bi2, la2, ch2, ki2, se2, wd2, hu2, bt2), (old2, psz2, T2), (np2, ns2)), ((wo, mi, bi, la, ch, ki, se, wd, hu, b9), (old, psz, T), (np, ns)), (upd kp 1 1), (f, len, pl, sa, tk9, vl), (wo1, mi1, bi1, la1, ch1, ki1, se1, wd1, hu1, bt1), sg, rf, ab, bl), fun _ => (nw, rd, asd, (va_cpy nw img 0 (255 * 1) 255), (upd kpt 1 (vp_nar .boolean 1)), txt, sz, abv, blw, bds, nos, fls, att, bgn, tkn, wrd, vlu, sts, bst), ?_, ?_, fun _ _ => hR⟩
      · exact LC.ofT (wb := [xO G ax (ad 11 0) (ad 11 1) (ad 11 2) (ad 9) (ad 10) (ad 11 3) (ad 11 4) ab bl, gW G (ad 11 1) (fun j => ad 11 (5 + j)), zW G (ad 11 2) 2 kp, oS G (ad 11 0) (ad 0) (ad 1) (ad 2), tW G (ad 0) wo mi bi la ch ki se wd hu b9, pW G (ad 1) old psz T, nW G (ad 2) np ns, oS G (ad 11 6) (ad 6) (ad 7) (ad 8), tW G (ad 6) wo3 mi3 bi3 la3 ch3 ki3 se3 wd3 hu3 bt3, pW G (ad 7) old3 psz3 T3, nW G (ad 8) np3 ns3]) (wb' := [xO G ax (ad 11 0) (ad 11 1) (ad 11 2) (ad 9) (ad 10) (ad 11 3) (ad 11 4) ab bl, gW G (ad 11 1) (fun j => ad 11 (5 + j)), zW G (ad 11 2) 2 (upd kp 1 1), oS G (ad 11 0) (ad 0) (ad 1) (ad 2), tW G (ad 0) wo mi bi la ch ki se wd hu b9, pW G (ad 1) old psz T, nW G (ad 2) np ns, oS G (ad 11 6) (ad 6) (ad 7) (ad 8), tW G (ad 6) wo mi bi la ch ki se wd hu b9, pW G (ad 7) old psz T, nW G (ad 8) np ns]) [0, 5, 14, 1, 2, 3, 4, 10, 11, 12, 13] (c_X5_image_ok l G ax (ad 11 0) (ad 0) (ad 1) (ad 2) (ad 11 1) (ad 11 2) (ad 9) (ad 10) (ad 11 3) (ad 11 4) (fun j => ad 11 (5 + j)) (ad 11 6) (ad 6) (ad 7) (ad 8) x 1 ek ab bl kp wo mi bi la ch ki se wd hu b9 old psz T np ns wo3 mi3 bi3 la3 ch3 ki3 se3 wd3 hu3 bt3 old3 psz3 T3 np3 ns3 c (by omega) rfl) (by decide) (by decide) rfl rfl rfl rfl rfl rfl
      · have hc := c_X6_image l G am x nw rd asd img kpt txt sz abv blw bds nos fls att bgn tkn wrd vlu sts bst 
        simp only [c, if_true] at hc
        rw [show x.toNatClampNeg = 1 by rw [ek]; rfl] at hc
        exact LC.ofT (wb := [mY G am (nw, rd, asd, img, kpt, txt, sz, abv, blw, bds, nos, fls, att, bgn, tkn, wrd, vlu, sts, bst)]) (wb' := [mY G am (nw, rd, asd, (va_cpy nw img 0 (255 * 1) 255), (upd kpt 1 (vp_nar .boolean 1)), txt, sz, abv, blw, bds, nos, fls, att, bgn, tkn, wrd, vlu, sts, bst)]) [0] hc (by decide) (by decide) (flat1 _) (flat1 _) rfl rfl rfl rfl
  · have c := Bool.eq_false_iff.mpr c
    refine ⟨-2, Unit, Unit, fun _ => (((wo, mi, bi, la, ch, ki, se, wd, hu, b9), (old, psz, T), (np, ns)), ((wo2, mi2, bi2, la2, ch2, ki2, se2, wd2, hu2, bt2), (old2, psz2, T2), (np2, ns2)), ((wo3, mi3, bi3, la3, ch3, ki3, se3, wd3, hu3, bt3), (old3, psz3, T3), (np3, ns3)), kp, (f, len, pl, sa, tk9, vl), (wo1, mi1, bi1, la1, ch1, ki1, se1, wd1, hu1, bt1), sg, upd rf 0 (rf 0 + 1), ab, bl), fun _ => (nw, rd, asd, img, kpt, txt, sz, abv, blw, bds + 1, nos, fls, att, bgn, tkn, wrd, vlu, sts, bst), ?_, ?_, fun _ _ => ⟨h1, ⟨w1, w2, w3, w4⟩, h3, rf_0 h4, h5, h6⟩⟩
    · exact LC.ofT (wb := [xO G ax (ad 11 0) (ad 11 1) (ad 11 2) (ad 9) (ad 10) (ad 11 3) (ad 11 4) ab bl, aW G (ad 11 4) 3 rf]) (wb' := [xO G ax (ad 11 0) (ad 11 1) (ad 11 2) (ad 9) (ad 10) (ad 11 3) (ad 11 4) ab bl, aW G (ad 11 4) 3 (upd rf 0 (rf 0 + 1))]) [0, 18] (c_X5_image_bad l G ax (ad 11 0) (ad 11 1) (ad 11 2) (ad 9) (ad 10) (ad 11 3) (ad 11 4) x ab bl rf c) (by decide) (by decide) rfl rfl rfl rfl rfl rfl
    · have hc := c_X6_image l G am x nw rd asd img kpt txt sz abv blw bds nos fls att bgn tkn wrd vlu sts bst 
      simp only [c, Bool.false_eq_true, if_false, false_and] at hc
      exact LC.ofT (wb := [mY G am (nw, rd, asd, img, kpt, txt, sz, abv, blw, bds, nos, fls, att, bgn, tkn, wrd, vlu, sts, bst)]) (wb' := [mY G am (nw, rd, asd, img, kpt, txt, sz, abv, blw, bds + 1, nos, fls, att, bgn, tkn, wrd, vlu, sts, bst)]) [0] hc (by decide) (by decide) (flat1 _) (flat1 _) rfl rfl rfl rfl
set_option maxRecDepth 100000 in
theorem op_from (l : Launch) (K : KA) (G : GG) (ax : Nat) (ad : Ad) (am : Nat → Nat) (X : XS) (Y : YS) (h : Rel X Y) (x : Int32) : OPi Rel K l G ax ad am yX5_from cX5_from 2 yX6_from cX6_from 2 [.int x] X Y := by
  obtain ⟨⟨⟨wo, mi, bi, la, ch, ki, se, wd, hu, b9⟩, ⟨old, psz, T⟩, np, ns⟩, i0, i1, kp, ⟨f, len, pl, sa, tk9, vl⟩, ⟨wo1, mi1, bi1, la1, ch1, ki1, se1, wd1, hu1, bt1⟩, sg, rf, ab, bl⟩ := X
  obtain ⟨nw, rd, asd, img, kpt, txt, sz, abv, blw, bds, nos, fls, att, bgn, tkn, wrd, vlu, sts, bst⟩ := Y
  obtain ⟨⟨wo2, mi2, bi2, la2, ch2, ki2, se2, wd2, hu2, bt2⟩, ⟨old2, psz2, T2⟩, np2, ns2⟩ := i0
  obtain ⟨⟨wo3, mi3, bi3, la3, ch3, ki3, se3, wd3, hu3, bt3⟩, ⟨old3, psz3, T3⟩, np3, ns3⟩ := i1
  obtain ⟨h1, h2, h3, h4, h5, h6⟩ := h
  have h2 : kp 0 = kpt 0 ∧ kp 1 = kpt 1 ∧ (¬ kp 0 = 0 → RelS ((wo2, mi2, bi2, la2, ch2, ki2, se2, wd2, hu2, bt2), (old2, psz2, T2), (np2, ns2)) (fun j => img j)) ∧ (¬ kp 1 = 0 → RelS ((wo3, mi3, bi3, la3, ch3, ki3, se3, wd3, hu3, bt3), (old3, psz3, T3), (np3, ns3)) (fun j => img (255 + j))) := h2
  obtain ⟨w1, w2, w3, w4⟩ := h2
  by_cases c : inI x 0 1 = true
  · obtain ⟨k, -, hk, ek⟩ := inI_nat (a := 0) (b := 1) (by omega) (by omega) rfl rfl c
    rcases (show k = 0 ∨ k = 1 by omega) with rfl | rfl
    · by_cases d : kp 0 = 0
      · refine ⟨-3, Unit, Unit, fun _ => (((wo, mi, bi, la, ch, ki, se, wd, hu, b9), (old, psz, T), (np, ns)), ((wo2, mi2, bi2, la2, ch2, ki2, se2, wd2, hu2, bt2), (old2, psz2, T2), (np2, ns2)), ((wo3, mi3, bi3, la3, ch3, ki3, se3, wd3, hu3, bt3), (old3, psz3, T3), (np3, ns3)), kp, (f, len, pl, sa, tk9, vl), (wo1, mi1, bi1, la1, ch1, ki1, se1, wd1, hu1, bt1), sg, upd rf 1 (rf 1 + 1), ab, bl), fun _ => (nw, rd, asd, img, kpt, txt, sz, abv, blw, bds, nos + 1, fls, att, bgn, tkn, wrd, vlu, sts, bst), ?_, ?_, fun _ _ => ⟨h1, ⟨w1, w2, w3, w4⟩, h3, rf_1 h4, h5, h6⟩⟩
        · exact LC.ofT (wb := [xO G ax (ad 11 0) (ad 11 1) (ad 11 2) (ad 9) (ad 10) (ad 11 3) (ad 11 4) ab bl, zW G (ad 11 2) 2 kp, aW G (ad 11 4) 3 rf]) (wb' := [xO G ax (ad 11 0) (ad 11 1) (ad 11 2) (ad 9) (ad 10) (ad 11 3) (ad 11 4) ab bl, zW G (ad 11 2) 2 kp, aW G (ad 11 4) 3 (upd rf 1 (rf 1 + 1))]) [0, 14, 18] (c_X5_from_no l G ax (ad 11 0) (ad 11 1) (ad 11 2) (ad 9) (ad 10) (ad 11 3) (ad 11 4) x 0 ek ab bl kp rf c (by omega) d) (by decide) (by decide) rfl rfl rfl rfl rfl rfl
        · have hc := c_X6_from l G am x nw rd asd img kpt txt sz abv blw bds nos fls att bgn tkn wrd vlu sts bst 
          rw [show x.toNatClampNeg = 0 by rw [ek]; rfl] at hc
          simp only [c, eq_true (w1.symm.trans d), if_true, true_and, not_true_eq_false, and_false, if_false] at hc
          exact LC.ofT (wb := [mY G am (nw, rd, asd, img, kpt, txt, sz, abv, blw, bds, nos, fls, att, bgn, tkn, wrd, vlu, sts, bst)]) (wb' := [mY G am (nw, rd, asd, img, kpt, txt, sz, abv, blw, bds, nos + 1, fls, att, bgn, tkn, wrd, vlu, sts, bst)]) [0] hc (by decide) (by decide) (flat1 _) (flat1 _) rfl rfl rfl rfl
      · have hS2 : RelS ((wo2, mi2, bi2, la2, ch2, ki2, se2, wd2, hu2, bt2), (old2, psz2, T2), (np2, ns2)) (fun j => img (255 * 0 + j)) := relS_congr (w3 d) (fun j hj => congrArg img (by omega))
        refine ⟨1, Unit, Unit, fun _ => (((wo2, mi2, bi2, la2, ch2, ki2, se2, wd2, hu2, bt2), (old2, psz2, T2), (np2, ns2)), ((wo2, mi2, bi2, la2, ch2, ki2, se2, wd2, hu2, bt2), (old2, psz2, T2), (np2, ns2)), ((wo3, mi3, bi3, la3, ch3, ki3, se3, wd3, hu3, bt3), (old3, psz3, T3), (np3, ns3)), kp, (f, len, pl, sa, tk9, vl), (wo1, mi1, bi1, la1, ch1, ki1, se1, wd1, hu1, bt1), sg, rf, ab, bl), fun _ => ((fun j => img (255 * 0 + j)), rd, asd, img, kpt, txt, sz, abv, blw, bds, nos, fls, att, bgn, tkn, wrd, vlu, sts, bst), ?_, ?_, fun _ _ => ⟨hS2, ⟨w1, w2, w3, w4⟩, h3, h4, h5, h6⟩⟩
        · exact LC.ofT (wb := [xO G ax (ad 11 0) (ad 11 1) (ad 11 2) (ad 9) (ad 10) (ad 11 3) (ad 11 4) ab bl, gW G (ad 11 1) (fun j => ad 11 (5 + j)), zW G (ad 11 2) 2 kp, oS G (ad 11 0) (ad 0) (ad 1) (ad 2), tW G (ad 0) wo mi bi la ch ki se wd hu b9, pW G (ad 1) old psz T, nW G (ad 2) np ns, oS G (ad 11 5) (ad 3) (ad 4) (ad 5), tW G (ad 3) wo2 mi2 bi2 la2 ch2 ki2 se2 wd2 hu2 bt2, pW G (ad 4) old2 psz2 T2, nW G (ad 5) np2 ns2]) (wb' := [xO G ax (ad 11 0) (ad 11 1) (ad 11 2) (ad 9) (ad 10) (ad 11 3) (ad 11 4) ab bl, gW G (ad 11 1) (fun j => ad 11 (5 + j)), zW G (ad 11 2) 2 kp, oS G (ad 11 0) (ad 0) (ad 1) (ad 2), tW G (ad 0) wo2 mi2 bi2 la2 ch2 ki2 se2 wd2 hu2 bt2, pW G (ad 1) old2 psz2 T2, nW G (ad 2) np2 ns2, oS G (ad 11 5) (ad 3) (ad 4) (ad 5), tW G (ad 3) wo2 mi2 bi2 la2 ch2 ki2 se2 wd2 hu2 bt2, pW G (ad 4) old2 psz2 T2, nW G (ad 5) np2 ns2]) [0, 5, 14, 1, 2, 3, 4, 6, 7, 8, 9] (c_X5_from_ok l G ax (ad 11 0) (ad 0) (ad 1) (ad 2) (ad 11 1) (ad 11 2) (ad 9) (ad 10) (ad 11 3) (ad 11 4) (fun j => ad 11 (5 + j)) (ad 11 5) (ad 3) (ad 4) (ad 5) x 0 ek ab bl kp wo mi bi la ch ki se wd hu b9 old psz T np ns wo2 mi2 bi2 la2 ch2 ki2 se2 wd2 hu2 bt2 old2 psz2 T2 np2 ns2 c (by omega) rfl d) (by decide) (by decide) rfl rfl rfl rfl rfl rfl
        · have hc := c_X6_from l G am x nw rd asd img kpt txt sz abv blw bds nos fls att bgn tkn wrd vlu sts bst 
          rw [show x.toNatClampNeg = 0 by rw [ek]; rfl] at hc
          simp only [c, eq_false (fun q => d (w1.trans q)), if_true, true_and, not_false_eq_true, and_false, if_false] at hc
          exact LC.ofT (wb := [mY G am (nw, rd, asd, img, kpt, txt, sz, abv, blw, bds, nos, fls, att, bgn, tkn, wrd, vlu, sts, bst)]) (wb' := [mY G am ((fun j => img (255 * 0 + j)), rd, asd, img, kpt, txt, sz, abv, blw, bds, nos, fls, att, bgn, tkn, wrd, vlu, sts, bst)]) [0] hc (by decide) (by decide) (flat1 _) (flat1 _) rfl rfl rfl rfl
    · by_cases d : kp 1 = 0
      · refine ⟨-3, Unit, Unit, fun _ => (((wo, mi, bi, la, ch, ki, se, wd, hu, b9), (old, psz, T), (np, ns)), ((wo2, mi2, bi2, la2, ch2, ki2, se2, wd2, hu2, bt2), (old2, psz2, T2), (np2, ns2)), ((wo3, mi3, bi3, la3, ch3, ki3, se3, wd3, hu3, bt3), (old3, psz3, T3), (np3, ns3)), kp, (f, len, pl, sa, tk9, vl), (wo1, mi1, bi1, la1, ch1, ki1, se1, wd1, hu1, bt1), sg, upd rf 1 (rf 1 + 1), ab, bl), fun _ => (nw, rd, asd, img, kpt, txt, sz, abv, blw, bds, nos + 1, fls, att, bgn, tkn, wrd, vlu, sts, bst), ?_, ?_, fun _ _ => ⟨h1, ⟨w1, w2, w3, w4⟩, h3, rf_1 h4, h5, h6⟩⟩
        · exact LC.ofT (wb := [xO G ax (ad 11 0) (ad 11 1) (ad 11 2) (ad 9) (ad 10) (ad 11 3) (ad 11 4) ab bl, zW G (ad 11 2) 2 kp, aW G (ad 11 4) 3 rf]) (wb' := [xO G ax (ad 11 0) (ad 11 1) (ad 11 2) (ad 9) (ad 10) (ad 11 3) (ad 11 4) ab bl, zW G (ad 11 2) 2 kp, aW G (ad 11 4) 3 (upd rf 1 (rf 1 + 1))]) [0, 14, 18] (c_X5_from_no l G ax (ad 11 0) (ad 11 1) (ad 11 2) (ad 9) (ad 10) (ad 11 3) (ad 11 4) x 1 ek ab bl kp rf c (by omega) d) (by decide) (by decide) rfl rfl rfl rfl rfl rfl
        · have hc := c_X6_from l G am x nw rd asd img kpt txt sz abv blw bds nos fls att bgn tkn wrd vlu sts bst 
          rw [show x.toNatClampNeg = 1 by rw [ek]; rfl] at hc
          simp only [c, eq_true (w2.symm.trans d), if_true, true_and, not_true_eq_false, and_false, if_false] at hc
          exact LC.ofT (wb := [mY G am (nw, rd, asd, img, kpt, txt, sz, abv, blw, bds, nos, fls, att, bgn, tkn, wrd, vlu, sts, bst)]) (wb' := [mY G am (nw, rd, asd, img, kpt, txt, sz, abv, blw, bds, nos + 1, fls, att, bgn, tkn, wrd, vlu, sts, bst)]) [0] hc (by decide) (by decide) (flat1 _) (flat1 _) rfl rfl rfl rfl
      · have hS2 : RelS ((wo3, mi3, bi3, la3, ch3, ki3, se3, wd3, hu3, bt3), (old3, psz3, T3), (np3, ns3)) (fun j => img (255 * 1 + j)) := relS_congr (w4 d) (fun j hj => congrArg img (by omega))
        refine ⟨1, Unit, Unit, fun _ => (((wo3, mi3, bi3, la3, ch3, ki3, se3, wd3, hu3, bt3), (old3, psz3, T3), (np3, ns3)), ((wo2, mi2, bi2, la2, ch2, ki2, se2, wd2, hu2, bt2), (old2, psz2, T2), (np2, ns2)), ((wo3, mi3, bi3, la3, ch3, ki3, se3, wd3, hu3, bt3), (old3, psz3, T3), (np3, ns3)), kp, (f, len, pl, sa, tk9, vl), (wo1, mi1, bi1, la1, ch1, ki1, se1, wd1, hu1, bt1), sg, rf, ab, bl), fun _ => ((fun j => img (255 * 1 + j)), rd, asd, img, kpt, txt, sz, abv, blw, bds, nos, fls, att, bgn, tkn, wrd, vlu, sts, bst), ?_, ?_, fun _ _ => ⟨hS2, ⟨w1, w2, w3, w4⟩, h3, h4, h5, h6⟩⟩
        · exact LC.ofT (wb := [xO G ax (ad 11 0) (ad 11 1) (ad 11 2) (ad 9) (ad 10) (ad 11 3) (ad 11 4) ab bl, gW G (ad 11 1) (fun j => ad 11 (5 + j)), zW G (ad 11 2) 2 kp, oS G (ad 11 0) (ad 0) (ad 1) (ad 2), tW G (ad 0) wo mi bi la ch ki se wd hu b9, pW G (ad 1) old psz T, nW G (ad 2) np ns, oS G (ad 11 6) (ad 6) (ad 7) (ad 8), tW G (ad 6) wo3 mi3 bi3 la3 ch3 ki3 se3 wd3 hu3 bt3, pW G (ad 7) old3 psz3 T3, nW G (ad 8) np3 ns3]) (wb' := [xO G ax (ad 11 0) (ad 11 1) (ad 11 2) (ad 9) (ad 10) (ad 11 3) (ad 11 4) ab bl, gW G (ad 11 1) (fun j => ad 11 (5 + j)), zW G (ad 11 2) 2 kp, oS G (ad 11 0) (ad 0) (ad 1) (ad 2), tW G (ad 0) wo3 mi3 bi3 la3 ch3 ki3 se3 wd3 hu3 bt3, pW G (ad 1) old3 psz3 T3, nW G (ad 2) np3 ns3, oS G (ad 11 6) (ad 6) (ad 7) (ad 8), tW G (ad 6) wo3 mi3 bi3 la3 ch3 ki3 se3 wd3 hu3 bt3, pW G (ad 7) old3 psz3 T3, nW G (ad 8) np3 ns3]) [0, 5, 14, 1, 2, 3, 4, 10, 11, 12, 13] (c_X5_from_ok l G ax (ad 11 0) (ad 0) (ad 1) (ad 2) (ad 11 1) (ad 11 2) (ad 9) (ad 10) (ad 11 3) (ad 11 4) (fun j => ad 11 (5 + j)) (ad 11 6) (ad 6) (ad 7) (ad 8) x 1 ek ab bl kp wo mi bi la ch ki se wd hu b9 old psz T np ns wo3 mi3 bi3 la3 ch3 ki3 se3 wd3 hu3 bt3 old3 psz3 T3 np3 ns3 c (by omega) rfl d) (by decide) (by decide) rfl rfl rfl rfl rfl rfl
        · have hc := c_X6_from l G am x nw rd asd img kpt txt sz abv blw bds nos fls att bgn tkn wrd vlu sts bst 
          rw [show x.toNatClampNeg = 1 by rw [ek]; rfl] at hc
          simp only [c, eq_false (fun q => d (w2.trans q)), if_true, true_and, not_false_eq_true, and_false, if_false] at hc
          exact LC.ofT (wb := [mY G am (nw, rd, asd, img, kpt, txt, sz, abv, blw, bds, nos, fls, att, bgn, tkn, wrd, vlu, sts, bst)]) (wb' := [mY G am ((fun j => img (255 * 1 + j)), rd, asd, img, kpt, txt, sz, abv, blw, bds, nos, fls, att, bgn, tkn, wrd, vlu, sts, bst)]) [0] hc (by decide) (by decide) (flat1 _) (flat1 _) rfl rfl rfl rfl
  · have c := Bool.eq_false_iff.mpr c
    refine ⟨-2, Unit, Unit, fun _ => (((wo, mi, bi, la, ch, ki, se, wd, hu, b9), (old, psz, T), (np, ns)), ((wo2, mi2, bi2, la2, ch2, ki2, se2, wd2, hu2, bt2), (old2, psz2, T2), (np2, ns2)), ((wo3, mi3, bi3, la3, ch3, ki3, se3, wd3, hu3, bt3), (old3, psz3, T3), (np3, ns3)), kp, (f, len, pl, sa, tk9, vl), (wo1, mi1, bi1, la1, ch1, ki1, se1, wd1, hu1, bt1), sg, upd rf 0 (rf 0 + 1), ab, bl), fun _ => (nw, rd, asd, img, kpt, txt, sz, abv, blw, bds + 1, nos, fls, att, bgn, tkn, wrd, vlu, sts, bst), ?_, ?_, fun _ _ => ⟨h1, ⟨w1, w2, w3, w4⟩, h3, rf_0 h4, h5, h6⟩⟩
    · exact LC.ofT (wb := [xO G ax (ad 11 0) (ad 11 1) (ad 11 2) (ad 9) (ad 10) (ad 11 3) (ad 11 4) ab bl, aW G (ad 11 4) 3 rf]) (wb' := [xO G ax (ad 11 0) (ad 11 1) (ad 11 2) (ad 9) (ad 10) (ad 11 3) (ad 11 4) ab bl, aW G (ad 11 4) 3 (upd rf 0 (rf 0 + 1))]) [0, 18] (c_X5_from_bad l G ax (ad 11 0) (ad 11 1) (ad 11 2) (ad 9) (ad 10) (ad 11 3) (ad 11 4) x ab bl rf c) (by decide) (by decide) rfl rfl rfl rfl rfl rfl
    · have hc := c_X6_from l G am x nw rd asd img kpt txt sz abv blw bds nos fls att bgn tkn wrd vlu sts bst 
      simp only [c, Bool.false_eq_true, if_false, false_and] at hc
      exact LC.ofT (wb := [mY G am (nw, rd, asd, img, kpt, txt, sz, abv, blw, bds, nos, fls, att, bgn, tkn, wrd, vlu, sts, bst)]) (wb' := [mY G am (nw, rd, asd, img, kpt, txt, sz, abv, blw, bds + 1, nos, fls, att, bgn, tkn, wrd, vlu, sts, bst)]) [0] hc (by decide) (by decide) (flat1 _) (flat1 _) rfl rfl rfl rfl
set_option maxRecDepth 100000 in
theorem op_minute (l : Launch) (K : KA) (G : GG) (ax : Nat) (ad : Ad) (am : Nat → Nat) (X : XS) (Y : YS) (h : Rel X Y) (x : Int32) : OPi Rel K l G ax ad am yX5_minute cX5_minute 2 yX6_minute cX6_minute 4 [.int x] X Y := by
  obtain ⟨⟨⟨wo, mi, bi, la, ch, ki, se, wd, hu, b9⟩, ⟨old, psz, T⟩, np, ns⟩, i0, i1, kp, ⟨f, len, pl, sa, tk9, vl⟩, ⟨wo1, mi1, bi1, la1, ch1, ki1, se1, wd1, hu1, bt1⟩, sg, rf, ab, bl⟩ := X
  obtain ⟨nw, rd, asd, img, kpt, txt, sz, abv, blw, bds, nos, fls, att, bgn, tkn, wrd, vlu, sts, bst⟩ := Y
  obtain ⟨h1, h2, h3, h4, h5, h6⟩ := h
  obtain ⟨n, zn, u, o, a1, a2, a3, a4, a5, a6, a7, a8, a9, b1, b2, b3, b4, b5, b6⟩ := h1
  have e1 : ch = nI n := a3.2.2.2.2.1
  have e2 : ns = nI zn := a7
  have e3 : old = nI o := b3
  have e4 : psz = nI u := b4
  subst e1; subst e2; subst e3; subst e4
  have e5 : nw 22 = nI n := a2
  obtain ⟨mn, hmn, emn⟩ := a3.2.2.2.2.2.2.1
  have g2 : mi = nw 21 := a3.2.1
  have g3 : bi = nw 18 := a3.2.2.1
  have e6 : mi = nI mn := g2.trans emn
  subst e6
  by_cases c : inI x 1 60 = true
  · obtain ⟨xx, hx1, hxx, ex⟩ := inI_nat (a := 1) (b := 60) (by omega) (by omega) rfl rfl c
    obtain ⟨D, hD⟩ : ∃ D, pmN wo n ki se wd (min xx (999 - mn)) (nI mn, bi, la, hu, b9) = D := ⟨_, rfl⟩
    have rt := rt_congr (t2 := rmb nw u) (rt_of a1 a3 a4 a5) (fun j hj => rmb_lo (by omega))
    have hr := rt_N rt (min xx (999 - mn))
    rw [hD] at hr
    have hC := relC_go (t2 := rmb nw u) a1 a3 (fun j hj => rmb_lo (by omega)) emn (show mn + min xx (999 - mn) ≤ 999 by omega) hr
    have ho : ∀ j, 22 ≤ j → goN n (min xx (999 - mn)) (rmb nw u) j = rmb nw u j := fun j hj => goN_out a1 (by omega) _
    have hS2 := relS_keep (t' := (wo, D.1, D.2.1, D.2.2.1, nI n, ki, se, wd, D.2.2.2.1, D.2.2.2.2)) (nw' := goN n (min xx (999 - mn)) (rmb nw u)) a1 a2 a3 a4 a5 a6 rfl a8 a9 b1 b2 b6 hC a4 (fun j h1 h2 => by rw [ho j h1, rmb_lo h2]) (by rw [ho 78 (by omega), rmb_78 b1]) (fun j hj => ho j (by omega))
    have eL : mnL n xx (rmb nw u) = goN n (min xx (999 - mn)) (rmb nw u) := mnL_min a1 xx _ mn hmn (by rw [rmb_lo (by omega)]; exact emn)
    have eA : goN n (min xx (999 - mn)) (rmb nw u) 18 - rmb nw u 18 = D.2.1 - bi := by rw [← hr.2.2.2.2.1, rmb_lo (by omega), ← g3]
    refine ⟨D.2.1 - bi, Unit, Unit, fun _ => (((wo, D.1, D.2.1, D.2.2.1, nI n, ki, se, wd, D.2.2.2.1, D.2.2.2.2), (nI (kpO o u), nI (kpZ u), updT T ((kpO o u + kpZ u - 1) % 8) (wo, nI mn, bi, la, nI n, ki, se, wd, hu, b9)), (np, nI zn)), i0, i1, kp, (f, len, pl, sa, tk9, vl), (wo1, mi1, bi1, la1, ch1, ki1, se1, wd1, hu1, bt1), sg, rf, ab, bl), fun _ => ((goN n (min xx (999 - mn)) (rmb nw u)), rd, asd, img, kpt, txt, sz, abv, blw, bds, nos, fls, att, bgn, tkn, wrd, vlu, sts, bst), ?_, ?_, fun _ _ => ⟨hS2, h2, h3, h4, h5, h6⟩⟩
    · exact LC.ofT (wb := [xO G ax (ad 11 0) (ad 11 1) (ad 11 2) (ad 9) (ad 10) (ad 11 3) (ad 11 4) ab bl, oS G (ad 11 0) (ad 0) (ad 1) (ad 2), tW G (ad 0) wo (nI mn) bi la (nI n) ki se wd hu b9, pW G (ad 1) (nI o) (nI u) T]) (wb' := [xO G ax (ad 11 0) (ad 11 1) (ad 11 2) (ad 9) (ad 10) (ad 11 3) (ad 11 4) ab bl, oS G (ad 11 0) (ad 0) (ad 1) (ad 2), tW G (ad 0) wo D.1 D.2.1 D.2.2.1 (nI n) ki se wd D.2.2.2.1 D.2.2.2.2, pW G (ad 1) (nI (kpO o u)) (nI (kpZ u)) (updT T ((kpO o u + kpZ u - 1) % 8) (wo, nI mn, bi, la, nI n, ki, se, wd, hu, b9))]) [0, 1, 2, 3] (c_X5_minute_ok l G ax (ad 11 0) (ad 0) (ad 1) (ad 2) (ad 11 1) (ad 11 2) (ad 9) (ad 10) (ad 11 3) (ad 11 4) x xx ex ab bl wo mn bi la n ki se wd hu b9 o u T D a1 b2 b1 c hmn hxx hD) (by decide) (by decide) rfl rfl rfl rfl rfl rfl
    · have hc := c_X6_minute l G am x nw rd asd img kpt txt sz abv blw bds nos fls att bgn tkn wrd vlu sts bst n u a2 a1 b5 b1
      simp only [c, if_true] at hc
      rw [show x.toNatClampNeg = xx by rw [ex]; exact nI_clamp (by omega), eL, eA] at hc
      exact LC.ofT (wb := [mY G am (nw, rd, asd, img, kpt, txt, sz, abv, blw, bds, nos, fls, att, bgn, tkn, wrd, vlu, sts, bst)]) (wb' := [mY G am ((goN n (min xx (999 - mn)) (rmb nw u)), rd, asd, img, kpt, txt, sz, abv, blw, bds, nos, fls, att, bgn, tkn, wrd, vlu, sts, bst)]) [0] hc (by decide) (by decide) (flat1 _) (flat1 _) rfl rfl rfl rfl
  · have c := Bool.eq_false_iff.mpr c
    refine ⟨-2, Unit, Unit, fun _ => (((wo, nI mn, bi, la, nI n, ki, se, wd, hu, b9), (nI o, nI u, T), (np, nI zn)), i0, i1, kp, (f, len, pl, sa, tk9, vl), (wo1, mi1, bi1, la1, ch1, ki1, se1, wd1, hu1, bt1), sg, upd rf 0 (rf 0 + 1), ab, bl), fun _ => (nw, rd, asd, img, kpt, txt, sz, abv, blw, bds + 1, nos, fls, att, bgn, tkn, wrd, vlu, sts, bst), ?_, ?_, fun _ _ => ⟨⟨n, zn, u, o, a1, a2, a3, a4, a5, a6, rfl, a8, a9, b1, b2, rfl, rfl, b5, b6⟩, h2, h3, rf_0 h4, h5, h6⟩⟩
    · exact LC.ofT (wb := [xO G ax (ad 11 0) (ad 11 1) (ad 11 2) (ad 9) (ad 10) (ad 11 3) (ad 11 4) ab bl, aW G (ad 11 4) 3 rf]) (wb' := [xO G ax (ad 11 0) (ad 11 1) (ad 11 2) (ad 9) (ad 10) (ad 11 3) (ad 11 4) ab bl, aW G (ad 11 4) 3 (upd rf 0 (rf 0 + 1))]) [0, 18] (c_X5_minute_bad l G ax (ad 11 0) (ad 11 1) (ad 11 2) (ad 9) (ad 10) (ad 11 3) (ad 11 4) x ab bl rf c) (by decide) (by decide) rfl rfl rfl rfl rfl rfl
    · have hc := c_X6_minute l G am x nw rd asd img kpt txt sz abv blw bds nos fls att bgn tkn wrd vlu sts bst n u a2 a1 b5 b1
      simp only [c, Bool.false_eq_true, if_false] at hc
      exact LC.ofT (wb := [mY G am (nw, rd, asd, img, kpt, txt, sz, abv, blw, bds, nos, fls, att, bgn, tkn, wrd, vlu, sts, bst)]) (wb' := [mY G am (nw, rd, asd, img, kpt, txt, sz, abv, blw, bds + 1, nos, fls, att, bgn, tkn, wrd, vlu, sts, bst)]) [0] hc (by decide) (by decide) (flat1 _) (flat1 _) rfl rfl rfl rfl
set_option maxRecDepth 100000 in
theorem op_then (l : Launch) (K : KA) (G : GG) (ax : Nat) (ad : Ad) (am : Nat → Nat) (X : XS) (Y : YS) (h : Rel X Y) (x y : Int32) : OPi Rel K l G ax ad am yX5_then cX5_then 3 yX6_then cX6_then 4 [.int x, .int y] X Y := by
  obtain ⟨⟨⟨wo, mi, bi, la, ch, ki, se, wd, hu, b9⟩, ⟨old, psz, T⟩, np, ns⟩, i0, i1, kp, ⟨f, len, pl, sa, tk9, vl⟩, ⟨wo1, mi1, bi1, la1, ch1, ki1, se1, wd1, hu1, bt1⟩, sg, rf, ab, bl⟩ := X
  obtain ⟨nw, rd, asd, img, kpt, txt, sz, abv, blw, bds, nos, fls, att, bgn, tkn, wrd, vlu, sts, bst⟩ := Y
  obtain ⟨h1, h2, h3, h4, h5, h6⟩ := h
  obtain ⟨n, zn, u, o, a1, a2, a3, a4, a5, a6, a7, a8, a9, b1, b2, b3, b4, b5, b6⟩ := h1
  have e1 : ch = nI n := a3.2.2.2.2.1
  have e2 : ns = nI zn := a7
  have e3 : old = nI o := b3
  have e4 : psz = nI u := b4
  subst e1; subst e2; subst e3; subst e4
  have e5 : nw 22 = nI n := a2
  have rt := rt_of a1 a3 a4 a5
  have g3 : bi = nw 18 := a3.2.2.1
  by_cases c : inI x 0 60 = true
  · by_cases d : y = -1
    · obtain ⟨xx, -, hxx, ex⟩ := inI_nat (a := 0) (b := 60) (by omega) (by omega) rfl rfl c
      obtain ⟨D, hD⟩ : ∃ D, pmN wo n ki se wd xx (mi, bi, la, hu, b9) = D := ⟨_, rfl⟩
      have hr := rt_N rt xx
      rw [hD] at hr
      refine ⟨D.2.1, Unit, (Nat → Int32), fun uu => (((wo, mi, bi, la, nI n, ki, se, wd, hu, b9), (nI o, nI u, T), (np, nI zn)), i0, i1, kp, (f, len, pl, sa, tk9, vl), (wo, D.1, D.2.1, D.2.2.1, nI n, ki, se, wd, D.2.2.2.1, D.2.2.2.2), sg, rf, ab, bl), fun vv => (nw, rd, vv, img, kpt, txt, sz, abv, blw, bds, nos, fls, att, bgn, tkn, wrd, vlu, sts, bst), ?_, ?_, fun _ _ => ⟨⟨n, zn, u, o, a1, a2, a3, a4, a5, a6, rfl, a8, a9, b1, b2, rfl, rfl, b5, b6⟩, h2, h3, h4, h5, h6⟩⟩
      · exact LC.ofT (wb := [xO G ax (ad 11 0) (ad 11 1) (ad 11 2) (ad 9) (ad 10) (ad 11 3) (ad 11 4) ab bl, oS G (ad 11 0) (ad 0) (ad 1) (ad 2), tW G (ad 0) wo mi bi la (nI n) ki se wd hu b9, tW G (ad 10) wo1 mi1 bi1 la1 ch1 ki1 se1 wd1 hu1 bt1]) (wb' := [xO G ax (ad 11 0) (ad 11 1) (ad 11 2) (ad 9) (ad 10) (ad 11 3) (ad 11 4) ab bl, oS G (ad 11 0) (ad 0) (ad 1) (ad 2), tW G (ad 0) wo mi bi la (nI n) ki se wd hu b9, tW G (ad 10) wo D.1 D.2.1 D.2.2.1 (nI n) ki se wd D.2.2.2.1 D.2.2.2.2]) [0, 1, 2, 16] (c_X5_then_all l G ax (ad 11 0) (ad 0) (ad 1) (ad 2) (ad 11 1) (ad 11 2) (ad 9) (ad 10) (ad 11 3) (ad 11 4) x xx ex y ab bl wo mi bi la n ki se wd hu b9 wo1 mi1 bi1 la1 ch1 ki1 se1 wd1 hu1 bt1 D a1 c hxx hD d) (by decide) (by decide) rfl rfl rfl rfl rfl rfl
      · have hc := c_X6_then l G am x y nw rd asd img kpt txt sz abv blw bds nos fls att bgn tkn wrd vlu sts bst n a2 a1
        simp only [e5, c, eq_true d, if_true, true_or, and_self] at hc
        rw [show x.toNatClampNeg = xx by rw [ex]; exact nI_clamp (by omega)] at hc
        rw [← hr.2.2.2.2.1] at hc
        exact LC.ofE (wb := [mY G am (nw, rd, asd, img, kpt, txt, sz, abv, blw, bds, nos, fls, att, bgn, tkn, wrd, vlu, sts, bst)]) (Fb := fun vv : Nat → Int32 => [mY G am (nw, rd, vv, img, kpt, txt, sz, abv, blw, bds, nos, fls, att, bgn, tkn, wrd, vlu, sts, bst)]) [0] hc (by decide) (by decide) (flat1 _) (fun _ => flat1 _) rfl rfl (fun _ => rfl) (fun _ => rfl)
    · by_cases d2 : inI y 0 (nI n - 1) = true
      · obtain ⟨xx, -, hxx, ex⟩ := inI_nat (a := 0) (b := 60) (by omega) (by omega) rfl rfl c
        obtain ⟨D, hD⟩ : ∃ D, pmN wo n ki se wd xx (mi, bi, la, hu, b9) = D := ⟨_, rfl⟩
        have hr := rt_N rt xx
        rw [hD] at hr
        obtain ⟨k, hk, ey⟩ := inI_child rfl a1 d2
        refine ⟨D.2.2.2.2 k, Unit, (Nat → Int32), fun uu => (((wo, mi, bi, la, nI n, ki, se, wd, hu, b9), (nI o, nI u, T), (np, nI zn)), i0, i1, kp, (f, len, pl, sa, tk9, vl), (wo, D.1, D.2.1, D.2.2.1, nI n, ki, se, wd, D.2.2.2.1, D.2.2.2.2), sg, rf, ab, bl), fun vv => (nw, rd, vv, img, kpt, txt, sz, abv, blw, bds, nos, fls, att, bgn, tkn, wrd, vlu, sts, bst), ?_, ?_, fun _ _ => ⟨⟨n, zn, u, o, a1, a2, a3, a4, a5, a6, rfl, a8, a9, b1, b2, rfl, rfl, b5, b6⟩, h2, h3, h4, h5, h6⟩⟩
        · exact LC.ofT (wb := [xO G ax (ad 11 0) (ad 11 1) (ad 11 2) (ad 9) (ad 10) (ad 11 3) (ad 11 4) ab bl, oS G (ad 11 0) (ad 0) (ad 1) (ad 2), tW G (ad 0) wo mi bi la (nI n) ki se wd hu b9, tW G (ad 10) wo1 mi1 bi1 la1 ch1 ki1 se1 wd1 hu1 bt1]) (wb' := [xO G ax (ad 11 0) (ad 11 1) (ad 11 2) (ad 9) (ad 10) (ad 11 3) (ad 11 4) ab bl, oS G (ad 11 0) (ad 0) (ad 1) (ad 2), tW G (ad 0) wo mi bi la (nI n) ki se wd hu b9, tW G (ad 10) wo D.1 D.2.1 D.2.2.1 (nI n) ki se wd D.2.2.2.1 D.2.2.2.2]) [0, 1, 2, 16] (c_X5_then_one l G ax (ad 11 0) (ad 0) (ad 1) (ad 2) (ad 11 1) (ad 11 2) (ad 9) (ad 10) (ad 11 3) (ad 11 4) x xx ex y k ey ab bl wo mi bi la n ki se wd hu b9 wo1 mi1 bi1 la1 ch1 ki1 se1 wd1 hu1 bt1 D a1 c hxx hD d d2 hk) (by decide) (by decide) rfl rfl rfl rfl rfl rfl
        · have hc := c_X6_then l G am x y nw rd asd img kpt txt sz abv blw bds nos fls att bgn tkn wrd vlu sts bst n a2 a1
          simp only [e5, c, eq_false d, d2, if_true, or_true, and_self, if_false] at hc
          rw [show x.toNatClampNeg = xx by rw [ex]; exact nI_clamp (by omega)] at hc
          rw [show y.toNatClampNeg = k by rw [ey]; exact nI_clamp (by omega), ← (hr.2.2.2.2.2.2 k hk).2.2.1] at hc
          exact LC.ofE (wb := [mY G am (nw, rd, asd, img, kpt, txt, sz, abv, blw, bds, nos, fls, att, bgn, tkn, wrd, vlu, sts, bst)]) (Fb := fun vv : Nat → Int32 => [mY G am (nw, rd, vv, img, kpt, txt, sz, abv, blw, bds, nos, fls, att, bgn, tkn, wrd, vlu, sts, bst)]) [0] hc (by decide) (by decide) (flat1 _) (fun _ => flat1 _) rfl rfl (fun _ => rfl) (fun _ => rfl)
      · have d3 := Bool.eq_false_iff.mpr d2
        refine ⟨-2, Unit, (Nat → Int32), fun uu => (((wo, mi, bi, la, nI n, ki, se, wd, hu, b9), (nI o, nI u, T), (np, nI zn)), i0, i1, kp, (f, len, pl, sa, tk9, vl), (wo1, mi1, bi1, la1, ch1, ki1, se1, wd1, hu1, bt1), sg, upd rf 0 (rf 0 + 1), ab, bl), fun vv => (nw, rd, vv, img, kpt, txt, sz, abv, blw, bds + 1, nos, fls, att, bgn, tkn, wrd, vlu, sts, bst), ?_, ?_, fun _ _ => ⟨⟨n, zn, u, o, a1, a2, a3, a4, a5, a6, rfl, a8, a9, b1, b2, rfl, rfl, b5, b6⟩, h2, h3, rf_0 h4, h5, h6⟩⟩
        · exact LC.ofT (wb := [xO G ax (ad 11 0) (ad 11 1) (ad 11 2) (ad 9) (ad 10) (ad 11 3) (ad 11 4) ab bl, oS G (ad 11 0) (ad 0) (ad 1) (ad 2), tW G (ad 0) wo mi bi la (nI n) ki se wd hu b9, aW G (ad 11 4) 3 rf]) (wb' := [xO G ax (ad 11 0) (ad 11 1) (ad 11 2) (ad 9) (ad 10) (ad 11 3) (ad 11 4) ab bl, oS G (ad 11 0) (ad 0) (ad 1) (ad 2), tW G (ad 0) wo mi bi la (nI n) ki se wd hu b9, aW G (ad 11 4) 3 (upd rf 0 (rf 0 + 1))]) [0, 1, 2, 18] (c_X5_then_bad l G ax (ad 11 0) (ad 0) (ad 1) (ad 2) (ad 11 1) (ad 11 2) (ad 9) (ad 10) (ad 11 3) (ad 11 4) x y ab bl wo mi bi la n ki se wd hu b9 rf (Or.inr ⟨d, d3⟩)) (by decide) (by decide) rfl rfl rfl rfl rfl rfl
        · have hc := c_X6_then l G am x y nw rd asd img kpt txt sz abv blw bds nos fls att bgn tkn wrd vlu sts bst n a2 a1
          simp only [e5, eq_false d, d3, Bool.false_eq_true, or_self, and_false, if_false] at hc
          exact LC.ofE (wb := [mY G am (nw, rd, asd, img, kpt, txt, sz, abv, blw, bds, nos, fls, att, bgn, tkn, wrd, vlu, sts, bst)]) (Fb := fun vv : Nat → Int32 => [mY G am (nw, rd, vv, img, kpt, txt, sz, abv, blw, bds + 1, nos, fls, att, bgn, tkn, wrd, vlu, sts, bst)]) [0] hc (by decide) (by decide) (flat1 _) (fun _ => flat1 _) rfl rfl (fun _ => rfl) (fun _ => rfl)
  · have c := Bool.eq_false_iff.mpr c
    refine ⟨-2, Unit, (Nat → Int32), fun uu => (((wo, mi, bi, la, nI n, ki, se, wd, hu, b9), (nI o, nI u, T), (np, nI zn)), i0, i1, kp, (f, len, pl, sa, tk9, vl), (wo1, mi1, bi1, la1, ch1, ki1, se1, wd1, hu1, bt1), sg, upd rf 0 (rf 0 + 1), ab, bl), fun vv => (nw, rd, vv, img, kpt, txt, sz, abv, blw, bds + 1, nos, fls, att, bgn, tkn, wrd, vlu, sts, bst), ?_, ?_, fun _ _ => ⟨⟨n, zn, u, o, a1, a2, a3, a4, a5, a6, rfl, a8, a9, b1, b2, rfl, rfl, b5, b6⟩, h2, h3, rf_0 h4, h5, h6⟩⟩
    · exact LC.ofT (wb := [xO G ax (ad 11 0) (ad 11 1) (ad 11 2) (ad 9) (ad 10) (ad 11 3) (ad 11 4) ab bl, oS G (ad 11 0) (ad 0) (ad 1) (ad 2), tW G (ad 0) wo mi bi la (nI n) ki se wd hu b9, aW G (ad 11 4) 3 rf]) (wb' := [xO G ax (ad 11 0) (ad 11 1) (ad 11 2) (ad 9) (ad 10) (ad 11 3) (ad 11 4) ab bl, oS G (ad 11 0) (ad 0) (ad 1) (ad 2), tW G (ad 0) wo mi bi la (nI n) ki se wd hu b9, aW G (ad 11 4) 3 (upd rf 0 (rf 0 + 1))]) [0, 1, 2, 18] (c_X5_then_bad l G ax (ad 11 0) (ad 0) (ad 1) (ad 2) (ad 11 1) (ad 11 2) (ad 9) (ad 10) (ad 11 3) (ad 11 4) x y ab bl wo mi bi la n ki se wd hu b9 rf (Or.inl c)) (by decide) (by decide) rfl rfl rfl rfl rfl rfl
    · have hc := c_X6_then l G am x y nw rd asd img kpt txt sz abv blw bds nos fls att bgn tkn wrd vlu sts bst n a2 a1
      simp only [e5, c, Bool.false_eq_true, false_and, if_false] at hc
      exact LC.ofE (wb := [mY G am (nw, rd, asd, img, kpt, txt, sz, abv, blw, bds, nos, fls, att, bgn, tkn, wrd, vlu, sts, bst)]) (Fb := fun vv : Nat → Int32 => [mY G am (nw, rd, vv, img, kpt, txt, sz, abv, blw, bds + 1, nos, fls, att, bgn, tkn, wrd, vlu, sts, bst)]) [0] hc (by decide) (by decide) (flat1 _) (fun _ => flat1 _) rfl rfl (fun _ => rfl) (fun _ => rfl)
set_option maxRecDepth 100000 in
theorem op_quiet (l : Launch) (K : KA) (G : GG) (ax : Nat) (ad : Ad) (am : Nat → Nat) (X : XS) (Y : YS) (h : Rel X Y) : OPi Rel K l G ax ad am yX5_quiet cX5_quiet 2 yX6_quiet cX6_quiet 2 [] X Y := by
  obtain ⟨⟨⟨wo, mi, bi, la, ch, ki, se, wd, hu, b9⟩, ⟨old, psz, T⟩, np, ns⟩, i0, i1, kp, ⟨f, len, pl, sa, tk9, vl⟩, ⟨wo1, mi1, bi1, la1, ch1, ki1, se1, wd1, hu1, bt1⟩, sg, rf, ab, bl⟩ := X
  obtain ⟨nw, rd, asd, img, kpt, txt, sz, abv, blw, bds, nos, fls, att, bgn, tkn, wrd, vlu, sts, bst⟩ := Y
  obtain ⟨h1, h2, h3, h4, h5, h6⟩ := h
  obtain ⟨n, zn, u, o, a1, a2, a3, a4, a5, a6, a7, a8, a9, b1, b2, b3, b4, b5, b6⟩ := h1
  have e1 : ch = nI n := a3.2.2.2.2.1
  have e2 : ns = nI zn := a7
  have e3 : old = nI o := b3
  have e4 : psz = nI u := b4
  subst e1; subst e2; subst e3; subst e4
  have e5 : nw 22 = nI n := a2
  have rt := rt_of a1 a3 a4 a5
  have eq : qtM n 60 1 nw = qtC wo n ki se wd 60 1 (mi, bi, la, hu, b9) := (rt_quiet 60 1 _ nw rt).symm
  refine ⟨qtC wo n ki se wd 60 1 (mi, bi, la, hu, b9), (Int32 × Int32 × Int32 × (Nat → Int32) × (Nat → Int32)), (Nat → Int32), fun uu => (((wo, mi, bi, la, nI n, ki, se, wd, hu, b9), (nI o, nI u, T), (np, nI zn)), i0, i1, kp, (f, len, pl, sa, tk9, vl), (wo, uu.1, uu.2.1, uu.2.2.1, nI n, ki, se, wd, uu.2.2.2.1, uu.2.2.2.2), sg, rf, ab, bl), fun vv => (nw, rd, vv, img, kpt, txt, sz, abv, blw, bds, nos, fls, att, bgn, tkn, wrd, vlu, sts, bst), ?_, ?_, fun _ _ => ⟨⟨n, zn, u, o, a1, a2, a3, a4, a5, a6, rfl, a8, a9, b1, b2, rfl, rfl, b5, b6⟩, h2, h3, h4, h5, h6⟩⟩
  · exact LC.ofE (wb := [xO G ax (ad 11 0) (ad 11 1) (ad 11 2) (ad 9) (ad 10) (ad 11 3) (ad 11 4) ab bl, oS G (ad 11 0) (ad 0) (ad 1) (ad 2), tW G (ad 0) wo mi bi la (nI n) ki se wd hu b9, tW G (ad 10) wo1 mi1 bi1 la1 ch1 ki1 se1 wd1 hu1 bt1]) (Fb := fun uu : Int32 × Int32 × Int32 × (Nat → Int32) × (Nat → Int32) => [xO G ax (ad 11 0) (ad 11 1) (ad 11 2) (ad 9) (ad 10) (ad 11 3) (ad 11 4) ab bl, oS G (ad 11 0) (ad 0) (ad 1) (ad 2), tW G (ad 0) wo mi bi la (nI n) ki se wd hu b9, tW G (ad 10) wo uu.1 uu.2.1 uu.2.2.1 (nI n) ki se wd uu.2.2.2.1 uu.2.2.2.2]) [0, 1, 2, 16] (c_X5_quiet l G ax (ad 11 0) (ad 0) (ad 1) (ad 2) (ad 11 1) (ad 11 2) (ad 9) (ad 10) (ad 11 3) (ad 11 4) ab bl wo mi bi la n ki se wd hu b9 wo1 mi1 bi1 la1 ch1 ki1 se1 wd1 hu1 bt1 a1) (by decide) (by decide) rfl (fun _ => rfl) rfl rfl (fun _ => rfl) (fun _ => rfl)
  · have hc := c_X6_quiet l G am  nw rd asd img kpt txt sz abv blw bds nos fls att bgn tkn wrd vlu sts bst n a2 a1
    rw [eq] at hc
    exact LC.ofE (wb := [mY G am (nw, rd, asd, img, kpt, txt, sz, abv, blw, bds, nos, fls, att, bgn, tkn, wrd, vlu, sts, bst)]) (Fb := fun vv : Nat → Int32 => [mY G am (nw, rd, vv, img, kpt, txt, sz, abv, blw, bds, nos, fls, att, bgn, tkn, wrd, vlu, sts, bst)]) [0] hc (by decide) (by decide) (flat1 _) (fun _ => flat1 _) rfl rfl (fun _ => rfl) (fun _ => rfl)

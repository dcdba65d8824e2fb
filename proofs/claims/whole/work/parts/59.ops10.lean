theorem rt_wo {n q : Nat} {wo : Int32} {ki se wd : Nat → Int32} {d : Dy} {t : Nat → Int32} (h : RT n wo ki se wd d t) (hq : q < 8) : RT n (nI q) ki se wd d (upd t 20 (nI q)) := by
  obtain ⟨h1, h2, h3, h4, h5, h6, h7⟩ := h
  have ne : ∀ j, j ≠ 20 → upd t 20 (nI q) j = t j := fun j hj => upd_ne _ _ hj
  refine ⟨h1, (upd_at _ _ _).symm, ⟨q, hq, upd_at _ _ _⟩, by rw [ne 21 (by omega)]; exact h4, by rw [ne 18 (by omega)]; exact h5, by rw [ne 19 (by omega)]; exact h6, fun j hj => ?_⟩
  rw [ne j (by omega), ne (6 + j) (by omega), ne (12 + j) (by omega), ne (23 + j) (by omega), ne (29 + j) (by omega)]
  exact h7 j hj
theorem rt_wd {n k : Nat} {wo x : Int32} {ki se wd : Nat → Int32} {d : Dy} {t : Nat → Int32} (h : RT n wo ki se wd d t) (hk : k < n) (hx : ∃ a, a < 1000 ∧ t (29 + k) + x = nI a) : RT n wo ki se (upd wd k (wd k + x)) d (wdA t k x) := by
  obtain ⟨h1, h2, h3, h4, h5, h6, h7⟩ := h
  have ne : ∀ j, j ≠ 29 + k → wdA t k x j = t j := fun j hj => upd_ne _ _ hj
  refine ⟨h1, by rw [ne 20 (by omega)]; exact h2, by rw [ne 20 (by omega)]; exact h3, by rw [ne 21 (by omega)]; exact h4, by rw [ne 18 (by omega)]; exact h5, by rw [ne 19 (by omega)]; exact h6, fun j hj => ?_⟩
  rw [ne j (by omega), ne (6 + j) (by omega), ne (12 + j) (by omega), ne (23 + j) (by omega)]
  obtain ⟨q1, q2, q3, q4, q5, q6, q7, q8⟩ := h7 j hj
  by_cases e : j = k
  · subst e
    refine ⟨q1, q2, q3, q4, ?_, q6, q7, ?_⟩
    · rw [upd_at, wdA, upd_at, q5]
    · rw [wdA, upd_at]; exact hx
  · rw [upd_ne _ _ e, ne (29 + j) (by omega)]
    exact ⟨q1, q2, q3, q4, q5, q6, q7, q8⟩
theorem rt_hu {n k c : Nat} {wo v : Int32} {ki se wd : Nat → Int32} {d : Dy} {t : Nat → Int32} (h : RT n wo ki se wd d t) (hk : k < n) (hc : c ≤ 30) (hv : v = nI c) : RT n wo ki se wd (d.1, d.2.1, d.2.2.1, upd d.2.2.2.1 k v, d.2.2.2.2) (upd t (6 + k) v) := by
  obtain ⟨h1, h2, h3, h4, h5, h6, h7⟩ := h
  have ne : ∀ j, j ≠ 6 + k → upd t (6 + k) v j = t j := fun j hj => upd_ne _ _ hj
  refine ⟨h1, by rw [ne 20 (by omega)]; exact h2, by rw [ne 20 (by omega)]; exact h3, by rw [ne 21 (by omega)]; exact h4, by rw [ne 18 (by omega)]; exact h5, by rw [ne 19 (by omega)]; exact h6, fun j hj => ?_⟩
  rw [ne j (by omega), ne (12 + j) (by omega), ne (23 + j) (by omega), ne (29 + j) (by omega)]
  obtain ⟨q1, q2, q3, q4, q5, q6, q7, q8⟩ := h7 j hj
  by_cases e : j = k
  · subst e
    refine ⟨q1, ?_, q3, q4, q5, q6, ?_, q8⟩
    · show upd d.2.2.2.1 j v j = _
      rw [upd_at, upd_at]
    · rw [upd_at]; exact ⟨c, hc, hv⟩
  · rw [ne (6 + j) (by omega)]
    exact ⟨q1, (upd_ne _ _ e).trans q2, q3, q4, q5, q6, q7, q8⟩
/-- the least, found in the class's way and in the reference's -/
theorem am_cls {f v : Nat → Int32} {S : Nat → Int32 × Int32} {B N : Nat} (h0 : S 0 = (nI B, -1)) (hs : ∀ q, q < N → S (q + 1) = if f q < (S q).1 then (f q, v q) else S q) (hf : ∀ q, q < N → ∃ c, c < B ∧ f q = nI c) (hB : B ≤ 1000) : ∀ k, k ≤ N → (am f v (-1) 1000000 k).1 = (S k).2 ∧ (1 ≤ k → (am f v (-1) 1000000 k).2 = (S k).1)
  | 0, _ => ⟨by rw [h0]; rfl, fun h => absurd h (by omega)⟩
  | k + 1, hk => by
    obtain ⟨i1, i2⟩ := am_cls h0 hs hf hB k (by omega)
    obtain ⟨c, hc, ec⟩ := hf k (by omega)
    rw [hs k (by omega), am]
    by_cases k0 : k = 0
    · subst k0
      rw [h0]
      have e1 : f 0 < nI B := by rw [ec]; exact (nI_ltI (by omega) (by omega)).mpr hc
      have e2 : ¬ (1000000 : Int32) ≤ f 0 := by
        rw [ec, show (1000000 : Int32) = nI 1000000 from rfl]
        intro q
        have := (nI_leI (by omega) (by omega)).mp q
        omega
      rw [if_pos e1, am, if_neg e2]
      exact ⟨rfl, fun _ => rfl⟩
    · rw [i2 (by omega)]
      by_cases h : f k < (S k).1
      · rw [if_pos h, if_neg (Int32.not_le.mpr h)]
        exact ⟨rfl, fun _ => rfl⟩
      · rw [if_neg h, if_pos (Int32.not_lt.mp h)]
        exact ⟨i1, fun _ => i2 (by omega)⟩
theorem mx_lsr : ∀ a, a < 31 → ∃ c, c < 31 ∧ lsr (nI a) 10 = nI c ∧ mx0 (nI a - 10) = nI c := by decide +kernel
theorem rt_bw {n k w : Nat} {wo : Int32} {ki se wd : Nat → Int32} {d : Dy} {t : Nat → Int32} (h : RT n wo ki se wd d t) (hk : k < n) : bwC wo n ki se wd d k w = hlF n t k w := by
  unfold bwC hlF hlA
  have r := rt_N h w
  rw [rt_br h w]
  generalize pmN wo n ki se wd w d = D at r
  generalize goN n w t = u at r
  obtain ⟨a, ha, ea⟩ := (r.2.2.2.2.2.2 k hk).2.2.2.2.2.2.1
  obtain ⟨c, hc, e1, e2⟩ := mx_lsr a (by omega)
  have q2 := (r.2.2.2.2.2.2 k hk).2.1
  have r2 := rt_hu (v := mx0 (D.2.2.2.1 k - 10)) r hk (by omega : c ≤ 30) (by rw [q2, ea, e2])
  rw [show lsr (u (6 + k)) 10 = mx0 (D.2.2.2.1 k - 10) by rw [q2, ea, e1, e2], ← rt_br r2 (20 - w)]
theorem hp_am {wo : Int32} {n k : Nat} {ki se wd t : Nat → Int32} {d : Dy} (h : RT n wo ki se wd d t) (hk : k < n) {x y : Int32 × Int32} (h1 : y.1 = x.2) (h2 : y.2 = x.1) : ∀ w, (am (hlF n t k) (fun d => 10 * nI k + nI d) y.1 y.2 w).1 = (hpI wo n ki se wd d k w x).2 ∧ (am (hlF n t k) (fun d => 10 * nI k + nI d) y.1 y.2 w).2 = (hpI wo n ki se wd d k w x).1
  | 0 => ⟨h1, h2⟩
  | w + 1 => by
    obtain ⟨i1, i2⟩ := hp_am h hk h1 h2 w
    rw [am, hpI, rt_bw h hk, i2]
    by_cases hl : hlF n t k w < (hpI wo n ki se wd d k w x).1
    · rw [if_pos hl, if_neg (Int32.not_le.mpr hl)]
      exact ⟨rfl, rfl⟩
    · rw [if_neg hl, if_pos (Int32.not_lt.mp hl)]
      exact ⟨i1, i2⟩
theorem rt_helps {wo : Int32} {n : Nat} {ki se wd t : Nat → Int32} {d : Dy} (h : RT n wo ki se wd d t) : ∀ k, k ≤ n → (hlS n t k).1 = (hpO wo n ki se wd d k).2 ∧ (hlS n t k).2 = (hpO wo n ki se wd d k).1
  | 0, _ => ⟨rfl, by rw [hlS, hpO]; exact (rt_br h 20).symm⟩
  | k + 1, hk => by
    obtain ⟨i1, i2⟩ := rt_helps h k (by omega)
    rw [hlS, hpO]
    exact hp_am h (by omega) i1 i2 10
theorem rt_words {n k a : Nat} {wo : Int32} {ki se wd : Nat → Int32} {d : Dy} {t : Nat → Int32} (h : RT n wo ki se wd d t) (hk : k < n) (ea : t (29 + k) = nI a) (ha : a ≤ 20) : ∀ r q, r + q ≤ 41 → fP (fun r => !decide (12 ≤ nmOf (wdA t k (nI r)) n k)) r q = wdC ki se wd d.2.2.2.1 d.2.2.2.2 d.2.2.1 n k r q
  | 0, _, _ => rfl
  | r + 1, q, hq => by
    have e := rt_nr (rt_wd (x := nI q) h hk ⟨a + q, by omega, by rw [ea, nI_add]⟩) hk
    rw [upd_at] at e
    rw [fP, wdC, e, rt_words h hk ea ha r (q + 1) (by omega)]
    by_cases hl : nmOf (wdA t k (nI q)) n k < 12
    · rw [if_pos hl, decide_eq_false (Int32.not_le.mpr hl)]
      rfl
    · rw [if_neg hl, decide_eq_true (Int32.not_lt.mp hl)]
      rfl
theorem l_bm {z : Int} (h0 : 0 ≤ z) (h1 : z < 9223372036854775808) : z.bmod (2 ^ 64) = z := Int.bmod_eq_of_le (by omega) (by omega)
theorem l_rem {y m : Int64} {a b : Nat} (hy : y.toInt = (a : Int)) (hm : m.toInt = (b : Int)) (ha : a < 9223372036854775808) : (y / m).toInt = ((a / b : Nat) : Int) ∧ (y - y / m * m).toInt = ((a % b : Nat) : Int) := by
  have d1 : a / b ≤ a := Nat.div_le_self a b
  have d2 : a / b * b + a % b = a := Nat.div_add_mod' a b
  have hd : (y / m).toInt = ((a / b : Nat) : Int) := by
    rw [Int64.toInt_div, hy, hm, ← Int.ofNat_tdiv]
    exact l_bm (Int.natCast_nonneg _) (by omega)
  have hu : (y / m * m).toInt = ((a / b * b : Nat) : Int) := by
    rw [Int64.toInt_mul, hd, hm, ← Int.natCast_mul]
    exact l_bm (Int.natCast_nonneg _) (by omega)
  refine ⟨hd, ?_⟩
  rw [Int64.toInt_sub, hy, hu]
  generalize a / b * b = p at d2
  generalize a % b = r at d2
  rw [l_bm (by omega) (by omega)]
  omega
theorem lcg_ok {x : Int64} {a : Nat} (ha : a < 2147483648) (h : x.toInt = (a : Int)) : ∃ b : Nat, b < 2147483648 ∧ (lcg x).toInt = (b : Int) := by
  have e1 : (x * 1103515245 + 12345).toInt = ((a * 1103515245 + 12345 : Nat) : Int) := by
    rw [Int64.toInt_add, Int64.toInt_mul, h, show (1103515245 : Int64).toInt = 1103515245 by decide, show (12345 : Int64).toInt = 12345 by decide, l_bm (z := (a : Int) * 1103515245) (by omega) (by omega), l_bm (by omega) (by omega)]
    omega
  exact ⟨(a * 1103515245 + 12345) % 2147483648, Nat.mod_lt _ (by omega), (l_rem e1 (b := 2147483648) (by decide) (by omega)).2⟩
theorem hgO_ok {x : Int64} {a : Nat} (ha : a < 2147483648) (h : x.toInt = (a : Int)) : ∃ c, c ≤ 30 ∧ hgO x = nI c := by
  have e1 := (l_rem h (m := 65536) (b := 65536) (by decide) (by omega)).1
  have e2 := (l_rem e1 (m := 31) (b := 31) (by decide) (by omega)).2
  refine ⟨a / 65536 % 31, by omega, Int32.toInt.inj ?_⟩
  unfold hgO
  rw [Int64.toInt_toInt32, e2]
  show _ = (Int32.ofNat _).toInt
  rw [Int32.toInt_ofNat_of_lt (by omega)]
  exact Int.bmod_eq_of_le (by omega) (by omega)
theorem wkX_ok {x : Int64} (h : ∃ a : Nat, a < 2147483648 ∧ x.toInt = (a : Int)) : ∀ i, ∃ a : Nat, a < 2147483648 ∧ (wkX x i).toInt = (a : Int)
  | 0 => h
  | i + 1 => by
    obtain ⟨a, ha, ea⟩ := wkX_ok h i
    exact lcg_ok ha ea
theorem rt_wk {wo : Int32} {n : Nat} {ki se wd t : Nat → Int32} {d : Dy} (h : RT n wo ki se wd d t) {x : Int64} (hx : ∃ a : Nat, a < 2147483648 ∧ x.toInt = (a : Int)) : ∀ i, i ≤ n → RT n wo ki se wd (d.1, d.2.1, d.2.2.1, hwC d.2.2.2.1 x i, d.2.2.2.2) (wkA t x i)
  | 0, _ => h
  | i + 1, hi => by
    obtain ⟨a, ha, ea⟩ := wkX_ok hx (i + 1)
    obtain ⟨c, hc, ec⟩ := hgO_ok ha ea
    exact rt_hu (rt_wk h hx i (by omega)) (by omega) hc ec
theorem rt_weeks {wo : Int32} {n : Nat} {ki se wd t : Nat → Int32} {d : Dy} (h : RT n wo ki se wd d t) {x : Int64} (hx : ∃ a : Nat, a < 2147483648 ∧ x.toInt = (a : Int)) : ∀ k, (wkS t n x k).1 = (wsC wo n ki se wd d x k).1 ∧ (wkS t n x k).2 = (wsC wo n ki se wd d x k).2 ∧ ∃ a : Nat, a < 2147483648 ∧ (wkS t n x k).1.toInt = (a : Int)
  | 0 => ⟨rfl, rfl, hx⟩
  | k + 1 => by
    obtain ⟨i1, i2, i3⟩ := rt_weeks h hx k
    refine ⟨by rw [wkS, wsC, i1], ?_, by rw [wkS]; exact wkX_ok i3 n⟩
    have r := rt_br (rt_wk h i3 n (Nat.le_refl n)) 3
    rw [wkS, wsC, ← i1, ← i2, ← r]
set_option maxRecDepth 100000 in
theorem op_stand (l : Launch) (K : KA) (G : GG) (ax : Nat) (ad : Ad) (am : Nat → Nat) (X : XS) (Y : YS) (h : Rel X Y) (x y : Int32) : OPi Rel K l G ax ad am yX5_stand cX5_stand 7 yX6_stand cX6_stand 7 [.int x, .int y] X Y := by
  obtain ⟨⟨⟨wo, mi, bi, la, ch, ki, se, wd, hu, b9⟩, ⟨old, psz, T⟩, np, ns⟩, i0, i1, kp, ⟨f, len, pl, sa, tk9, vl⟩, ⟨wo1, mi1, bi1, la1, ch1, ki1, se1, wd1, hu1, bt1⟩, sg, rf, ab, bl⟩ := X
  obtain ⟨nw, rd, asd, img, kpt, txt, sz, abv, blw, bds, nos, fls, att, bgn, tkn, wrd, vlu, sts, bst⟩ := Y
  obtain ⟨h1, h2, h3, h4, h5, h6⟩ := h
  obtain ⟨n, zn, u, o, a1, a2, a3, a4, a5, a6, a7, a8, a9, b1, b2, b3, b4, b5, b6⟩ := h1
  have e1 : ch = nI n := a3.2.2.2.2.1
  have e2 : ns = nI zn := a7
  have e3 : old = nI o := b3
  have e4 : psz = nI u := b4
  subst e1; subst e2; subst e3; subst e4
  have e5 : nw 22 = nI n := a2
  have rt := rt_of a1 a3 a4 a5
  by_cases c : (inI x 1 60 && inI y 0 1) = true
  · have c2 := (Bool.and_eq_true _ _ ▸ c : inI x 1 60 = true ∧ inI y 0 1 = true)
    obtain ⟨xx, hx1, hxx, ex⟩ := inI_nat (a := 1) (b := 60) (by omega) (by omega) rfl rfl c2.1
    obtain ⟨s1, s2⟩ := am_cls (N := 8) (B := 6 * xx + 1) (f := fun s => brM n xx (upd nw 20 (nI s))) (v := nI) (S := stC n ki se wd xx (mi, bi, la, hu, b9)) (by rw [stC, show (6 : Int32) = nI 6 from rfl, show (1 : Int32) = nI 1 from rfl, pk_mul, nI_add]) (fun q hq => by rw [stC, rt_br (rt_wo rt hq) xx]) (fun q hq => by obtain ⟨c, hc, ec⟩ := brM_nat a1 (upd nw 20 (nI q)) xx; exact ⟨c, by omega, ec⟩) (by omega) 8 (by omega)
    have s2 := s2 (by omega)
    obtain ⟨S8, eS8⟩ : ∃ S8, stC n ki se wd xx (mi, bi, la, hu, b9) 8 = S8 := ⟨_, rfl⟩
    rw [eS8] at s1 s2
    refine ⟨if y = 0 then S8.2 else S8.1, (Int32 × Int32 × Int32 × Int32 × Int32 × (Nat → Int32) × (Nat → Int32) × (Nat → Int32) × (Nat → Int32) × (Nat → Int32)), (Nat → Int32), fun uu => (((wo, mi, bi, la, nI n, ki, se, wd, hu, b9), (nI o, nI u, T), (np, nI zn)), i0, i1, kp, (f, len, pl, sa, tk9, vl), uu, sg, rf, ab, bl), fun vv => (nw, rd, vv, img, kpt, txt, sz, abv, blw, bds, nos, fls, att, bgn, tkn, wrd, vlu, sts, bst), ?_, ?_, fun _ _ => ⟨⟨n, zn, u, o, a1, a2, a3, a4, a5, a6, rfl, a8, a9, b1, b2, rfl, rfl, b5, b6⟩, h2, h3, h4, h5, h6⟩⟩
    · rw [← eS8]; exact LC.ofE (wb := [xO G ax (ad 11 0) (ad 11 1) (ad 11 2) (ad 9) (ad 10) (ad 11 3) (ad 11 4) ab bl, oS G (ad 11 0) (ad 0) (ad 1) (ad 2), tW G (ad 0) wo mi bi la (nI n) ki se wd hu b9, tW G (ad 10) wo1 mi1 bi1 la1 ch1 ki1 se1 wd1 hu1 bt1]) (Fb := fun uu : Int32 × Int32 × Int32 × Int32 × Int32 × (Nat → Int32) × (Nat → Int32) × (Nat → Int32) × (Nat → Int32) × (Nat → Int32) => [xO G ax (ad 11 0) (ad 11 1) (ad 11 2) (ad 9) (ad 10) (ad 11 3) (ad 11 4) ab bl, oS G (ad 11 0) (ad 0) (ad 1) (ad 2), tW G (ad 0) wo mi bi la (nI n) ki se wd hu b9, tW G (ad 10) uu.1 uu.2.1 uu.2.2.1 uu.2.2.2.1 uu.2.2.2.2.1 uu.2.2.2.2.2.1 uu.2.2.2.2.2.2.1 uu.2.2.2.2.2.2.2.1 uu.2.2.2.2.2.2.2.2.1 uu.2.2.2.2.2.2.2.2.2]) [0, 1, 2, 16] (c_X5_stand_ok l G ax (ad 11 0) (ad 0) (ad 1) (ad 2) (ad 11 1) (ad 11 2) (ad 9) (ad 10) (ad 11 3) (ad 11 4) x xx ex y ab bl wo mi bi la n ki se wd hu b9 wo1 mi1 bi1 la1 ch1 ki1 se1 wd1 hu1 bt1 a1 c2.1 c2.2 hxx) (by decide) (by decide) rfl (fun _ => rfl) rfl rfl (fun _ => rfl) (fun _ => rfl)
    · have hc := c_X6_stand l G am x y nw rd asd img kpt txt sz abv blw bds nos fls att bgn tkn wrd vlu sts bst n a2 a1
      simp only [eq_true c2, if_true] at hc
      rw [show x.toNatClampNeg = xx by rw [ex]; exact nI_clamp (by omega)] at hc
      rw [s1, s2] at hc
      exact LC.ofE (wb := [mY G am (nw, rd, asd, img, kpt, txt, sz, abv, blw, bds, nos, fls, att, bgn, tkn, wrd, vlu, sts, bst)]) (Fb := fun vv : Nat → Int32 => [mY G am (nw, rd, vv, img, kpt, txt, sz, abv, blw, bds, nos, fls, att, bgn, tkn, wrd, vlu, sts, bst)]) [0] hc (by decide) (by decide) (flat1 _) (fun _ => flat1 _) rfl rfl (fun _ => rfl) (fun _ => rfl)
  · have cc : ¬ (inI x 1 60 = true ∧ inI y 0 1 = true) := fun q => c (by rw [q.1, q.2]; rfl)
    have c := Bool.eq_false_iff.mpr c
    refine ⟨-2, Unit, (Nat → Int32), fun uu => (((wo, mi, bi, la, nI n, ki, se, wd, hu, b9), (nI o, nI u, T), (np, nI zn)), i0, i1, kp, (f, len, pl, sa, tk9, vl), (wo1, mi1, bi1, la1, ch1, ki1, se1, wd1, hu1, bt1), sg, upd rf 0 (rf 0 + 1), ab, bl), fun vv => (nw, rd, vv, img, kpt, txt, sz, abv, blw, bds + 1, nos, fls, att, bgn, tkn, wrd, vlu, sts, bst), ?_, ?_, fun _ _ => ⟨⟨n, zn, u, o, a1, a2, a3, a4, a5, a6, rfl, a8, a9, b1, b2, rfl, rfl, b5, b6⟩, h2, h3, rf_0 h4, h5, h6⟩⟩
    · exact LC.ofT (wb := [xO G ax (ad 11 0) (ad 11 1) (ad 11 2) (ad 9) (ad 10) (ad 11 3) (ad 11 4) ab bl, aW G (ad 11 4) 3 rf]) (wb' := [xO G ax (ad 11 0) (ad 11 1) (ad 11 2) (ad 9) (ad 10) (ad 11 3) (ad 11 4) ab bl, aW G (ad 11 4) 3 (upd rf 0 (rf 0 + 1))]) [0, 18] (c_X5_stand_bad l G ax (ad 11 0) (ad 11 1) (ad 11 2) (ad 9) (ad 10) (ad 11 3) (ad 11 4) x y ab bl rf c) (by decide) (by decide) rfl rfl rfl rfl rfl rfl
    · have hc := c_X6_stand l G am x y nw rd asd img kpt txt sz abv blw bds nos fls att bgn tkn wrd vlu sts bst n a2 a1
      simp only [eq_false cc, if_false] at hc
      exact LC.ofE (wb := [mY G am (nw, rd, asd, img, kpt, txt, sz, abv, blw, bds, nos, fls, att, bgn, tkn, wrd, vlu, sts, bst)]) (Fb := fun vv : Nat → Int32 => [mY G am (nw, rd, vv, img, kpt, txt, sz, abv, blw, bds + 1, nos, fls, att, bgn, tkn, wrd, vlu, sts, bst)]) [0] hc (by decide) (by decide) (flat1 _) (fun _ => flat1 _) rfl rfl (fun _ => rfl) (fun _ => rfl)
set_option maxRecDepth 100000 in
theorem op_helps (l : Launch) (K : KA) (G : GG) (ax : Nat) (ad : Ad) (am : Nat → Nat) (X : XS) (Y : YS) (h : Rel X Y) : OPi Rel K l G ax ad am yX5_helps cX5_helps 6 yX6_helps cX6_helps 6 [] X Y := by
  obtain ⟨⟨⟨wo, mi, bi, la, ch, ki, se, wd, hu, b9⟩, ⟨old, psz, T⟩, np, ns⟩, i0, i1, kp, ⟨f, len, pl, sa, tk9, vl⟩, ⟨wo1, mi1, bi1, la1, ch1, ki1, se1, wd1, hu1, bt1⟩, sg, rf, ab, bl⟩ := X
  obtain ⟨nw, rd, asd, img, kpt, txt, sz, abv, blw, bds, nos, fls, att, bgn, tkn, wrd, vlu, sts, bst⟩ := Y
  obtain ⟨h1, h2, h3, h4, h5, h6⟩ := h
  obtain ⟨n, zn, u, o, a1, a2, a3, a4, a5, a6, a7, a8, a9, b1, b2, b3, b4, b5, b6⟩ := h1
  have e1 : ch = nI n := a3.2.2.2.2.1
  have e2 : ns = nI zn := a7
  have e3 : old = nI o := b3
  have e4 : psz = nI u := b4
  subst e1; subst e2; subst e3; subst e4
  have e5 : nw 22 = nI n := a2
  have rt := rt_of a1 a3 a4 a5
  have eh : (hlS n nw n).1 = (hpO wo n ki se wd (mi, bi, la, hu, b9) n).2 := (rt_helps rt n (Nat.le_refl n)).1
  obtain ⟨S8, eS8⟩ : ∃ S8, hpO wo n ki se wd (mi, bi, la, hu, b9) n = S8 := ⟨_, rfl⟩
  rw [eS8] at eh
  refine ⟨S8.2, (Int32 × Int32 × Int32 × Int32 × Int32 × (Nat → Int32) × (Nat → Int32) × (Nat → Int32) × (Nat → Int32) × (Nat → Int32)), (Nat → Int32), fun uu => (((wo, mi, bi, la, nI n, ki, se, wd, hu, b9), (nI o, nI u, T), (np, nI zn)), i0, i1, kp, (f, len, pl, sa, tk9, vl), uu, sg, rf, ab, bl), fun vv => (nw, rd, vv, img, kpt, txt, sz, abv, blw, bds, nos, fls, att, bgn, tkn, wrd, vlu, sts, bst), ?_, ?_, fun _ _ => ⟨⟨n, zn, u, o, a1, a2, a3, a4, a5, a6, rfl, a8, a9, b1, b2, rfl, rfl, b5, b6⟩, h2, h3, h4, h5, h6⟩⟩
  · rw [← eS8]; exact LC.ofE (wb := [xO G ax (ad 11 0) (ad 11 1) (ad 11 2) (ad 9) (ad 10) (ad 11 3) (ad 11 4) ab bl, oS G (ad 11 0) (ad 0) (ad 1) (ad 2), tW G (ad 0) wo mi bi la (nI n) ki se wd hu b9, tW G (ad 10) wo1 mi1 bi1 la1 ch1 ki1 se1 wd1 hu1 bt1]) (Fb := fun uu : Int32 × Int32 × Int32 × Int32 × Int32 × (Nat → Int32) × (Nat → Int32) × (Nat → Int32) × (Nat → Int32) × (Nat → Int32) => [xO G ax (ad 11 0) (ad 11 1) (ad 11 2) (ad 9) (ad 10) (ad 11 3) (ad 11 4) ab bl, oS G (ad 11 0) (ad 0) (ad 1) (ad 2), tW G (ad 0) wo mi bi la (nI n) ki se wd hu b9, tW G (ad 10) uu.1 uu.2.1 uu.2.2.1 uu.2.2.2.1 uu.2.2.2.2.1 uu.2.2.2.2.2.1 uu.2.2.2.2.2.2.1 uu.2.2.2.2.2.2.2.1 uu.2.2.2.2.2.2.2.2.1 uu.2.2.2.2.2.2.2.2.2]) [0, 1, 2, 16] (c_X5_helps l G ax (ad 11 0) (ad 0) (ad 1) (ad 2) (ad 11 1) (ad 11 2) (ad 9) (ad 10) (ad 11 3) (ad 11 4) ab bl wo mi bi la n ki se wd hu b9 wo1 mi1 bi1 la1 ch1 ki1 se1 wd1 hu1 bt1 a1) (by decide) (by decide) rfl (fun _ => rfl) rfl rfl (fun _ => rfl) (fun _ => rfl)
  · have hc := c_X6_helps l G am  nw rd asd img kpt txt sz abv blw bds nos fls att bgn tkn wrd vlu sts bst n a2 a1
    rw [eh] at hc
    exact LC.ofE (wb := [mY G am (nw, rd, asd, img, kpt, txt, sz, abv, blw, bds, nos, fls, att, bgn, tkn, wrd, vlu, sts, bst)]) (Fb := fun vv : Nat → Int32 => [mY G am (nw, rd, vv, img, kpt, txt, sz, abv, blw, bds, nos, fls, att, bgn, tkn, wrd, vlu, sts, bst)]) [0] hc (by decide) (by decide) (flat1 _) (fun _ => flat1 _) rfl rfl (fun _ => rfl) (fun _ => rfl)
set_option maxRecDepth 100000 in
theorem op_say (l : Launch) (K : KA) (G : GG) (ax : Nat) (ad : Ad) (am : Nat → Nat) (X : XS) (Y : YS) (h : Rel X Y) : OPi Rel K l G ax ad am yX5_say cX5_say 5 yX6_say cX6_say 5 [] X Y := by
  obtain ⟨⟨⟨wo, mi, bi, la, ch, ki, se, wd, hu, b9⟩, ⟨old, psz, T⟩, np, ns⟩, i0, i1, kp, ⟨f, len, pl, sa, tk9, vl⟩, ⟨wo1, mi1, bi1, la1, ch1, ki1, se1, wd1, hu1, bt1⟩, sg, rf, ab, bl⟩ := X
  obtain ⟨nw, rd, asd, img, kpt, txt, sz, abv, blw, bds, nos, fls, att, bgn, tkn, wrd, vlu, sts, bst⟩ := Y
  obtain ⟨h1, h2, h3, h4, h5, h6⟩ := h
  obtain ⟨n, zn, u, o, a1, a2, a3, a4, a5, a6, a7, a8, a9, b1, b2, b3, b4, b5, b6⟩ := h1
  have e1 : ch = nI n := a3.2.2.2.2.1
  have e2 : ns = nI zn := a7
  have e3 : old = nI o := b3
  have e4 : psz = nI u := b4
  subst e1; subst e2; subst e3; subst e4
  have e5 : nw 22 = nI n := a2
  have rt := rt_of a1 a3 a4 a5
  obtain ⟨s1, -⟩ := am_cls (N := n) (B := 121) (f := fun s => brM n 20 (wdA nw s 10)) (v := nI) (S := syC wo n ki se wd (mi, bi, la, hu, b9)) rfl (fun q hq => by obtain ⟨a, ha, ea⟩ := (a5 q hq).2; rw [syC, rt_br (rt_wd (x := 10) rt hq ⟨a + 10, by omega, by rw [ea, show (10 : Int32) = nI 10 from rfl, nI_add]⟩) 20]) (fun q hq => by obtain ⟨c, hc, ec⟩ := brM_nat a1 (wdA nw q 10) 20; exact ⟨c, by omega, ec⟩) (by omega) n (Nat.le_refl n)
  obtain ⟨S8, eS8⟩ : ∃ S8, syC wo n ki se wd (mi, bi, la, hu, b9) n = S8 := ⟨_, rfl⟩
  rw [eS8] at s1
  refine ⟨S8.2, (Int32 × Int32 × Int32 × Int32 × Int32 × (Nat → Int32) × (Nat → Int32) × (Nat → Int32) × (Nat → Int32) × (Nat → Int32)), (Nat → Int32), fun uu => (((wo, mi, bi, la, nI n, ki, se, wd, hu, b9), (nI o, nI u, T), (np, nI zn)), i0, i1, kp, (f, len, pl, sa, tk9, vl), uu, sg, rf, ab, bl), fun vv => (nw, rd, vv, img, kpt, txt, sz, abv, blw, bds, nos, fls, att, bgn, tkn, wrd, vlu, sts, bst), ?_, ?_, fun _ _ => ⟨⟨n, zn, u, o, a1, a2, a3, a4, a5, a6, rfl, a8, a9, b1, b2, rfl, rfl, b5, b6⟩, h2, h3, h4, h5, h6⟩⟩
  · rw [← eS8]; exact LC.ofE (wb := [xO G ax (ad 11 0) (ad 11 1) (ad 11 2) (ad 9) (ad 10) (ad 11 3) (ad 11 4) ab bl, oS G (ad 11 0) (ad 0) (ad 1) (ad 2), tW G (ad 0) wo mi bi la (nI n) ki se wd hu b9, tW G (ad 10) wo1 mi1 bi1 la1 ch1 ki1 se1 wd1 hu1 bt1]) (Fb := fun uu : Int32 × Int32 × Int32 × Int32 × Int32 × (Nat → Int32) × (Nat → Int32) × (Nat → Int32) × (Nat → Int32) × (Nat → Int32) => [xO G ax (ad 11 0) (ad 11 1) (ad 11 2) (ad 9) (ad 10) (ad 11 3) (ad 11 4) ab bl, oS G (ad 11 0) (ad 0) (ad 1) (ad 2), tW G (ad 0) wo mi bi la (nI n) ki se wd hu b9, tW G (ad 10) uu.1 uu.2.1 uu.2.2.1 uu.2.2.2.1 uu.2.2.2.2.1 uu.2.2.2.2.2.1 uu.2.2.2.2.2.2.1 uu.2.2.2.2.2.2.2.1 uu.2.2.2.2.2.2.2.2.1 uu.2.2.2.2.2.2.2.2.2]) [0, 1, 2, 16] (c_X5_say l G ax (ad 11 0) (ad 0) (ad 1) (ad 2) (ad 11 1) (ad 11 2) (ad 9) (ad 10) (ad 11 3) (ad 11 4) ab bl wo mi bi la n ki se wd hu b9 wo1 mi1 bi1 la1 ch1 ki1 se1 wd1 hu1 bt1 a1) (by decide) (by decide) rfl (fun _ => rfl) rfl rfl (fun _ => rfl) (fun _ => rfl)
  · have hc := c_X6_say l G am  nw rd asd img kpt txt sz abv blw bds nos fls att bgn tkn wrd vlu sts bst n a2 a1
    rw [s1] at hc
    exact LC.ofE (wb := [mY G am (nw, rd, asd, img, kpt, txt, sz, abv, blw, bds, nos, fls, att, bgn, tkn, wrd, vlu, sts, bst)]) (Fb := fun vv : Nat → Int32 => [mY G am (nw, rd, vv, img, kpt, txt, sz, abv, blw, bds, nos, fls, att, bgn, tkn, wrd, vlu, sts, bst)]) [0] hc (by decide) (by decide) (flat1 _) (fun _ => flat1 _) rfl rfl (fun _ => rfl) (fun _ => rfl)
set_option maxRecDepth 100000 in
theorem op_words (l : Launch) (K : KA) (G : GG) (ax : Nat) (ad : Ad) (am : Nat → Nat) (X : XS) (Y : YS) (h : Rel X Y) (x : Int32) : OPi Rel K l G ax ad am yX5_words cX5_words 3 yX6_words cX6_words 3 [.int x] X Y := by
  obtain ⟨⟨⟨wo, mi, bi, la, ch, ki, se, wd, hu, b9⟩, ⟨old, psz, T⟩, np, ns⟩, i0, i1, kp, ⟨f, len, pl, sa, tk9, vl⟩, ⟨wo1, mi1, bi1, la1, ch1, ki1, se1, wd1, hu1, bt1⟩, sg, rf, ab, bl⟩ := X
  obtain ⟨nw, rd, asd, img, kpt, txt, sz, abv, blw, bds, nos, fls, att, bgn, tkn, wrd, vlu, sts, bst⟩ := Y
  obtain ⟨h1, h2, h3, h4, h5, h6⟩ := h
  obtain ⟨n, zn, u, o, a1, a2, a3, a4, a5, a6, a7, a8, a9, b1, b2, b3, b4, b5, b6⟩ := h1
  have e1 : ch = nI n := a3.2.2.2.2.1
  have e2 : ns = nI zn := a7
  have e3 : old = nI o := b3
  have e4 : psz = nI u := b4
  subst e1; subst e2; subst e3; subst e4
  have e5 : nw 22 = nI n := a2
  have rt := rt_of a1 a3 a4 a5
  by_cases c : inI x 0 (nI n - 1) = true
  · obtain ⟨k, hk, ex⟩ := inI_child rfl a1 c
    obtain ⟨a, ha, ea⟩ := (a5 k hk).2
    have ew : fP (fun r => !decide (12 ≤ nmOf (wdA nw k (nI r)) n k)) 41 0 = wdC ki se wd hu b9 la n k 41 0 := rt_words (d := (mi, bi, la, hu, b9)) rt hk ea ha 41 0 (by omega)
    refine ⟨wdC ki se wd hu b9 la n k 41 0, (Nat → Int32), (Nat → Int32), fun uu => (((wo, mi, bi, la, nI n, ki, se, wd, hu, b9), (nI o, nI u, T), (np, nI zn)), i0, i1, kp, (f, len, pl, sa, tk9, vl), (wo, mi, bi, la, nI n, ki, se, uu, hu, b9), sg, rf, ab, bl), fun vv => (nw, rd, vv, img, kpt, txt, sz, abv, blw, bds, nos, fls, att, bgn, tkn, wrd, vlu, sts, bst), ?_, ?_, fun _ _ => ⟨⟨n, zn, u, o, a1, a2, a3, a4, a5, a6, rfl, a8, a9, b1, b2, rfl, rfl, b5, b6⟩, h2, h3, h4, h5, h6⟩⟩
    · exact LC.ofE (wb := [xO G ax (ad 11 0) (ad 11 1) (ad 11 2) (ad 9) (ad 10) (ad 11 3) (ad 11 4) ab bl, oS G (ad 11 0) (ad 0) (ad 1) (ad 2), tW G (ad 0) wo mi bi la (nI n) ki se wd hu b9, tW G (ad 10) wo1 mi1 bi1 la1 ch1 ki1 se1 wd1 hu1 bt1]) (Fb := fun uu : (Nat → Int32) => [xO G ax (ad 11 0) (ad 11 1) (ad 11 2) (ad 9) (ad 10) (ad 11 3) (ad 11 4) ab bl, oS G (ad 11 0) (ad 0) (ad 1) (ad 2), tW G (ad 0) wo mi bi la (nI n) ki se wd hu b9, tW G (ad 10) wo mi bi la (nI n) ki se uu hu b9]) [0, 1, 2, 16] (c_X5_words_ok l G ax (ad 11 0) (ad 0) (ad 1) (ad 2) (ad 11 1) (ad 11 2) (ad 9) (ad 10) (ad 11 3) (ad 11 4) x k ex ab bl wo mi bi la n ki se wd hu b9 wo1 mi1 bi1 la1 ch1 ki1 se1 wd1 hu1 bt1 a1 c hk) (by decide) (by decide) rfl (fun _ => rfl) rfl rfl (fun _ => rfl) (fun _ => rfl)
    · have hc := c_X6_words l G am x nw rd asd img kpt txt sz abv blw bds nos fls att bgn tkn wrd vlu sts bst n a2 a1
      simp only [e5, c, if_true] at hc
      rw [show x.toNatClampNeg = k by rw [ex]; exact nI_clamp (by omega), ew] at hc
      exact LC.ofE (wb := [mY G am (nw, rd, asd, img, kpt, txt, sz, abv, blw, bds, nos, fls, att, bgn, tkn, wrd, vlu, sts, bst)]) (Fb := fun vv : Nat → Int32 => [mY G am (nw, rd, vv, img, kpt, txt, sz, abv, blw, bds, nos, fls, att, bgn, tkn, wrd, vlu, sts, bst)]) [0] hc (by decide) (by decide) (flat1 _) (fun _ => flat1 _) rfl rfl (fun _ => rfl) (fun _ => rfl)
  · have c := Bool.eq_false_iff.mpr c
    refine ⟨-2, Unit, (Nat → Int32), fun uu => (((wo, mi, bi, la, nI n, ki, se, wd, hu, b9), (nI o, nI u, T), (np, nI zn)), i0, i1, kp, (f, len, pl, sa, tk9, vl), (wo1, mi1, bi1, la1, ch1, ki1, se1, wd1, hu1, bt1), sg, upd rf 0 (rf 0 + 1), ab, bl), fun vv => (nw, rd, vv, img, kpt, txt, sz, abv, blw, bds + 1, nos, fls, att, bgn, tkn, wrd, vlu, sts, bst), ?_, ?_, fun _ _ => ⟨⟨n, zn, u, o, a1, a2, a3, a4, a5, a6, rfl, a8, a9, b1, b2, rfl, rfl, b5, b6⟩, h2, h3, rf_0 h4, h5, h6⟩⟩
    · exact LC.ofT (wb := [xO G ax (ad 11 0) (ad 11 1) (ad 11 2) (ad 9) (ad 10) (ad 11 3) (ad 11 4) ab bl, oS G (ad 11 0) (ad 0) (ad 1) (ad 2), tW G (ad 0) wo mi bi la (nI n) ki se wd hu b9, aW G (ad 11 4) 3 rf]) (wb' := [xO G ax (ad 11 0) (ad 11 1) (ad 11 2) (ad 9) (ad 10) (ad 11 3) (ad 11 4) ab bl, oS G (ad 11 0) (ad 0) (ad 1) (ad 2), tW G (ad 0) wo mi bi la (nI n) ki se wd hu b9, aW G (ad 11 4) 3 (upd rf 0 (rf 0 + 1))]) [0, 1, 2, 18] (c_X5_words_bad l G ax (ad 11 0) (ad 0) (ad 1) (ad 2) (ad 11 1) (ad 11 2) (ad 9) (ad 10) (ad 11 3) (ad 11 4) x ab bl wo mi bi la n ki se wd hu b9 rf c) (by decide) (by decide) rfl rfl rfl rfl rfl rfl
    · have hc := c_X6_words l G am x nw rd asd img kpt txt sz abv blw bds nos fls att bgn tkn wrd vlu sts bst n a2 a1
      simp only [e5, c, Bool.false_eq_true, if_false] at hc
      exact LC.ofE (wb := [mY G am (nw, rd, asd, img, kpt, txt, sz, abv, blw, bds, nos, fls, att, bgn, tkn, wrd, vlu, sts, bst)]) (Fb := fun vv : Nat → Int32 => [mY G am (nw, rd, vv, img, kpt, txt, sz, abv, blw, bds + 1, nos, fls, att, bgn, tkn, wrd, vlu, sts, bst)]) [0] hc (by decide) (by decide) (flat1 _) (fun _ => flat1 _) rfl rfl (fun _ => rfl) (fun _ => rfl)
set_option maxRecDepth 100000 in
theorem op_weeks (l : Launch) (K : KA) (G : GG) (ax : Nat) (ad : Ad) (am : Nat → Nat) (X : XS) (Y : YS) (h : Rel X Y) (x y : Int32) : OPi Rel K l G ax ad am yX5_weeks cX5_weeks 8 yX6_weeks cX6_weeks 8 [.int x, .int y] X Y := by
  obtain ⟨⟨⟨wo, mi, bi, la, ch, ki, se, wd, hu, b9⟩, ⟨old, psz, T⟩, np, ns⟩, i0, i1, kp, ⟨f, len, pl, sa, tk9, vl⟩, ⟨wo1, mi1, bi1, la1, ch1, ki1, se1, wd1, hu1, bt1⟩, sg, rf, ab, bl⟩ := X
  obtain ⟨nw, rd, asd, img, kpt, txt, sz, abv, blw, bds, nos, fls, att, bgn, tkn, wrd, vlu, sts, bst⟩ := Y
  obtain ⟨h1, h2, h3, h4, h5, h6⟩ := h
  obtain ⟨n, zn, u, o, a1, a2, a3, a4, a5, a6, a7, a8, a9, b1, b2, b3, b4, b5, b6⟩ := h1
  have e1 : ch = nI n := a3.2.2.2.2.1
  have e2 : ns = nI zn := a7
  have e3 : old = nI o := b3
  have e4 : psz = nI u := b4
  subst e1; subst e2; subst e3; subst e4
  have e5 : nw 22 = nI n := a2
  have rt := rt_of a1 a3 a4 a5
  by_cases c : (inI x 0 999999 && inI y 0 60) = true
  · have c2 := (Bool.and_eq_true _ _ ▸ c : inI x 0 999999 = true ∧ inI y 0 60 = true)
    obtain ⟨yy, -, hyy, ey⟩ := inI_nat (a := 0) (b := 60) (by omega) (by omega) rfl rfl c2.2
    obtain ⟨xx, -, hxx, ex⟩ := inI_nat (a := 0) (b := 999999) (by omega) (by omega) rfl rfl c2.1
    have ew : (wkS nw n x.toInt64 yy).2 = (wsC wo n ki se wd (mi, bi, la, hu, b9) x.toInt64 yy).2 := (rt_weeks rt (x := x.toInt64) ⟨xx, by omega, by rw [Int32.toInt_toInt64, ex]; exact Int32.toInt_ofNat_of_lt (by omega)⟩ yy).2.1
    obtain ⟨S8, eS8⟩ : ∃ S8, wsC wo n ki se wd (mi, bi, la, hu, b9) x.toInt64 yy = S8 := ⟨_, rfl⟩
    rw [eS8] at ew
    refine ⟨S8.2, (Int32 × Int32 × Int32 × Int32 × Int32 × (Nat → Int32) × (Nat → Int32) × (Nat → Int32) × (Nat → Int32) × (Nat → Int32)), (Nat → Int32), fun uu => (((wo, mi, bi, la, nI n, ki, se, wd, hu, b9), (nI o, nI u, T), (np, nI zn)), i0, i1, kp, (f, len, pl, sa, tk9, vl), uu, sg, rf, ab, bl), fun vv => (nw, rd, vv, img, kpt, txt, sz, abv, blw, bds, nos, fls, att, bgn, tkn, wrd, vlu, sts, bst), ?_, ?_, fun _ _ => ⟨⟨n, zn, u, o, a1, a2, a3, a4, a5, a6, rfl, a8, a9, b1, b2, rfl, rfl, b5, b6⟩, h2, h3, h4, h5, h6⟩⟩
    · rw [← eS8]; exact LC.ofE (wb := [xO G ax (ad 11 0) (ad 11 1) (ad 11 2) (ad 9) (ad 10) (ad 11 3) (ad 11 4) ab bl, oS G (ad 11 0) (ad 0) (ad 1) (ad 2), tW G (ad 0) wo mi bi la (nI n) ki se wd hu b9, tW G (ad 10) wo1 mi1 bi1 la1 ch1 ki1 se1 wd1 hu1 bt1]) (Fb := fun uu : Int32 × Int32 × Int32 × Int32 × Int32 × (Nat → Int32) × (Nat → Int32) × (Nat → Int32) × (Nat → Int32) × (Nat → Int32) => [xO G ax (ad 11 0) (ad 11 1) (ad 11 2) (ad 9) (ad 10) (ad 11 3) (ad 11 4) ab bl, oS G (ad 11 0) (ad 0) (ad 1) (ad 2), tW G (ad 0) wo mi bi la (nI n) ki se wd hu b9, tW G (ad 10) uu.1 uu.2.1 uu.2.2.1 uu.2.2.2.1 uu.2.2.2.2.1 uu.2.2.2.2.2.1 uu.2.2.2.2.2.2.1 uu.2.2.2.2.2.2.2.1 uu.2.2.2.2.2.2.2.2.1 uu.2.2.2.2.2.2.2.2.2]) [0, 1, 2, 16] (c_X5_weeks_ok l G ax (ad 11 0) (ad 0) (ad 1) (ad 2) (ad 11 1) (ad 11 2) (ad 9) (ad 10) (ad 11 3) (ad 11 4) x y yy ey ab bl wo mi bi la n ki se wd hu b9 wo1 mi1 bi1 la1 ch1 ki1 se1 wd1 hu1 bt1 a1 c2.1 c2.2 hyy) (by decide) (by decide) rfl (fun _ => rfl) rfl rfl (fun _ => rfl) (fun _ => rfl)
    · have hc := c_X6_weeks l G am x y nw rd asd img kpt txt sz abv blw bds nos fls att bgn tkn wrd vlu sts bst n a2 a1
      simp only [eq_true c2, if_true] at hc
      rw [show y.toNatClampNeg = yy by rw [ey]; exact nI_clamp (by omega), ew] at hc
      exact LC.ofE (wb := [mY G am (nw, rd, asd, img, kpt, txt, sz, abv, blw, bds, nos, fls, att, bgn, tkn, wrd, vlu, sts, bst)]) (Fb := fun vv : Nat → Int32 => [mY G am (nw, rd, vv, img, kpt, txt, sz, abv, blw, bds, nos, fls, att, bgn, tkn, wrd, vlu, sts, bst)]) [0] hc (by decide) (by decide) (flat1 _) (fun _ => flat1 _) rfl rfl (fun _ => rfl) (fun _ => rfl)
  · have cc : ¬ (inI x 0 999999 = true ∧ inI y 0 60 = true) := fun q => c (by rw [q.1, q.2]; rfl)
    have c := Bool.eq_false_iff.mpr c
    refine ⟨-2, Unit, (Nat → Int32), fun uu => (((wo, mi, bi, la, nI n, ki, se, wd, hu, b9), (nI o, nI u, T), (np, nI zn)), i0, i1, kp, (f, len, pl, sa, tk9, vl), (wo1, mi1, bi1, la1, ch1, ki1, se1, wd1, hu1, bt1), sg, upd rf 0 (rf 0 + 1), ab, bl), fun vv => (nw, rd, vv, img, kpt, txt, sz, abv, blw, bds + 1, nos, fls, att, bgn, tkn, wrd, vlu, sts, bst), ?_, ?_, fun _ _ => ⟨⟨n, zn, u, o, a1, a2, a3, a4, a5, a6, rfl, a8, a9, b1, b2, rfl, rfl, b5, b6⟩, h2, h3, rf_0 h4, h5, h6⟩⟩
    · exact LC.ofT (wb := [xO G ax (ad 11 0) (ad 11 1) (ad 11 2) (ad 9) (ad 10) (ad 11 3) (ad 11 4) ab bl, aW G (ad 11 4) 3 rf]) (wb' := [xO G ax (ad 11 0) (ad 11 1) (ad 11 2) (ad 9) (ad 10) (ad 11 3) (ad 11 4) ab bl, aW G (ad 11 4) 3 (upd rf 0 (rf 0 + 1))]) [0, 18] (c_X5_weeks_bad l G ax (ad 11 0) (ad 11 1) (ad 11 2) (ad 9) (ad 10) (ad 11 3) (ad 11 4) x y ab bl rf c) (by decide) (by decide) rfl rfl rfl rfl rfl rfl
    · have hc := c_X6_weeks l G am x y nw rd asd img kpt txt sz abv blw bds nos fls att bgn tkn wrd vlu sts bst n a2 a1
      simp only [eq_false cc, if_false] at hc
      exact LC.ofE (wb := [mY G am (nw, rd, asd, img, kpt, txt, sz, abv, blw, bds, nos, fls, att, bgn, tkn, wrd, vlu, sts, bst)]) (Fb := fun vv : Nat → Int32 => [mY G am (nw, rd, vv, img, kpt, txt, sz, abv, blw, bds + 1, nos, fls, att, bgn, tkn, wrd, vlu, sts, bst)]) [0] hc (by decide) (by decide) (flat1 _) (fun _ => flat1 _) rfl rfl (fun _ => rfl) (fun _ => rfl)

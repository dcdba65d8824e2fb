theorem b_63 : ∀ i, i < 32 → bt 63 i = decide (i < 6) := by decide +kernel
theorem ko_bt {np nw : Nat → Int32} {z : Nat} (a9 : ∀ j, j < 7 * z → np j = nw (36 + j) ∧ ∃ a, a ≤ 60 ∧ nw (36 + j) = nI a) (x : Int32) {i : Nat} (hi : i < 32) : ∀ j, j ≤ z → bt (koC np x j) i = (decide (i < 6) && ksM nw x (nI i) j)
  | 0, _ => by rw [koC, ksM, Bool.and_true]; exact b_63 i hi
  | j + 1, hj => by
    have ih := ko_bt a9 x hi j (by omega)
    have g : ∀ q, q < 7 → np (j * 7 + q) = nw (36 + 7 * j + q) ∧ ∃ a, a ≤ 60 ∧ nw (36 + 7 * j + q) = nI a := fun q hq => by
      have := a9 (j * 7 + q) (by omega)
      rw [show 36 + (j * 7 + q) = 36 + 7 * j + q by omega] at this
      exact this
    have g0 : np (j * 7) = nw (36 + 7 * j) := (g 0 (by omega)).1
    rw [koC, ksM, g0]
    by_cases e : nw (36 + 7 * j) = x
    · obtain ⟨e1, a, ha, ea⟩ := g 1 (by omega)
      obtain ⟨e2, b, hb, eb⟩ := g 2 (by omega)
      obtain ⟨e3, d, hd, ed⟩ := g 3 (by omega)
      rw [if_pos e, b_and, ih, ksC, btS_M, btM_bt hi 6 (by omega), decide_eq_true e, e1, e2, e3, (g 4 (by omega)).1, (g 5 (by omega)).1, (g 6 (by omega)).1, ea, eb, ed, nr_M (by omega) (by omega) (by omega)]
      cases decide (i < 6) <;> simp
    · rw [if_neg e, ih, decide_eq_false e, Bool.not_false, Bool.true_or, Bool.and_true]
theorem ko_M {np nw : Nat → Int32} {z : Nat} (a9 : ∀ j, j < 7 * z → np j = nw (36 + j) ∧ ∃ a, a ≤ 60 ∧ nw (36 + j) = nI a) (x : Int32) : koC np x z = koM nw z x := by
  apply b_ext
  intro i hi
  rw [ko_bt a9 x hi z (Nat.le_refl z), koM, btM_bt hi 6 (by omega)]
def cntI (p : Nat → Bool) : Nat → Int32
  | 0 => 0
  | j + 1 => cntI p j + (if p j then 1 else 0)
theorem alC_cnt (set h t w b l : Int32) (i : Nat) : ∀ k, alC set h t w b l i k = cntI (alT set h t w b l i) k
  | 0 => rfl
  | k + 1 => by rw [alC, cntI, alC_cnt set h t w b l i k]
theorem cnt_all : ∀ b0 b1 b2 b3 b4 b5 : Bool, ∃ c, c < 7 ∧ bcI ((((((0 ||| (if b0 then (1 : Int32) <<< (nI 0 &&& 31) else 0)) ||| (if b1 then (1 : Int32) <<< (nI 1 &&& 31) else 0)) ||| (if b2 then (1 : Int32) <<< (nI 2 &&& 31) else 0)) ||| (if b3 then (1 : Int32) <<< (nI 3 &&& 31) else 0)) ||| (if b4 then (1 : Int32) <<< (nI 4 &&& 31) else 0)) ||| (if b5 then (1 : Int32) <<< (nI 5 &&& 31) else 0)) = nI c ∧ ((((((0 : Int32) + (if b0 then 1 else 0)) + (if b1 then 1 else 0)) + (if b2 then 1 else 0)) + (if b3 then 1 else 0)) + (if b4 then 1 else 0)) + (if b5 then 1 else 0) = nI c := by decide +kernel
theorem cnt_bc (p : Nat → Bool) : ∃ c, c < 7 ∧ bcI (btM p 6) = nI c ∧ cntI p 6 = nI c := cnt_all (p 0) (p 1) (p 2) (p 3) (p 4) (p 5)
theorem cnt_0 {p : Nat → Bool} (h : ∀ j, p j = false) : ∀ k, cntI p k = 0
  | 0 => rfl
  | k + 1 => by rw [cntI, cnt_0 h k, h k]; rfl
theorem al_set {v i a b d : Nat} {y l : Int32} (hv : v < 64) (ha : a < 2 ^ 20) (hb : b < 2 ^ 20) (hd : d < 2 ^ 20) (hs : hasI (nI v) (nI i) = true) : nI v &&& ksC (nr (nI i) (nI a) (nI b) (nI d) y l) (nI a) (nI b) (nI d) y l 6 = btM (alT (nI v) (nI a) (nI b) (nI d) y l i) 6 := by
  apply b_ext
  intro j hj
  rw [b_and, ksC, btS_M, btM_bt hj 6 (by omega), btM_bt hj 6 (by omega), nr_M ha hb hd, nr_M ha hb hd, alT, hs, Bool.true_and, hasI_bt hj]
  have e : decide (nm (nI j) (nI a) (nI b) (nI d) y l = nm (nI i) (nI a) (nI b) (nI d) y l) = decide (nm (nI i) (nI a) (nI b) (nI d) y l = nm (nI j) (nI a) (nI b) (nI d) y l) := by rw [decide_eq_decide]; exact ⟨Eq.symm, Eq.symm⟩
  rw [e]
  cases decide (j < 6) <;> cases bt (nI v) j <;> simp
theorem al_M {v a b d : Nat} {y l : Int32} (hv : v < 64) (ha : a < 2 ^ 20) (hb : b < 2 ^ 20) (hd : d < 2 ^ 20) : ∀ k, alX (nI v) (nI a) (nI b) (nI d) y l k = alS (nI v) (nI a) (nI b) (nI d) y l k ∧ ∃ c, c < 7 ∧ alS (nI v) (nI a) (nI b) (nI d) y l k = nI c
  | 0 => ⟨rfl, 0, by omega, rfl⟩
  | k + 1 => by
    obtain ⟨ih, c, hc, ec⟩ := al_M (y := y) (l := l) hv ha hb hd k
    have eB : hasB (nI v) k = hasI (nI v) (nI k) := rfl
    rw [alX, alS, eB, alC_cnt]
    by_cases hs : hasI (nI v) (nI k) = true
    · obtain ⟨g, hg, e1, e2⟩ := cnt_bc (alT (nI v) (nI a) (nI b) (nI d) y l k)
      rw [if_pos hs, al_set hv ha hb hd hs, e1, e2, ih]
      by_cases hl : alS (nI v) (nI a) (nI b) (nI d) y l k < nI g
      · rw [if_pos hl, if_neg (Int32.not_le.mpr hl)]
        exact ⟨rfl, g, hg, rfl⟩
      · rw [if_neg hl, if_pos (Int32.not_lt.mp hl)]
        exact ⟨rfl, c, hc, ec⟩
    · have hf := Bool.eq_false_iff.mpr hs
      rw [if_neg hs, cnt_0 (fun j => by rw [alT, hf, Bool.false_and]) 6, ih, if_pos (by rw [ec]; exact nI_pos' (by omega))]
      exact ⟨rfl, c, hc, ec⟩
def lkS (set h w : Int32) (c : Nat) : Int32 × Int32 := lkB set h w (c / 9) (c / 3 % 3) (c % 3) (lkT set h w (c / 9) (c / 3 % 3) (lkL set h w (c / 9)))
theorem lk_step (set h w : Int32) (c : Nat) : lkS set h w (c + 1) = if alX set h (nI (c / 3 % 3)) w (nI (c % 3)) (nI (c / 9)) 6 < (lkS set h w c).1 then (alX set h (nI (c / 3 % 3)) w (nI (c % 3)) (nI (c / 9)) 6, 100 * nI (c / 9) + 10 * nI (c / 3 % 3) + nI (c % 3)) else lkS set h w c := by
  unfold lkS
  by_cases h1 : c % 3 < 2
  · rw [show (c + 1) / 9 = c / 9 by omega, show (c + 1) / 3 % 3 = c / 3 % 3 by omega, show (c + 1) % 3 = c % 3 + 1 by omega]
    rfl
  · have e1 : c % 3 = 2 := by omega
    by_cases h2 : c / 3 % 3 < 2
    · rw [show (c + 1) / 9 = c / 9 by omega, show (c + 1) / 3 % 3 = c / 3 % 3 + 1 by omega, show (c + 1) % 3 = 0 by omega, e1]
      rfl
    · have e2 : c / 3 % 3 = 2 := by omega
      rw [show (c + 1) / 9 = c / 9 + 1 by omega, show (c + 1) / 3 % 3 = 0 by omega, show (c + 1) % 3 = 0 by omega, e1, e2]
      rfl
theorem am_cls2 {f v : Nat → Int32} {w0 s0 : Int32} {S : Nat → Int32 × Int32} {B N : Nat} (h0 : S 0 = (nI B, s0)) (hs : ∀ q, q < N → S (q + 1) = if f q < (S q).1 then (f q, v q) else S q) (hf : ∀ q, q < N → ∃ c, c < B ∧ f q = nI c) (hB : B ≤ 1000) : ∀ k, 1 ≤ k → k ≤ N → (am f v w0 1000000 k).1 = (S k).2 ∧ (am f v w0 1000000 k).2 = (S k).1
  | 0, h, _ => absurd h (by omega)
  | k + 1, _, hk => by
    obtain ⟨c, hc, ec⟩ := hf k (by omega)
    rw [hs k (by omega), am]
    by_cases k0 : k = 0
    · subst k0
      rw [h0]
      have e1 : f 0 < nI B := by rw [ec]; exact (nI_ltI (by omega) (by omega)).mpr hc
      have e2 : ¬ (1000000 : Int32) ≤ f 0 := by
        rw [ec, show (1000000 : Int32) = nI 1000000 from rfl]
        intro q
        have := (nI_leI (by omega) (by omega)).mp q
        omega
      rw [if_pos e1, am, if_neg e2]
      exact ⟨rfl, rfl⟩
    · obtain ⟨i1, i2⟩ := am_cls2 (w0 := w0) h0 hs hf hB k (by omega) (by omega)
      rw [i2]
      by_cases h : f k < (S k).1
      · rw [if_pos h, if_neg (Int32.not_le.mpr h)]
        exact ⟨rfl, rfl⟩
      · rw [if_neg h, if_pos (Int32.not_lt.mp h)]
        exact ⟨i1, i2⟩
theorem lk_div : ∀ c, c < 27 → nI c / 3 - nI c / 3 / 3 * 3 = nI (c / 3 % 3) ∧ nI c - nI c / 3 * 3 = nI (c % 3) ∧ nI c / 9 = nI (c / 9) := by decide +kernel
theorem lkS_0 (set h w : Int32) : lkS set h w 0 = (nI 7, -1) := by
  show lkB set h w 0 0 0 (lkT set h w 0 0 (lkL set h w 0)) = _
  rw [lkB, lkT, lkL]
  rfl
theorem lkS_27 (set h w : Int32) : lkS set h w 27 = lkL set h w 3 := by
  show lkB set h w 3 0 0 (lkT set h w 3 0 (lkL set h w 3)) = _
  rw [lkB, lkT]
theorem lk_M {nw : Nat → Int32} {v k a d : Nat} (hv : v < 64) (ha : a ≤ 30) (hd : d ≤ 20) (ea : nw (6 + k) = nI a) (ed : nw (29 + k) = nI d) : (am (lkF nw k (nI v)) lkV 0 1000000 27).1 = (lkL (nI v) (nw (6 + k)) (nw (29 + k)) 3).2 := by
  have hf : ∀ q, q < 27 → lkF nw k (nI v) q = alX (nI v) (nI a) (nI (q / 3 % 3)) (nI d) (nI (q % 3)) (nI (q / 9)) 6 ∧ ∃ c, c < 7 ∧ lkF nw k (nI v) q = nI c := fun q hq => by
    obtain ⟨e1, e2, e3⟩ := lk_div q hq
    obtain ⟨g1, g2⟩ := al_M (y := nI (q % 3)) (l := nI (q / 9)) hv (show a < 2 ^ 20 by omega) (show q / 3 % 3 < 2 ^ 20 by omega) (show d < 2 ^ 20 by omega) 6
    rw [lkF, e1, e2, e3, ea, ed]
    exact ⟨g1.symm, g2⟩
  rw [ea, ed]
  rw [← lkS_27]
  refine (am_cls2 (f := lkF nw k (nI v)) (v := lkV) (w0 := 0) (s0 := -1) (S := lkS (nI v) (nI a) (nI d)) (B := 7) (N := 27) (lkS_0 _ _ _) (fun q hq => ?_) (fun q hq => (hf q hq).2) (by omega) 27 (by omega) (by omega)).1
  obtain ⟨e1, e2, e3⟩ := lk_div q hq
  rw [lk_step, (hf q hq).1, lkV, e1, e2, e3]
theorem ey_M : ∀ U, U < 61 → (nI U / nI (eyC (nI U) 10)).toInt64 = lN (U / Nat.gcd U 10) ∧ ((10 : Int32) / nI (eyC (nI U) 10)).toInt64 = lN (10 / Nat.gcd U 10) := by decide +kernel
theorem pr_has : ∀ q, q < 4 → hasI (nI q) 0 = decide (q % 2 = 1) ∧ hasI (nI q) 1 = decide (q / 2 = 1) ∧ (nI q &&& 1 = 0 ↔ q % 2 = 0) ∧ (nI q &&& 2 = 0 ↔ q / 2 = 0) ∧ nI q ^^^ 1 = nI (q ^^^ 1) ∧ nI q ^^^ 2 = nI (q ^^^ 2) ∧ q ^^^ 1 < 4 ∧ q ^^^ 2 < 4 ∧ (q ^^^ 1) % 2 = 1 - q % 2 ∧ (q ^^^ 1) / 2 = q / 2 ∧ (q ^^^ 2) % 2 = q % 2 ∧ (q ^^^ 2) / 2 = 1 - q / 2 := by decide +kernel
theorem chM_bt {i j q e : Nat} (hi : i < 6) (hj : j < 6) (hq : q < 4) (he : e < 32) : bt (chM (nI i) (nI j) q) e = ((decide (q % 2 = 0) && decide (e = i)) || (decide (q / 2 = 0) && decide (e = j))) := by
  obtain ⟨p1, p2, -⟩ := pr_has q hq
  unfold chM
  rw [p1, p2, b_or]
  congr 1
  · by_cases h : q % 2 = 0
    · rw [decide_eq_false (show ¬ q % 2 = 1 by omega), decide_eq_true h, if_neg Bool.false_ne_true, bt_sh (by omega) he, Bool.true_and]
    · rw [decide_eq_true (show q % 2 = 1 by omega), decide_eq_false h, if_pos rfl, b_0, Bool.false_and]
  · by_cases h : q / 2 = 0
    · rw [decide_eq_false (show ¬ q / 2 = 1 by omega), decide_eq_true h, if_neg Bool.false_ne_true, bt_sh (by omega) he, Bool.true_and]
    · rw [decide_eq_true (show q / 2 = 1 by omega), decide_eq_false h, if_pos rfl, b_0, Bool.false_and]
theorem b_cpl {s : Int32} {j e : Nat} (hj : j < 6) (he : e < 32) : bt (s &&& (((1 : Int32) <<< (nI j &&& 31)) ^^^ -1)) e = (bt s e && !decide (e = j)) := by
  rw [b_and, b_xor, bt_sh (by omega) he, b_m1 e he, Bool.xor_true]
theorem rnS_bt {set : Int32} {i j q e : Nat} (hi : i < 6) (hj : j < 6) (hq : q < 4) (he : e < 32) : bt (rnS set (nI q) (nI i) (nI j)) e = (bt set e && !((decide (q % 2 = 0) && decide (e = i)) || (decide (q / 2 = 0) && decide (e = j)))) := by
  obtain ⟨-, -, p1, p2, -⟩ := pr_has q hq
  unfold rnS
  by_cases h1 : q % 2 = 0 <;> by_cases h2 : q / 2 = 0
  · rw [if_pos (p2.mpr h2), if_pos (p1.mpr h1), b_cpl hj he, b_cpl hi he, decide_eq_true h1, decide_eq_true h2]
    cases bt set e <;> cases decide (e = i) <;> cases decide (e = j) <;> rfl
  · rw [if_neg (fun z => h2 (p2.mp z)), if_pos (p1.mpr h1), b_cpl hi he, decide_eq_true h1, decide_eq_false h2]
    cases bt set e <;> cases decide (e = i) <;> cases decide (e = j) <;> rfl
  · rw [if_pos (p2.mpr h2), if_neg (fun z => h1 (p1.mp z)), b_cpl hj he, decide_eq_false h1, decide_eq_true h2]
    cases bt set e <;> cases decide (e = i) <;> cases decide (e = j) <;> rfl
  · rw [if_neg (fun z => h2 (p2.mp z)), if_neg (fun z => h1 (p1.mp z)), decide_eq_false h1, decide_eq_false h2]
    cases bt set e <;> cases decide (e = i) <;> cases decide (e = j) <;> rfl
theorem chB_rn {t : Nat → Int32} {n i j q : Nat} (hi : i < 6) (hj : j < 6) (hq : q < 4) : chB t n (chM (nI i) (nI j) q) = rnS (bitrM t n) (nI q) (nI i) (nI j) := by
  apply b_ext
  intro e he
  rw [rnS_bt hi hj hq he, chB, b_and, b_xor, chM_bt hi hj hq he, b_m1 e he, Bool.xor_true]
theorem chM_x1 {i j q : Nat} (hi : i < 6) (hj : j < 6) (hq : q < 4) (hij : ¬ i = j) : chM (nI i) (nI j) q ^^^ ((1 : Int32) <<< (nI i &&& 31)) = chM (nI i) (nI j) (q ^^^ 1) := by
  obtain ⟨-, -, -, -, -, -, p3, p4, p5, p6, p7, p8⟩ := pr_has q hq
  apply b_ext
  intro e he
  rw [b_xor, chM_bt hi hj hq he, chM_bt hi hj p3 he, bt_sh (by omega) he, p5, p6]
  by_cases h1 : q % 2 = 0 <;> by_cases h2 : q / 2 = 0 <;> by_cases e1 : e = i <;> by_cases e2 : e = j <;> simp [h1, h2, e1, e2] <;> omega
theorem chM_x2 {i j q : Nat} (hi : i < 6) (hj : j < 6) (hq : q < 4) (hij : ¬ i = j) : chM (nI i) (nI j) q ^^^ ((1 : Int32) <<< (nI j &&& 31)) = chM (nI i) (nI j) (q ^^^ 2) := by
  obtain ⟨-, -, -, -, -, -, p3, p4, p5, p6, p7, p8⟩ := pr_has q hq
  apply b_ext
  intro e he
  rw [b_xor, chM_bt hi hj hq he, chM_bt hi hj p4 he, bt_sh (by omega) he, p7, p8]
  by_cases h1 : q % 2 = 0 <;> by_cases h2 : q / 2 = 0 <;> by_cases e1 : e = i <;> by_cases e2 : e = j <;> simp [h1, h2, e1, e2] <;> omega
theorem two_add (a c : Int32) : a - 2 * c - 2 = a - 2 * (c + 1) := by
  rw [Int32.mul_add, Int32.mul_one, Int32.sub_eq_add_neg, Int32.sub_eq_add_neg, Int32.sub_eq_add_neg, Int32.neg_add, Int32.sub_eq_add_neg, Int32.add_assoc]
theorem gt_rn {n i j k q : Nat} {wo : Int32} {ki se wd : Nat → Int32} {d : Dy} {t : Nat → Int32} (h : RT n wo ki se wd d t) (hi : i < n) (hj : j < n) (hij : ¬ i = j) (hq : q < 4) (hk : k = i ∨ k = j) : gtM t n (nI k) (chM (nI i) (nI j) q) n = rnC (bitrM t n) se n (nI k) (nI q) (nI i) (nI j) := by
  have h6 := h.1
  have g : ∀ b : Int32, b = (if hasI (chM (nI i) (nI j) q) (nI k) then 0 else 1) → ∀ e, e ≤ n → gtM t n (nI k) (chM (nI i) (nI j) q) e = b - 2 * tmS se n (rnS (bitrM t n) (nI q) (nI i) (nI j)) (nI k) e := by
    intro b hb e
    induction e with
    | zero => exact fun _ => by rw [gtM, tmS, ← hb, Int32.mul_zero, Int32.sub_zero]
    | succ e ih =>
      intro he
      rw [gtM, tmS, ih (by omega), chB_rn (by omega) (by omega) hq, rt_wh h (show e < n by omega)]
      have eB : hasB (rnS (bitrM t n) (nI q) (nI i) (nI j)) e = hasI (rnS (bitrM t n) (nI q) (nI i) (nI j)) (nI e) := rfl
      rw [eB]
      by_cases hc : (hasI (rnS (bitrM t n) (nI q) (nI i) (nI j)) (nI e) && decide (whM t n (t e) = nI k)) = true
      · rw [if_pos hc, if_pos hc, two_add]
      · rw [if_neg hc, if_neg hc, Int32.sub_zero]
  rw [g _ rfl n (Nat.le_refl n)]
  unfold rnC
  congr 1
  obtain ⟨-, -, p1, p2, -⟩ := pr_has q hq
  rw [hasI_bt (by omega), chM_bt (by omega) (by omega) hq (by omega)]
  rcases hk with e | e
  · subst e
    rw [decide_eq_true (rfl : k = k), decide_eq_false hij, Bool.and_true, Bool.and_false, Bool.or_false]
    by_cases h1 : q % 2 = 0
    · rw [decide_eq_true h1, if_pos rfl, if_pos (show (if nI k = nI k then nI q &&& 1 = 0 else nI q &&& 2 = 0) by rw [if_pos rfl]; exact p1.mpr h1)]
    · rw [decide_eq_false h1, if_neg Bool.false_ne_true, if_neg (show ¬ (if nI k = nI k then nI q &&& 1 = 0 else nI q &&& 2 = 0) by rw [if_pos rfl]; exact fun z => h1 (p1.mp z))]
  · subst e
    have nki : ¬ nI k = nI i := fun z => hij ((nI_eq (by omega) (by omega)).mp z).symm
    rw [decide_eq_true (rfl : k = k), decide_eq_false (show ¬ k = i from fun z => hij z.symm), Bool.and_true, Bool.and_false, Bool.false_or]
    by_cases h1 : q / 2 = 0
    · rw [decide_eq_true h1, if_pos rfl, if_pos (show (if nI k = nI i then nI q &&& 1 = 0 else nI q &&& 2 = 0) by rw [if_neg nki]; exact p2.mpr h1)]
    · rw [decide_eq_false h1, if_neg Bool.false_ne_true, if_neg (show ¬ (if nI k = nI i then nI q &&& 1 = 0 else nI q &&& 2 = 0) by rw [if_neg nki]; exact fun z => h1 (p2.mp z))]
theorem not_lt_dec (a b : Int32) : (!decide (a < b)) = decide (b ≤ a) := by
  by_cases h : a < b
  · rw [decide_eq_true h, decide_eq_false (Int32.not_le.mpr h)]; rfl
  · rw [decide_eq_false h, decide_eq_true (Int32.not_lt.mp h)]; rfl
theorem rg_M {n i j : Nat} {wo : Int32} {ki se wd : Nat → Int32} {d : Dy} {t : Nat → Int32} (h : RT n wo ki se wd d t) (hi : i < n) (hj : j < n) (hij : ¬ i = j) (q : Nat) (hq : q < 4) : rgM t n (nI i) (nI j) q = rgB (bitrM t n) se n (nI i) (nI j) q := by
  have h6 := h.1
  obtain ⟨-, -, -, -, p1, p2, p3, p4, -⟩ := pr_has q hq
  unfold rgM rgB
  rw [chM_x1 (by omega) (by omega) hq hij, chM_x2 (by omega) (by omega) hq hij, p1, p2, gt_rn h hi hj hij hq (Or.inl rfl), gt_rn h hi hj hij hq (Or.inr rfl), gt_rn h hi hj hij p3 (Or.inl rfl), gt_rn h hi hj hij p4 (Or.inr rfl), not_lt_dec, not_lt_dec]
set_option maxRecDepth 100000 in
theorem op_is (l : Launch) (K : KA) (G : GG) (ax : Nat) (ad : Ad) (am : Nat → Nat) (X : XS) (Y : YS) (h : Rel X Y) (x : Int32) : OPi Rel K l G ax ad am yX5_is cX5_is 2 yX6_is cX6_is 2 [.int x] X Y := by
  obtain ⟨⟨⟨wo, mi, bi, la, ch, ki, se, wd, hu, b9⟩, ⟨old, psz, T⟩, np, ns⟩, i0, i1, kp, ⟨f, len, pl, sa, tk9, vl⟩, ⟨wo1, mi1, bi1, la1, ch1, ki1, se1, wd1, hu1, bt1⟩, sg, rf, ab, bl⟩ := X
  obtain ⟨nw, rd, asd, img, kpt, txt, sz, abv, blw, bds, nos, fls, att, bgn, tkn, wrd, vlu, sts, bst⟩ := Y
  obtain ⟨h1, h2, h3, h4, h5, h6⟩ := h
  obtain ⟨n, zn, u, o, a1, a2, a3, a4, a5, a6, a7, a8, a9, b1, b2, b3, b4, b5, b6⟩ := h1
  have e1 : ch = nI n := a3.2.2.2.2.1
  have e2 : ns = nI zn := a7
  have e3 : old = nI o := b3
  have e4 : psz = nI u := b4
  subst e1; subst e2; subst e3; subst e4
  have e5 : nw 22 = nI n := a2
  by_cases c : inI x 0 (nI n - 1) = true
  · have ek : koM nw zn x = koC np x zn := (ko_M a9 x).symm
    refine ⟨koC np x zn, Unit, Unit, fun _ => (((wo, mi, bi, la, nI n, ki, se, wd, hu, b9), (nI o, nI u, T), (np, nI zn)), i0, i1, kp, (f, len, pl, sa, tk9, vl), (wo1, mi1, bi1, la1, ch1, ki1, se1, wd1, hu1, bt1), sg, rf, ab, bl), fun _ => (nw, rd, asd, img, kpt, txt, sz, abv, blw, bds, nos, fls, att, bgn, tkn, wrd, vlu, sts, bst), ?_, ?_, fun _ _ => ⟨⟨n, zn, u, o, a1, a2, a3, a4, a5, a6, rfl, a8, a9, b1, b2, rfl, rfl, b5, b6⟩, h2, h3, h4, h5, h6⟩⟩
    · exact LC.ofT (wb := [xO G ax (ad 11 0) (ad 11 1) (ad 11 2) (ad 9) (ad 10) (ad 11 3) (ad 11 4) ab bl, oS G (ad 11 0) (ad 0) (ad 1) (ad 2), tW G (ad 0) wo mi bi la (nI n) ki se wd hu b9, nW G (ad 2) np (nI zn)]) (wb' := [xO G ax (ad 11 0) (ad 11 1) (ad 11 2) (ad 9) (ad 10) (ad 11 3) (ad 11 4) ab bl, oS G (ad 11 0) (ad 0) (ad 1) (ad 2), tW G (ad 0) wo mi bi la (nI n) ki se wd hu b9, nW G (ad 2) np (nI zn)]) [0, 1, 2, 4] (c_X5_is_ok l G ax (ad 11 0) (ad 0) (ad 1) (ad 2) (ad 11 1) (ad 11 2) (ad 9) (ad 10) (ad 11 3) (ad 11 4) x ab bl wo mi bi la n ki se wd hu b9 np zn c a6) (by decide) (by decide) rfl rfl rfl rfl rfl rfl
    · have hc := c_X6_is l G am x nw rd asd img kpt txt sz abv blw bds nos fls att bgn tkn wrd vlu sts bst zn a8 a6
      simp only [e5, c, if_true] at hc
      rw [ek] at hc
      exact LC.ofT (wb := [mY G am (nw, rd, asd, img, kpt, txt, sz, abv, blw, bds, nos, fls, att, bgn, tkn, wrd, vlu, sts, bst)]) (wb' := [mY G am (nw, rd, asd, img, kpt, txt, sz, abv, blw, bds, nos, fls, att, bgn, tkn, wrd, vlu, sts, bst)]) [0] hc (by decide) (by decide) (flat1 _) (flat1 _) rfl rfl rfl rfl
  · have c := Bool.eq_false_iff.mpr c
    refine ⟨-2, Unit, Unit, fun _ => (((wo, mi, bi, la, nI n, ki, se, wd, hu, b9), (nI o, nI u, T), (np, nI zn)), i0, i1, kp, (f, len, pl, sa, tk9, vl), (wo1, mi1, bi1, la1, ch1, ki1, se1, wd1, hu1, bt1), sg, upd rf 0 (rf 0 + 1), ab, bl), fun _ => (nw, rd, asd, img, kpt, txt, sz, abv, blw, bds + 1, nos, fls, att, bgn, tkn, wrd, vlu, sts, bst), ?_, ?_, fun _ _ => ⟨⟨n, zn, u, o, a1, a2, a3, a4, a5, a6, rfl, a8, a9, b1, b2, rfl, rfl, b5, b6⟩, h2, h3, rf_0 h4, h5, h6⟩⟩
    · exact LC.ofT (wb := [xO G ax (ad 11 0) (ad 11 1) (ad 11 2) (ad 9) (ad 10) (ad 11 3) (ad 11 4) ab bl, oS G (ad 11 0) (ad 0) (ad 1) (ad 2), tW G (ad 0) wo mi bi la (nI n) ki se wd hu b9, aW G (ad 11 4) 3 rf]) (wb' := [xO G ax (ad 11 0) (ad 11 1) (ad 11 2) (ad 9) (ad 10) (ad 11 3) (ad 11 4) ab bl, oS G (ad 11 0) (ad 0) (ad 1) (ad 2), tW G (ad 0) wo mi bi la (nI n) ki se wd hu b9, aW G (ad 11 4) 3 (upd rf 0 (rf 0 + 1))]) [0, 1, 2, 18] (c_X5_is_bad l G ax (ad 11 0) (ad 0) (ad 1) (ad 2) (ad 11 1) (ad 11 2) (ad 9) (ad 10) (ad 11 3) (ad 11 4) x ab bl wo mi bi la n ki se wd hu b9 rf c) (by decide) (by decide) rfl rfl rfl rfl rfl rfl
    · have hc := c_X6_is l G am x nw rd asd img kpt txt sz abv blw bds nos fls att bgn tkn wrd vlu sts bst zn a8 a6
      simp only [e5, c, Bool.false_eq_true, if_false] at hc
      exact LC.ofT (wb := [mY G am (nw, rd, asd, img, kpt, txt, sz, abv, blw, bds, nos, fls, att, bgn, tkn, wrd, vlu, sts, bst)]) (wb' := [mY G am (nw, rd, asd, img, kpt, txt, sz, abv, blw, bds + 1, nos, fls, att, bgn, tkn, wrd, vlu, sts, bst)]) [0] hc (by decide) (by decide) (flat1 _) (flat1 _) rfl rfl rfl rfl
set_option maxRecDepth 100000 in
theorem op_look (l : Launch) (K : KA) (G : GG) (ax : Nat) (ad : Ad) (am : Nat → Nat) (X : XS) (Y : YS) (h : Rel X Y) (x : Int32) : OPi Rel K l G ax ad am yX5_look cX5_look 9 yX6_look cX6_look 7 [.int x] X Y := by
  obtain ⟨⟨⟨wo, mi, bi, la, ch, ki, se, wd, hu, b9⟩, ⟨old, psz, T⟩, np, ns⟩, i0, i1, kp, ⟨f, len, pl, sa, tk9, vl⟩, ⟨wo1, mi1, bi1, la1, ch1, ki1, se1, wd1, hu1, bt1⟩, sg, rf, ab, bl⟩ := X
  obtain ⟨nw, rd, asd, img, kpt, txt, sz, abv, blw, bds, nos, fls, att, bgn, tkn, wrd, vlu, sts, bst⟩ := Y
  obtain ⟨h1, h2, h3, h4, h5, h6⟩ := h
  obtain ⟨n, zn, u, o, a1, a2, a3, a4, a5, a6, a7, a8, a9, b1, b2, b3, b4, b5, b6⟩ := h1
  have e1 : ch = nI n := a3.2.2.2.2.1
  have e2 : ns = nI zn := a7
  have e3 : old = nI o := b3
  have e4 : psz = nI u := b4
  subst e1; subst e2; subst e3; subst e4
  have e5 : nw 22 = nI n := a2
  by_cases c : inI x 0 (nI n - 1) = true
  · have ek : koM nw zn x = koC np x zn := (ko_M a9 x).symm
    obtain ⟨k, hk, ex⟩ := inI_child rfl a1 c
    obtain ⟨v, hv, ev⟩ : ∃ v, v < 64 ∧ koC np x zn = nI v := by rw [← ek]; exact btM_small (by omega)
    by_cases d : nI v = 0
    · refine ⟨-1, Unit, Unit, fun _ => (((wo, mi, bi, la, nI n, ki, se, wd, hu, b9), (nI o, nI u, T), (np, nI zn)), i0, i1, kp, (f, len, pl, sa, tk9, vl), (wo1, mi1, bi1, la1, ch1, ki1, se1, wd1, hu1, bt1), sg, rf, ab, bl), fun _ => (nw, rd, asd, img, kpt, txt, sz, abv, blw, bds, nos, fls, att, bgn, tkn, wrd, vlu, sts, bst), ?_, ?_, fun _ _ => ⟨⟨n, zn, u, o, a1, a2, a3, a4, a5, a6, rfl, a8, a9, b1, b2, rfl, rfl, b5, b6⟩, h2, h3, h4, h5, h6⟩⟩
      · exact LC.ofT (wb := [xO G ax (ad 11 0) (ad 11 1) (ad 11 2) (ad 9) (ad 10) (ad 11 3) (ad 11 4) ab bl, oS G (ad 11 0) (ad 0) (ad 1) (ad 2), tW G (ad 0) wo mi bi la (nI n) ki se wd hu b9, nW G (ad 2) np (nI zn)]) (wb' := [xO G ax (ad 11 0) (ad 11 1) (ad 11 2) (ad 9) (ad 10) (ad 11 3) (ad 11 4) ab bl, oS G (ad 11 0) (ad 0) (ad 1) (ad 2), tW G (ad 0) wo mi bi la (nI n) ki se wd hu b9, nW G (ad 2) np (nI zn)]) [0, 1, 2, 4] (c_X5_look_none l G ax (ad 11 0) (ad 0) (ad 1) (ad 2) (ad 11 1) (ad 11 2) (ad 9) (ad 10) (ad 11 3) (ad 11 4) x ab bl wo mi bi la n ki se wd hu b9 np zn c a6 (ev.trans d)) (by decide) (by decide) rfl rfl rfl rfl rfl rfl
      · have hc := c_X6_look l G am x nw rd asd img kpt txt sz abv blw bds nos fls att bgn tkn wrd vlu sts bst n zn a2 a1 a8 a6
        simp only [e5, c, if_true] at hc
        rw [ek, ev, if_pos d] at hc
        exact LC.ofT (wb := [mY G am (nw, rd, asd, img, kpt, txt, sz, abv, blw, bds, nos, fls, att, bgn, tkn, wrd, vlu, sts, bst)]) (wb' := [mY G am (nw, rd, asd, img, kpt, txt, sz, abv, blw, bds, nos, fls, att, bgn, tkn, wrd, vlu, sts, bst)]) [0] hc (by decide) (by decide) (flat1 _) (flat1 _) rfl rfl rfl rfl
    · obtain ⟨q1, q2, q3, -, ⟨a, ha, ea⟩⟩ := a3.2.2.2.2.2.2.2.1 k hk
      obtain ⟨-, q5⟩ := a4 k hk
      have q2 : hu k = nw (6 + k) := q2
      have q5 : wd k = nw (29 + k) := q5
      obtain ⟨b, hb, eb⟩ := (a5 k hk).2
      have el := lk_M (nw := nw) (k := k) hv ha hb ea eb
      rw [← q2, ← q5] at el
      refine ⟨(lkL (nI v) (hu k) (wd k) 3).2, Unit, Unit, fun _ => (((wo, mi, bi, la, nI n, ki, se, wd, hu, b9), (nI o, nI u, T), (np, nI zn)), i0, i1, kp, (f, len, pl, sa, tk9, vl), (wo1, mi1, bi1, la1, ch1, ki1, se1, wd1, hu1, bt1), sg, rf, ab, bl), fun _ => (nw, rd, asd, img, kpt, txt, sz, abv, blw, bds, nos, fls, att, bgn, tkn, wrd, vlu, sts, bst), ?_, ?_, fun _ _ => ⟨⟨n, zn, u, o, a1, a2, a3, a4, a5, a6, rfl, a8, a9, b1, b2, rfl, rfl, b5, b6⟩, h2, h3, h4, h5, h6⟩⟩
      · exact LC.ofT (wb := [xO G ax (ad 11 0) (ad 11 1) (ad 11 2) (ad 9) (ad 10) (ad 11 3) (ad 11 4) ab bl, oS G (ad 11 0) (ad 0) (ad 1) (ad 2), tW G (ad 0) wo mi bi la (nI n) ki se wd hu b9, nW G (ad 2) np (nI zn)]) (wb' := [xO G ax (ad 11 0) (ad 11 1) (ad 11 2) (ad 9) (ad 10) (ad 11 3) (ad 11 4) ab bl, oS G (ad 11 0) (ad 0) (ad 1) (ad 2), tW G (ad 0) wo mi bi la (nI n) ki se wd hu b9, nW G (ad 2) np (nI zn)]) [0, 1, 2, 4] (c_X5_look_ok l G ax (ad 11 0) (ad 0) (ad 1) (ad 2) (ad 11 1) (ad 11 2) (ad 9) (ad 10) (ad 11 3) (ad 11 4) x k ex ab bl wo mi bi la n ki se wd hu b9 np zn (nI v) a1 c hk a6 ev d) (by decide) (by decide) rfl rfl rfl rfl rfl rfl
      · have hc := c_X6_look l G am x nw rd asd img kpt txt sz abv blw bds nos fls att bgn tkn wrd vlu sts bst n zn a2 a1 a8 a6
        simp only [e5, c, if_true] at hc
        rw [show x.toNatClampNeg = k by rw [ex]; exact nI_clamp (by omega)] at hc
        rw [ek, ev, if_neg d, el] at hc
        exact LC.ofT (wb := [mY G am (nw, rd, asd, img, kpt, txt, sz, abv, blw, bds, nos, fls, att, bgn, tkn, wrd, vlu, sts, bst)]) (wb' := [mY G am (nw, rd, asd, img, kpt, txt, sz, abv, blw, bds, nos, fls, att, bgn, tkn, wrd, vlu, sts, bst)]) [0] hc (by decide) (by decide) (flat1 _) (flat1 _) rfl rfl rfl rfl
  · have c := Bool.eq_false_iff.mpr c
    refine ⟨-2, Unit, Unit, fun _ => (((wo, mi, bi, la, nI n, ki, se, wd, hu, b9), (nI o, nI u, T), (np, nI zn)), i0, i1, kp, (f, len, pl, sa, tk9, vl), (wo1, mi1, bi1, la1, ch1, ki1, se1, wd1, hu1, bt1), sg, upd rf 0 (rf 0 + 1), ab, bl), fun _ => (nw, rd, asd, img, kpt, txt, sz, abv, blw, bds + 1, nos, fls, att, bgn, tkn, wrd, vlu, sts, bst), ?_, ?_, fun _ _ => ⟨⟨n, zn, u, o, a1, a2, a3, a4, a5, a6, rfl, a8, a9, b1, b2, rfl, rfl, b5, b6⟩, h2, h3, rf_0 h4, h5, h6⟩⟩
    · exact LC.ofT (wb := [xO G ax (ad 11 0) (ad 11 1) (ad 11 2) (ad 9) (ad 10) (ad 11 3) (ad 11 4) ab bl, oS G (ad 11 0) (ad 0) (ad 1) (ad 2), tW G (ad 0) wo mi bi la (nI n) ki se wd hu b9, aW G (ad 11 4) 3 rf]) (wb' := [xO G ax (ad 11 0) (ad 11 1) (ad 11 2) (ad 9) (ad 10) (ad 11 3) (ad 11 4) ab bl, oS G (ad 11 0) (ad 0) (ad 1) (ad 2), tW G (ad 0) wo mi bi la (nI n) ki se wd hu b9, aW G (ad 11 4) 3 (upd rf 0 (rf 0 + 1))]) [0, 1, 2, 18] (c_X5_look_bad l G ax (ad 11 0) (ad 0) (ad 1) (ad 2) (ad 11 1) (ad 11 2) (ad 9) (ad 10) (ad 11 3) (ad 11 4) x ab bl wo mi bi la n ki se wd hu b9 rf c) (by decide) (by decide) rfl rfl rfl rfl rfl rfl
    · have hc := c_X6_look l G am x nw rd asd img kpt txt sz abv blw bds nos fls att bgn tkn wrd vlu sts bst n zn a2 a1 a8 a6
      simp only [e5, c, Bool.false_eq_true, if_false] at hc
      exact LC.ofT (wb := [mY G am (nw, rd, asd, img, kpt, txt, sz, abv, blw, bds, nos, fls, att, bgn, tkn, wrd, vlu, sts, bst)]) (wb' := [mY G am (nw, rd, asd, img, kpt, txt, sz, abv, blw, bds + 1, nos, fls, att, bgn, tkn, wrd, vlu, sts, bst)]) [0] hc (by decide) (by decide) (flat1 _) (flat1 _) rfl rfl rfl rfl
set_option maxRecDepth 100000 in
theorem op_who (l : Launch) (K : KA) (G : GG) (ax : Nat) (ad : Ad) (am : Nat → Nat) (X : XS) (Y : YS) (h : Rel X Y) (x : Int32) : OPi Rel K l G ax ad am yX5_who cX5_who 4 yX6_who cX6_who 4 [.int x] X Y := by
  obtain ⟨⟨⟨wo, mi, bi, la, ch, ki, se, wd, hu, b9⟩, ⟨old, psz, T⟩, np, ns⟩, i0, i1, kp, ⟨f, len, pl, sa, tk9, vl⟩, ⟨wo1, mi1, bi1, la1, ch1, ki1, se1, wd1, hu1, bt1⟩, sg, rf, ab, bl⟩ := X
  obtain ⟨nw, rd, asd, img, kpt, txt, sz, abv, blw, bds, nos, fls, att, bgn, tkn, wrd, vlu, sts, bst⟩ := Y
  obtain ⟨h1, h2, h3, h4, h5, h6⟩ := h
  obtain ⟨n, zn, u, o, a1, a2, a3, a4, a5, a6, a7, a8, a9, b1, b2, b3, b4, b5, b6⟩ := h1
  have e1 : ch = nI n := a3.2.2.2.2.1
  have e2 : ns = nI zn := a7
  have e3 : old = nI o := b3
  have e4 : psz = nI u := b4
  subst e1; subst e2; subst e3; subst e4
  have e5 : nw 22 = nI n := a2
  have rt := rt_of a1 a3 a4 a5
  by_cases c : inI x 0 (nI n - 1) = true
  · have ew : btM (fun e => decide (whM nw n (nw e) = x)) n = btS (fun j => decide (whm se n (se j) = x)) n := by
      rw [btS_M]
      exact btM_congr n (fun i hi => by rw [rt_wh rt hi])
    refine ⟨btS (fun j => decide (whm se n (se j) = x)) n, Unit, Unit, fun _ => (((wo, mi, bi, la, nI n, ki, se, wd, hu, b9), (nI o, nI u, T), (np, nI zn)), i0, i1, kp, (f, len, pl, sa, tk9, vl), (wo1, mi1, bi1, la1, ch1, ki1, se1, wd1, hu1, bt1), sg, rf, ab, bl), fun _ => (nw, rd, asd, img, kpt, txt, sz, abv, blw, bds, nos, fls, att, bgn, tkn, wrd, vlu, sts, bst), ?_, ?_, fun _ _ => ⟨⟨n, zn, u, o, a1, a2, a3, a4, a5, a6, rfl, a8, a9, b1, b2, rfl, rfl, b5, b6⟩, h2, h3, h4, h5, h6⟩⟩
    · exact LC.ofT (wb := [xO G ax (ad 11 0) (ad 11 1) (ad 11 2) (ad 9) (ad 10) (ad 11 3) (ad 11 4) ab bl, oS G (ad 11 0) (ad 0) (ad 1) (ad 2), tW G (ad 0) wo mi bi la (nI n) ki se wd hu b9]) (wb' := [xO G ax (ad 11 0) (ad 11 1) (ad 11 2) (ad 9) (ad 10) (ad 11 3) (ad 11 4) ab bl, oS G (ad 11 0) (ad 0) (ad 1) (ad 2), tW G (ad 0) wo mi bi la (nI n) ki se wd hu b9]) [0, 1, 2] (c_X5_who_ok l G ax (ad 11 0) (ad 0) (ad 1) (ad 2) (ad 11 1) (ad 11 2) (ad 9) (ad 10) (ad 11 3) (ad 11 4) x ab bl wo mi bi la n ki se wd hu b9 a1 c) (by decide) (by decide) rfl rfl rfl rfl rfl rfl
    · have hc := c_X6_who l G am x nw rd asd img kpt txt sz abv blw bds nos fls att bgn tkn wrd vlu sts bst n a2 a1
      simp only [e5, c, if_true] at hc
      rw [ew] at hc
      exact LC.ofT (wb := [mY G am (nw, rd, asd, img, kpt, txt, sz, abv, blw, bds, nos, fls, att, bgn, tkn, wrd, vlu, sts, bst)]) (wb' := [mY G am (nw, rd, asd, img, kpt, txt, sz, abv, blw, bds, nos, fls, att, bgn, tkn, wrd, vlu, sts, bst)]) [0] hc (by decide) (by decide) (flat1 _) (flat1 _) rfl rfl rfl rfl
  · have c := Bool.eq_false_iff.mpr c
    refine ⟨-2, Unit, Unit, fun _ => (((wo, mi, bi, la, nI n, ki, se, wd, hu, b9), (nI o, nI u, T), (np, nI zn)), i0, i1, kp, (f, len, pl, sa, tk9, vl), (wo1, mi1, bi1, la1, ch1, ki1, se1, wd1, hu1, bt1), sg, upd rf 0 (rf 0 + 1), ab, bl), fun _ => (nw, rd, asd, img, kpt, txt, sz, abv, blw, bds + 1, nos, fls, att, bgn, tkn, wrd, vlu, sts, bst), ?_, ?_, fun _ _ => ⟨⟨n, zn, u, o, a1, a2, a3, a4, a5, a6, rfl, a8, a9, b1, b2, rfl, rfl, b5, b6⟩, h2, h3, rf_0 h4, h5, h6⟩⟩
    · exact LC.ofT (wb := [xO G ax (ad 11 0) (ad 11 1) (ad 11 2) (ad 9) (ad 10) (ad 11 3) (ad 11 4) ab bl, oS G (ad 11 0) (ad 0) (ad 1) (ad 2), tW G (ad 0) wo mi bi la (nI n) ki se wd hu b9, aW G (ad 11 4) 3 rf]) (wb' := [xO G ax (ad 11 0) (ad 11 1) (ad 11 2) (ad 9) (ad 10) (ad 11 3) (ad 11 4) ab bl, oS G (ad 11 0) (ad 0) (ad 1) (ad 2), tW G (ad 0) wo mi bi la (nI n) ki se wd hu b9, aW G (ad 11 4) 3 (upd rf 0 (rf 0 + 1))]) [0, 1, 2, 18] (c_X5_who_bad l G ax (ad 11 0) (ad 0) (ad 1) (ad 2) (ad 11 1) (ad 11 2) (ad 9) (ad 10) (ad 11 3) (ad 11 4) x ab bl wo mi bi la n ki se wd hu b9 rf c) (by decide) (by decide) rfl rfl rfl rfl rfl rfl
    · have hc := c_X6_who l G am x nw rd asd img kpt txt sz abv blw bds nos fls att bgn tkn wrd vlu sts bst n a2 a1
      simp only [e5, c, Bool.false_eq_true, if_false] at hc
      exact LC.ofT (wb := [mY G am (nw, rd, asd, img, kpt, txt, sz, abv, blw, bds, nos, fls, att, bgn, tkn, wrd, vlu, sts, bst)]) (wb' := [mY G am (nw, rd, asd, img, kpt, txt, sz, abv, blw, bds + 1, nos, fls, att, bgn, tkn, wrd, vlu, sts, bst)]) [0] hc (by decide) (by decide) (flat1 _) (flat1 _) rfl rfl rfl rfl
set_option maxRecDepth 100000 in
theorem op_rings (l : Launch) (K : KA) (G : GG) (ax : Nat) (ad : Ad) (am : Nat → Nat) (X : XS) (Y : YS) (h : Rel X Y) (x y : Int32) : OPi Rel K l G ax ad am yX5_rings cX5_rings 7 yX6_rings cX6_rings 7 [.int x, .int y] X Y := by
  obtain ⟨⟨⟨wo, mi, bi, la, ch, ki, se, wd, hu, b9⟩, ⟨old, psz, T⟩, np, ns⟩, i0, i1, kp, ⟨f, len, pl, sa, tk9, vl⟩, ⟨wo1, mi1, bi1, la1, ch1, ki1, se1, wd1, hu1, bt1⟩, sg, rf, ab, bl⟩ := X
  obtain ⟨nw, rd, asd, img, kpt, txt, sz, abv, blw, bds, nos, fls, att, bgn, tkn, wrd, vlu, sts, bst⟩ := Y
  obtain ⟨h1, h2, h3, h4, h5, h6⟩ := h
  obtain ⟨n, zn, u, o, a1, a2, a3, a4, a5, a6, a7, a8, a9, b1, b2, b3, b4, b5, b6⟩ := h1
  have e1 : ch = nI n := a3.2.2.2.2.1
  have e2 : ns = nI zn := a7
  have e3 : old = nI o := b3
  have e4 : psz = nI u := b4
  subst e1; subst e2; subst e3; subst e4
  have e5 : nw 22 = nI n := a2
  have rt := rt_of a1 a3 a4 a5
  by_cases c : inI x 0 (nI n - 1) = true ∧ inI y 0 (nI n - 1) = true ∧ ¬ x = y
  · obtain ⟨c1, c2, c3⟩ := id c
    obtain ⟨i, hi, ei⟩ := inI_child rfl a1 c1
    obtain ⟨j, hj, ej⟩ := inI_child rfl a1 c2
    have ew : btM (rgM nw n x y) 4 = btS (rgB (bitrM nw n) se n x y) 4 := by
      rw [btS_M]
      refine btM_congr 4 (fun q hq => ?_)
      rw [ei, ej]
      exact rg_M rt hi hj (fun e => c3 (by rw [ei, ej, e])) q hq
    refine ⟨btS (rgB (bitrM nw n) se n x y) 4, Unit, Unit, fun _ => (((wo, mi, bi, la, nI n, ki, se, wd, hu, b9), (nI o, nI u, T), (np, nI zn)), i0, i1, kp, (f, len, pl, sa, tk9, vl), (wo1, mi1, bi1, la1, ch1, ki1, se1, wd1, hu1, bt1), sg, rf, ab, bl), fun _ => (nw, rd, asd, img, kpt, txt, sz, abv, blw, bds, nos, fls, att, bgn, tkn, wrd, vlu, sts, bst), ?_, ?_, fun _ _ => ⟨⟨n, zn, u, o, a1, a2, a3, a4, a5, a6, rfl, a8, a9, b1, b2, rfl, rfl, b5, b6⟩, h2, h3, h4, h5, h6⟩⟩
    · exact LC.ofT (wb := [xO G ax (ad 11 0) (ad 11 1) (ad 11 2) (ad 9) (ad 10) (ad 11 3) (ad 11 4) ab bl, oS G (ad 11 0) (ad 0) (ad 1) (ad 2), tW G (ad 0) wo mi bi la (nI n) ki se wd hu b9]) (wb' := [xO G ax (ad 11 0) (ad 11 1) (ad 11 2) (ad 9) (ad 10) (ad 11 3) (ad 11 4) ab bl, oS G (ad 11 0) (ad 0) (ad 1) (ad 2), tW G (ad 0) wo mi bi la (nI n) ki se wd hu b9]) [0, 1, 2] (c_X5_rings_ok l G ax (ad 11 0) (ad 0) (ad 1) (ad 2) (ad 11 1) (ad 11 2) (ad 9) (ad 10) (ad 11 3) (ad 11 4) x y ab bl wo mi bi la n ki se wd hu b9 (bitrM nw n) a1 (rt_bitr (d := (mi, bi, la, hu, b9)) rt) c1 c2 c3) (by decide) (by decide) rfl rfl rfl rfl rfl rfl
    · have hc := c_X6_rings l G am x y nw rd asd img kpt txt sz abv blw bds nos fls att bgn tkn wrd vlu sts bst n a2 a1
      simp only [e5, eq_true c, if_true] at hc
      rw [ew] at hc
      exact LC.ofT (wb := [mY G am (nw, rd, asd, img, kpt, txt, sz, abv, blw, bds, nos, fls, att, bgn, tkn, wrd, vlu, sts, bst)]) (wb' := [mY G am (nw, rd, asd, img, kpt, txt, sz, abv, blw, bds, nos, fls, att, bgn, tkn, wrd, vlu, sts, bst)]) [0] hc (by decide) (by decide) (flat1 _) (flat1 _) rfl rfl rfl rfl
  · have c0 : inI x 0 (nI n - 1) = false ∨ inI y 0 (nI n - 1) = false ∨ x = y := by
      by_cases d1 : inI x 0 (nI n - 1) = true
      · by_cases d2 : inI y 0 (nI n - 1) = true
        · exact Or.inr (Or.inr (Decidable.byContradiction (fun q => c ⟨d1, d2, q⟩)))
        · exact Or.inr (Or.inl (Bool.eq_false_iff.mpr d2))
      · exact Or.inl (Bool.eq_false_iff.mpr d1)
    refine ⟨-2, Unit, Unit, fun _ => (((wo, mi, bi, la, nI n, ki, se, wd, hu, b9), (nI o, nI u, T), (np, nI zn)), i0, i1, kp, (f, len, pl, sa, tk9, vl), (wo1, mi1, bi1, la1, ch1, ki1, se1, wd1, hu1, bt1), sg, upd rf 0 (rf 0 + 1), ab, bl), fun _ => (nw, rd, asd, img, kpt, txt, sz, abv, blw, bds + 1, nos, fls, att, bgn, tkn, wrd, vlu, sts, bst), ?_, ?_, fun _ _ => ⟨⟨n, zn, u, o, a1, a2, a3, a4, a5, a6, rfl, a8, a9, b1, b2, rfl, rfl, b5, b6⟩, h2, h3, rf_0 h4, h5, h6⟩⟩
    · exact LC.ofT (wb := [xO G ax (ad 11 0) (ad 11 1) (ad 11 2) (ad 9) (ad 10) (ad 11 3) (ad 11 4) ab bl, oS G (ad 11 0) (ad 0) (ad 1) (ad 2), tW G (ad 0) wo mi bi la (nI n) ki se wd hu b9, aW G (ad 11 4) 3 rf]) (wb' := [xO G ax (ad 11 0) (ad 11 1) (ad 11 2) (ad 9) (ad 10) (ad 11 3) (ad 11 4) ab bl, oS G (ad 11 0) (ad 0) (ad 1) (ad 2), tW G (ad 0) wo mi bi la (nI n) ki se wd hu b9, aW G (ad 11 4) 3 (upd rf 0 (rf 0 + 1))]) [0, 1, 2, 18] (c_X5_rings_bad l G ax (ad 11 0) (ad 0) (ad 1) (ad 2) (ad 11 1) (ad 11 2) (ad 9) (ad 10) (ad 11 3) (ad 11 4) x y ab bl wo mi bi la n ki se wd hu b9 rf c0) (by decide) (by decide) rfl rfl rfl rfl rfl rfl
    · have hc := c_X6_rings l G am x y nw rd asd img kpt txt sz abv blw bds nos fls att bgn tkn wrd vlu sts bst n a2 a1
      simp only [e5, eq_false c, if_false] at hc
      exact LC.ofT (wb := [mY G am (nw, rd, asd, img, kpt, txt, sz, abv, blw, bds, nos, fls, att, bgn, tkn, wrd, vlu, sts, bst)]) (wb' := [mY G am (nw, rd, asd, img, kpt, txt, sz, abv, blw, bds + 1, nos, fls, att, bgn, tkn, wrd, vlu, sts, bst)]) [0] hc (by decide) (by decide) (flat1 _) (flat1 _) rfl rfl rfl rfl
set_option maxRecDepth 100000 in
theorem op_eyes (l : Launch) (K : KA) (G : GG) (ax : Nat) (ad : Ad) (am : Nat → Nat) (X : XS) (Y : YS) (h : Rel X Y) (x : Int32) : OPi Rel K l G ax ad am yX5_eyes cX5_eyes 4 yX6_eyes cX6_eyes 10 [.int x] X Y := by
  obtain ⟨⟨⟨wo, mi, bi, la, ch, ki, se, wd, hu, b9⟩, ⟨old, psz, T⟩, np, ns⟩, i0, i1, kp, ⟨f, len, pl, sa, tk9, vl⟩, ⟨wo1, mi1, bi1, la1, ch1, ki1, se1, wd1, hu1, bt1⟩, sg, rf, ab, bl⟩ := X
  obtain ⟨nw, rd, asd, img, kpt, txt, sz, abv, blw, bds, nos, fls, att, bgn, tkn, wrd, vlu, sts, bst⟩ := Y
  obtain ⟨h1, h2, h3, h4, h5, h6⟩ := h
  obtain ⟨n, zn, u, o, a1, a2, a3, a4, a5, a6, a7, a8, a9, b1, b2, b3, b4, b5, b6⟩ := h1
  have e1 : ch = nI n := a3.2.2.2.2.1
  have e2 : ns = nI zn := a7
  have e3 : old = nI o := b3
  have e4 : psz = nI u := b4
  subst e1; subst e2; subst e3; subst e4
  have e5 : nw 22 = nI n := a2
  have rt := rt_of a1 a3 a4 a5
  by_cases c : inI x 0 10 = true
  · obtain ⟨xx, -, hxx, ex⟩ := inI_nat (a := 0) (b := 10) (by omega) (by omega) rfl rfl c
    obtain ⟨e, he, ee⟩ := bits6 (t := nw) a1
    have eu : eyU nw n x = e * (10 - xx) := by rw [eyU, ee, nI_clamp (by omega), show x.toNatClampNeg = xx by rw [ex]; exact nI_clamp (by omega)]
    have hu9 : e * (10 - xx) < 61 := Nat.lt_succ_of_le (Nat.le_trans (Nat.mul_le_mul he (show 10 - xx ≤ 10 by omega)) (by omega))
    have et : bcI (bitr wo la n ki se wd hu b9) * (10 - x) = nI (e * (10 - xx)) := by
      rw [show bitr wo la n ki se wd hu b9 = bitrM nw n from rt_bitr (d := (mi, bi, la, hu, b9)) rt, bc_M a1, ee, ex, show (10 : Int32) = nI 10 from rfl, pk_sub hxx, pk_mul]
    generalize e * (10 - xx) = U at eu hu9 et
    obtain ⟨w1, w2⟩ := ey_M U hu9
    obtain ⟨q0, hq0⟩ : ∃ q0, eyC (nI U) 10 = q0 := ⟨_, rfl⟩
    rw [hq0] at w1 w2
    refine ⟨1, Unit, Unit, fun _ => (((wo, mi, bi, la, nI n, ki, se, wd, hu, b9), (nI o, nI u, T), (np, nI zn)), i0, i1, kp, (f, len, pl, sa, tk9, vl), (wo1, mi1, bi1, la1, ch1, ki1, se1, wd1, hu1, bt1), sg, rf, (nI U / nI q0).toInt64, ((10 : Int32) / nI q0).toInt64), fun _ => (nw, rd, asd, img, kpt, txt, sz, (nI U / nI q0).toInt64, ((10 : Int32) / nI q0).toInt64, bds, nos, fls, att, bgn, tkn, wrd, vlu, sts, bst), ?_, ?_, fun _ _ => ⟨⟨n, zn, u, o, a1, a2, a3, a4, a5, a6, rfl, a8, a9, b1, b2, rfl, rfl, b5, b6⟩, h2, h3, h4, rfl, rfl⟩⟩
    · exact LC.ofT (wb := [xO G ax (ad 11 0) (ad 11 1) (ad 11 2) (ad 9) (ad 10) (ad 11 3) (ad 11 4) ab bl, oS G (ad 11 0) (ad 0) (ad 1) (ad 2), tW G (ad 0) wo mi bi la (nI n) ki se wd hu b9]) (wb' := [xO G ax (ad 11 0) (ad 11 1) (ad 11 2) (ad 9) (ad 10) (ad 11 3) (ad 11 4) (((nI U) / nI q0).toInt64) (((10 : Int32) / nI q0).toInt64), oS G (ad 11 0) (ad 0) (ad 1) (ad 2), tW G (ad 0) wo mi bi la (nI n) ki se wd hu b9]) [0, 1, 2] (c_X5_eyes_ok l G ax (ad 11 0) (ad 0) (ad 1) (ad 2) (ad 11 1) (ad 11 2) (ad 9) (ad 10) (ad 11 3) (ad 11 4) x ab bl wo mi bi la n ki se wd hu b9 (nI U) q0 a1 c et hq0) (by decide) (by decide) rfl rfl rfl rfl rfl rfl
    · have hc := c_X6_eyes l G am x nw rd asd img kpt txt sz abv blw bds nos fls att bgn tkn wrd vlu sts bst n a2 a1
      simp only [c, if_true] at hc
      rw [eu, ← w1, ← w2] at hc
      exact LC.ofT (wb := [mY G am (nw, rd, asd, img, kpt, txt, sz, abv, blw, bds, nos, fls, att, bgn, tkn, wrd, vlu, sts, bst)]) (wb' := [mY G am (nw, rd, asd, img, kpt, txt, sz, (nI U / nI q0).toInt64, ((10 : Int32) / nI q0).toInt64, bds, nos, fls, att, bgn, tkn, wrd, vlu, sts, bst)]) [0] hc (by decide) (by decide) (flat1 _) (flat1 _) rfl rfl rfl rfl
  · have c := Bool.eq_false_iff.mpr c
    refine ⟨-2, Unit, Unit, fun _ => (((wo, mi, bi, la, nI n, ki, se, wd, hu, b9), (nI o, nI u, T), (np, nI zn)), i0, i1, kp, (f, len, pl, sa, tk9, vl), (wo1, mi1, bi1, la1, ch1, ki1, se1, wd1, hu1, bt1), sg, upd rf 0 (rf 0 + 1), ab, bl), fun _ => (nw, rd, asd, img, kpt, txt, sz, abv, blw, bds + 1, nos, fls, att, bgn, tkn, wrd, vlu, sts, bst), ?_, ?_, fun _ _ => ⟨⟨n, zn, u, o, a1, a2, a3, a4, a5, a6, rfl, a8, a9, b1, b2, rfl, rfl, b5, b6⟩, h2, h3, rf_0 h4, h5, h6⟩⟩
    · exact LC.ofT (wb := [xO G ax (ad 11 0) (ad 11 1) (ad 11 2) (ad 9) (ad 10) (ad 11 3) (ad 11 4) ab bl, aW G (ad 11 4) 3 rf]) (wb' := [xO G ax (ad 11 0) (ad 11 1) (ad 11 2) (ad 9) (ad 10) (ad 11 3) (ad 11 4) ab bl, aW G (ad 11 4) 3 (upd rf 0 (rf 0 + 1))]) [0, 18] (c_X5_eyes_bad l G ax (ad 11 0) (ad 11 1) (ad 11 2) (ad 9) (ad 10) (ad 11 3) (ad 11 4) x ab bl rf c) (by decide) (by decide) rfl rfl rfl rfl rfl rfl
    · have hc := c_X6_eyes l G am x nw rd asd img kpt txt sz abv blw bds nos fls att bgn tkn wrd vlu sts bst n a2 a1
      simp only [c, Bool.false_eq_true, if_false] at hc
      exact LC.ofT (wb := [mY G am (nw, rd, asd, img, kpt, txt, sz, abv, blw, bds, nos, fls, att, bgn, tkn, wrd, vlu, sts, bst)]) (wb' := [mY G am (nw, rd, asd, img, kpt, txt, sz, abv, blw, bds + 1, nos, fls, att, bgn, tkn, wrd, vlu, sts, bst)]) [0] hc (by decide) (by decide) (flat1 _) (flat1 _) rfl rfl rfl rfl

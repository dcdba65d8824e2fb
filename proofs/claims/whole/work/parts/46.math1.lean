/-! the class's words and the reference's words: one table -/
theorem w87 (w : Int32) : (w + 8) - 1 = w + 7 := by
  rw [Int32.sub_eq_add_neg, Int32.add_assoc]
  rfl
theorem ahS_7 (w : Int32) : ahS w = ah7 w := by unfold ahS ah7; rw [w87]
theorem whm_M (se : Nat → Int32) (n : Nat) (w : Int32) : whm se n w = whM se n w := by unfold whm whM; rw [ahS_7]
theorem nrP_M (h t w : Int32) : nrP h t w = nmP h t w := by
  unfold nrP nmP
  generalize (h + 3 * t) - w / 2 = x
  by_cases h1 : 0 < x
  · rw [if_pos h1, if_pos (Int32.le_of_lt h1)]
  · rw [if_neg h1]
    by_cases h2 : 0 ≤ x
    · rw [if_pos h2]
      have h3 := Int32.not_lt.mp h1
      exact Int32.le_antisymm h2 h3
    · rw [if_neg h2]
theorem nrT_lsr {a c : Nat} (ha : a < 2 ^ 30) (hc : c < 2 ^ 30) : nrT (nI a) (nI c) = lsr (nI a) (nI c / 2) := by
  unfold nrT lsr
  rw [show (2 : Int32) = nI 2 from rfl, pk_div (by omega) (by omega) (by omega)]
  by_cases h : c / 2 < a
  · rw [pk_sub (by omega), if_pos (by rw [show (0 : Int32) = nI 0 from rfl]; exact (nI_ltI (by omega) (by omega)).mpr (by omega)), if_neg (fun q => by have := (nI_leI (by omega) (by omega)).mp q; omega)]
  · rw [if_pos ((nI_leI (by omega) (by omega)).mpr (by omega)), if_neg]
    intro q
    rw [Int32.lt_iff_toInt_lt, pk_sub_toInt (by omega) (by omega), Int32.toInt_zero] at q
    omega
theorem nmP_nat {a b c : Nat} (ha : a < 2 ^ 20) (hb : b < 2 ^ 20) (hc : c < 2 ^ 20) : ∃ d, d < 2 ^ 30 ∧ nmP (nI a) (nI b) (nI c) = nI d := by
  unfold nmP
  rw [show (3 : Int32) = nI 3 from rfl, show (2 : Int32) = nI 2 from rfl, pk_mul, nI_add, pk_div (by omega) (by omega) (by omega)]
  by_cases h : c / 2 ≤ a + 3 * b
  · rw [pk_sub h, if_pos (nI_pos' (by omega))]
    exact ⟨_, by omega, rfl⟩
  · rw [if_neg]
    · exact ⟨0, by omega, rfl⟩
    · intro q
      rw [Int32.le_iff_toInt_le, pk_sub_toInt (by omega) (by omega), Int32.toInt_zero] at q
      omega
theorem nr_M {a b c : Nat} (ha : a < 2 ^ 20) (hb : b < 2 ^ 20) (hc : c < 2 ^ 20) (k x l : Int32) : nr k (nI a) (nI b) (nI c) x l = nm k (nI a) (nI b) (nI c) x l := by
  unfold nr nm
  rw [nrP_M]
  obtain ⟨d, h1, h2⟩ := nmP_nat ha hb hc
  rw [h2, nrT_lsr h1 (by omega)]
theorem andOne (y : Int32) : y &&& 1 = if bt y 0 then 1 else 0 := by
  apply b_ext
  intro i hi
  rw [b_and, b_one i hi]
  by_cases h : bt y 0 = true
  · rw [if_pos h, b_one i hi]
    by_cases h0 : i = 0
    · rw [h0, h]; rfl
    · rw [decide_eq_false h0, Bool.and_false]
  · rw [if_neg h, b_0]
    by_cases h0 : i = 0
    · rw [h0, Bool.eq_false_iff.mpr h, Bool.false_and]
    · rw [decide_eq_false h0, Bool.and_false]
theorem shr1 (x : Int32) {c : Nat} (hc : c < 32) : (x >>> (nI c &&& 31)) &&& 1 = if bt x c then 1 else 0 := by
  have e : bt (x >>> (nI c &&& 31)) 0 = bt x c := by rw [b_sshr c hc x (by omega), if_pos (show c + 0 < 32 by omega), Nat.add_zero]
  rw [andOne, e]
theorem fi_none {f : Nat → Int32} {w : Int32} : ∀ (r i : Nat), fi f w r i = -1 → r + i < 1000 → ∀ j, i ≤ j → j < i + r → ¬ f j = w
  | 0, i, _, _, j, h1, h2 => by omega
  | r + 1, i, h, hb, j, h1, h2 => by
    simp only [fi] at h
    by_cases h0 : f i = w
    · rw [if_pos h0] at h
      exact absurd h (fun q => nI_pos (n := i) (by omega) (by rw [q]; decide))
    · rw [if_neg h0] at h
      by_cases hj : j = i
      · rw [hj]; exact h0
      · exact fi_none r (i + 1) h (by omega) j (by omega) (by omega)
theorem fi_some {f : Nat → Int32} {w : Int32} {n j : Nat} (hn : n < 900) (hj : j < n) (h : f j = w) : ¬ fi f w n 0 = -1 := fun q => fi_none n 0 q (by omega) j (by omega) (by omega) h
theorem tk_bt {se : Nat → Int32} {a : Nat} (ha : a < 32) : ∀ n, (∀ j, j < n → ∃ q, q < 8 ∧ se j = nI q) → n < 900 → bt (tk se n) a = !decide (fi se (nI a) n 0 = -1)
  | 0, _, _ => by rw [tk, b_0]; rfl
  | n + 1, h, hn => by
    obtain ⟨q, hq, eq⟩ := h n (by omega)
    rw [tk, b_or, tk_bt ha n (fun j hj => h j (by omega)) (by omega), eq, bt_sh (by omega) ha]
    by_cases hx : a = q
    · rw [decide_eq_true hx, Bool.or_true, decide_eq_false (fi_some (j := n) hn (by omega) (by rw [eq, hx]))]
      rfl
    · rw [decide_eq_false hx, Bool.or_false]
      congr 1
      rw [decide_eq_decide]
      constructor
      · intro h1
        rcases fi_or (f := se) (w := nI a) (n + 1) 0 with e | ⟨j, -, h2, h3, h4⟩
        · exact e
        · exfalso
          by_cases hjn : j = n
          · rw [hjn, eq] at h4
            exact hx ((nI_eq (by omega) (by omega)).mp h4).symm
          · exact fi_some (f := se) (by omega) (show j < n by omega) h4 h1
      · intro h1
        rcases fi_or (f := se) (w := nI a) n 0 with e | ⟨j, -, h2, h3, h4⟩
        · exact e
        · exact absurd h1 (fi_some hn (show j < n + 1 by omega) h4)
theorem nxS_lt : ∀ a, a < 8 → ∃ c, c < 8 ∧ nxS (nI a) = nI c := by
  have h : ∀ a, a < 8 → ∃ c, c < 8 ∧ nxS (nI a) = nI c := by decide +kernel
  exact h
theorem ah7_lt : ∀ a, a < 8 → ∃ c, c < 8 ∧ ah7 (nI a) = nI c := by decide +kernel
theorem tg_M {se : Nat → Int32} {n a : Nat} (h : ∀ j, j < n → ∃ q, q < 8 ∧ se j = nI q) (hn : n < 900) (ha : a < 8) : tgI (tk se n) (nI a) = tgM se n (nI a) := by
  unfold tgI tgM
  obtain ⟨c, hc, ec⟩ := nxS_lt a ha
  obtain ⟨d, hd, ed⟩ := ah7_lt a ha
  rw [ahS_7, ec, ed, shr1 _ (by omega), shr1 _ (by omega), tk_bt (by omega) n h hn, tk_bt (by omega) n h hn]
  by_cases h1 : fi se (nI c) n 0 = -1 <;> by_cases h2 : fi se (nI d) n 0 = -1 <;> simp [h1, h2]
theorem gd_M : ∀ a, a < 8 → ∀ b, b < 8 → gdd (nI a) (nI b) = gdM (nI a) (nI b) := by decide +kernel
theorem tg_wh {se : Nat → Int32} {n : Nat} {w : Int32} : (tgM se n w ≤ 0 ↔ whM se n w = -1) := by
  unfold tgM whM
  by_cases h1 : fi se (nxS w) n 0 = -1 <;> by_cases h2 : fi se (ah7 w) n 0 = -1 <;> simp [h1, h2] <;> decide
theorem lt12 (x : Int32) : (x < 12) ↔ (x ≤ 11) := by
  rw [Int32.lt_iff_toInt_lt, Int32.le_iff_toInt_le]
  rw [show (12 : Int32).toInt = 12 by decide, show (11 : Int32).toInt = 11 by decide]
  omega
theorem bc_bits : ∀ v, v < 64 → bcI (nI v) = bitsV (nI v) := by decide +kernel
theorem bites_M {se ki wd hu b9 : Nat → Int32} {wo la : Int32} {n i : Nat} {nw : Nat → Int32} (hse : ∀ j, j < n → se j = nw j) (h : ∀ j, j < n → ∃ q, q < 8 ∧ nw j = nI q) (hn : n < 900) (hi : i < n) (hwo : ∃ q, q < 8 ∧ wo = nI q) (hw20 : wo = nw 20) (hla : la = nw 19) (hki : ki i = nw (23 + i)) (hwd : wd i = nw (29 + i)) (hhu : hu i = nw (6 + i)) (hbt : b9 i = nw (12 + i)) (bw : ∃ c, c < 2 ^ 20 ∧ nw (29 + i) = nI c) (bh : ∃ c, c < 2 ^ 20 ∧ nw (6 + i) = nI c) :
    bitesC wo la ki se wd hu b9 (tk se n) i = bitesM nw n i := by
  have hs : ∀ j, j < n → ∃ q, q < 8 ∧ se j = nI q := fun j hj => by rw [hse j hj]; exact h j hj
  obtain ⟨a, ha, ea⟩ := hs i hi
  obtain ⟨o, ho, eo⟩ := hwo
  obtain ⟨c, hc, ec⟩ := bw
  obtain ⟨d, hd, ed⟩ := bh
  have e1 : tgI (tk se n) (se i) = tgM nw n (nw i) := by
    rw [ea, tg_M hs hn ha, ← ea, hse i hi]
    unfold tgM
    rw [fi_congr n 0 (fun j _ h2 => hse j (by omega)), fi_congr n 0 (fun j _ h2 => hse j (by omega))]
  have e2 : ∃ g, g < 2 ^ 20 ∧ tgM nw n (nw i) = nI g := by
    unfold tgM
    by_cases h1 : fi nw (nxS (nw i)) n 0 = -1 <;> by_cases h2 : fi nw (ah7 (nw i)) n 0 = -1 <;> simp only [h1, h2, if_true, if_false]
    · exact ⟨0, by omega, rfl⟩
    · exact ⟨1, by omega, rfl⟩
    · exact ⟨1, by omega, rfl⟩
    · exact ⟨2, by omega, rfl⟩
  obtain ⟨g, hg, eg⟩ := e2
  have e3 : nr (ki i) (hu i) (tgI (tk se n) (se i)) (wd i) (b9 i) la = nmOf nw n i := by
    unfold nmOf
    rw [e1, hki, hwd, hhu, hbt, hla, ec, ed, eg]
    exact nr_M hd hg hc _ _ _
  unfold bitesC bitesM
  rw [e3, e1, ea, eo, gd_M o ho a ha, ← eo, ← ea, hse i hi, hw20]
  have e4 : decide (tgM nw n (nw i) ≤ 0) = decide (whM nw n (nw i) = -1) := by rw [decide_eq_decide]; exact tg_wh
  have e5 : decide (nmOf nw n i < 12) = decide (nmOf nw n i ≤ 11) := by rw [decide_eq_decide]; exact lt12 _
  rw [e4, e5]
  cases decide (whM nw n (nw i) = -1) <;> cases gdM (nw 20) (nw i) <;> cases decide (nmOf nw n i ≤ 11) <;> rfl
theorem btM_congr {f g : Nat → Bool} : ∀ n, (∀ i, i < n → f i = g i) → btM f n = btM g n
  | 0, _ => rfl
  | n + 1, h => by rw [btM, btM, btM_congr n (fun i hi => h i (by omega)), h n (by omega)]

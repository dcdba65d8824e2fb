/-! minutes: a table of the class, and the reference's row -/
def RT (n : Nat) (wo : Int32) (ki se wd : Nat → Int32) (d : Dy) (t : Nat → Int32) : Prop :=
  n ≤ 6 ∧ wo = t 20 ∧ (∃ a, a < 8 ∧ t 20 = nI a) ∧ d.1 = t 21 ∧ d.2.1 = t 18 ∧ d.2.2.1 = t 19 ∧ ∀ j, j < n → se j = t j ∧ d.2.2.2.1 j = t (6 + j) ∧ d.2.2.2.2 j = t (12 + j) ∧ ki j = t (23 + j) ∧ wd j = t (29 + j) ∧ (∃ a, a < 8 ∧ t j = nI a) ∧ (∃ a, a ≤ 30 ∧ t (6 + j) = nI a) ∧ ∃ a, a < 1000 ∧ t (29 + j) = nI a
theorem rt_of {n : Nat} {wo mi bi la : Int32} {ki se wd hu b9 nw : Nat → Int32} (hn : n ≤ 6) (h : RelC n (wo, mi, bi, la, nI n, ki, se, wd, hu, b9) nw) (hK : RelK n (wo, mi, bi, la, nI n, ki, se, wd, hu, b9) nw) (h5 : ∀ j, j < n → (∃ a, a ≤ 5 ∧ nw (23 + j) = nI a) ∧ ∃ a, a ≤ 20 ∧ nw (29 + j) = nI a) : RT n wo ki se wd (mi, bi, la, hu, b9) nw := by
  obtain ⟨h1, h2, h3, h4, h6, h7, h8, h9, -, -⟩ := h
  refine ⟨hn, h1, h7, h2, h3, h4, fun j hj => ?_⟩
  obtain ⟨g1, g2, g3, g4, g5⟩ := h9 j hj
  obtain ⟨a, ha, ea⟩ := (h5 j hj).2
  exact ⟨g1, g2, g3, (hK j hj).1, (hK j hj).2, g4, g5, a, by omega, ea⟩
section RTS
variable {n : Nat} {wo : Int32} {ki se wd : Nat → Int32} {d : Dy} {t : Nat → Int32}
theorem rt_tg (h : RT n wo ki se wd d t) {k : Nat} (hk : k < n) : tgI (tk se n) (se k) = tgM t n (t k) := by
  obtain ⟨h1, -, -, -, -, -, h7⟩ := h
  have hse : ∀ j, j < n → se j = t j := fun j hj => (h7 j hj).1
  have hs : ∀ j, j < n → ∃ q, q < 8 ∧ se j = nI q := fun j hj => by rw [hse j hj]; exact (h7 j hj).2.2.2.2.2.1
  obtain ⟨a, ha, ea⟩ := hs k hk
  rw [ea, tg_M hs (by omega) ha, ← ea, hse k hk]
  unfold tgM
  rw [fi_congr n 0 (fun j _ h2 => hse j (by omega)), fi_congr n 0 (fun j _ h2 => hse j (by omega))]
theorem tgM_nat (t : Nat → Int32) (n : Nat) (w : Int32) : ∃ g, g ≤ 2 ∧ tgM t n w = nI g := by
  unfold tgM
  by_cases h1 : fi t (nxS w) n 0 = -1 <;> by_cases h2 : fi t (ah7 w) n 0 = -1 <;> simp only [h1, h2, if_true, if_false]
  · exact ⟨0, by omega, rfl⟩
  · exact ⟨1, by omega, rfl⟩
  · exact ⟨1, by omega, rfl⟩
  · exact ⟨2, by omega, rfl⟩
theorem rt_wh (h : RT n wo ki se wd d t) {k : Nat} (hk : k < n) : whm se n (se k) = whM t n (t k) := by
  obtain ⟨h1, -, -, -, -, -, h7⟩ := h
  rw [whm_M, (h7 k hk).1]
  exact whM_congr (fun j hj => (h7 j hj).1) _
theorem rt_nr (h : RT n wo ki se wd d t) {k : Nat} (hk : k < n) : nr (ki k) (d.2.2.2.1 k) (tgI (tk se n) (se k)) (wd k) (d.2.2.2.2 k) d.2.2.1 = nmOf t n k := by
  rw [rt_tg h hk]
  obtain ⟨h1, -, -, -, -, h6, h7⟩ := h
  obtain ⟨q1, q2, q3, q4, q5, -, ⟨a, ha, ea⟩, ⟨b, hb, eb⟩⟩ := h7 k hk
  obtain ⟨g, hg, eg⟩ := tgM_nat t n (t k)
  unfold nmOf
  rw [q2, q3, q4, q5, h6, ea, eb, eg]
  exact nr_M (by omega) (by omega) (by omega) _ _ _
theorem rt_bitr (h : RT n wo ki se wd d t) : bitr wo d.2.2.1 n ki se wd d.2.2.2.1 d.2.2.2.2 = bitrM t n := by
  obtain ⟨h1, h2, h3, h4, h5, h6, h7⟩ := h
  unfold bitr bitrM
  rw [btS_M]
  exact btM_congr n (fun i hi => bites_M (fun j hj => (h7 j hj).1) (fun j hj => (h7 j hj).2.2.2.2.2.1) (by omega) hi (by rw [h2]; exact h3) h2 h6 (h7 i hi).2.2.2.1 (h7 i hi).2.2.2.2.1 (h7 i hi).2.1 (h7 i hi).2.2.1 (by obtain ⟨a, ha, ea⟩ := (h7 i hi).2.2.2.2.2.2.2; exact ⟨a, by omega, ea⟩) (by obtain ⟨a, ha, ea⟩ := (h7 i hi).2.2.2.2.2.2.1; exact ⟨a, by omega, ea⟩))
end RTS
theorem bc_M {t : Nat → Int32} {n : Nat} (hn : n ≤ 6) : bcI (bitrM t n) = bitsV (bitrM t n) := by
  obtain ⟨v, hv, e⟩ := btM_small (f := bitesM t n) hn
  unfold bitrM
  rw [e]
  exact bc_bits v hv
theorem bits6 {t : Nat → Int32} {n : Nat} (hn : n ≤ 6) : ∃ c, c ≤ 6 ∧ bitsV (bitrM t n) = nI c := bitsV_btM hn
def hgv (b : Bool) (h : Int32) : Int32 := (if b then lsr h 8 else h) + (if 30 ≤ (if b then lsr h 8 else h) then 0 else 1)
def hgc (b : Bool) (h : Int32) : Int32 := if (if b then (if 0 < h - 8 then h - 8 else 0) else h) + 1 < 30 then (if b then (if 0 < h - 8 then h - 8 else 0) else h) + 1 else 30
theorem hgv_eq : ∀ b : Bool, ∀ a, a < 31 → ∃ c, c < 31 ∧ hgv b (nI a) = nI c ∧ hgc b (nI a) = nI c := by decide +kernel
theorem gM_6 {set : Int32} {J : Nat → Nat} {t : Nat → Int32} {j : Nat} (hj : j < 6) : ∀ k, k ≤ 6 → gM set J t k (6 + j) = if j < k then hgv (hasI set (nI j)) (t (6 + j)) else t (6 + j)
  | 0, _ => by rw [gM, if_neg (by omega)]
  | k + 1, hk => by
    have ih := gM_6 (set := set) (J := J) (t := t) hj k (by omega)
    simp only [gM, gS]
    by_cases e : j = k
    · subst e
      rw [if_neg (by omega)] at ih
      rw [upd_at, if_pos (show j < j + 1 by omega)]
      unfold hgv
      by_cases hs : hasI set (nI j) = true
      · rw [if_pos hs, if_pos hs, upd_at, upd_ne _ _ (by omega), ih]
      · rw [if_neg hs, if_neg hs, ih]
    · rw [upd_ne _ _ (by omega)]
      have ik : (if j < k + 1 then hgv (hasI set (nI j)) (t (6 + j)) else t (6 + j)) = gM set J t k (6 + j) := by
        rw [ih]
        by_cases hl : j < k
        · rw [if_pos hl, if_pos (by omega)]
        · rw [if_neg hl, if_neg (by omega)]
      rw [ik]
      by_cases hs : hasI set (nI k) = true
      · rw [if_pos hs, upd_ne _ _ (by omega), upd_ne _ _ (by omega)]
      · rw [if_neg hs]
theorem gM_12 {set : Int32} {J : Nat → Nat} {t se : Nat → Int32} {n j : Nat} (hJ : ∀ k, k < n → hasI set (nI k) = true → (J k = j ↔ whm se n (se k) = nI j)) (hn : n ≤ 6) : ∀ k, k ≤ n → gM set J t k (12 + j) = t (12 + j) + tmS se n set (nI j) k
  | 0, _ => by rw [gM, tmS, Int32.add_zero]
  | k + 1, hk => by
    have ih := gM_12 (t := t) hJ hn k (by omega)
    simp only [gM, gS, tmS]
    rw [upd_ne _ _ (by omega)]
    have eB : hasB set k = hasI set (nI k) := rfl
    rw [eB]
    by_cases hs : hasI set (nI k) = true
    · rw [if_pos hs, upd_ne _ _ (by omega), hs, Bool.true_and]
      by_cases e : J k = j
      · rw [e, upd_at, ih, decide_eq_true ((hJ k (by omega) hs).mp e), if_pos rfl, Int32.add_assoc]
      · rw [upd_ne _ _ (by omega), ih, decide_eq_false (fun q => e ((hJ k (by omega) hs).mpr q)), if_neg Bool.false_ne_true]
    · rw [if_neg hs, Bool.eq_false_iff.mpr hs, Bool.false_and, if_neg Bool.false_ne_true, ih]
theorem goM_18 {t : Nat → Int32} {n : Nat} (hn : n ≤ 6) : goM t n 18 = t 18 + bitsV (bitrM t n) := by
  simp only [goM, gE3, gE2, gE1]
  rw [upd_ne _ _ (by omega), upd_at, upd_ne _ _ (by omega), upd_at, gM_out hn (by omega) n (Nat.le_refl n)]
theorem goM_19 {t : Nat → Int32} {n : Nat} : goM t n 19 = bitsV (bitrM t n) := by
  simp only [goM, gE3, gE2, gE1]
  rw [upd_ne _ _ (by omega), upd_ne _ _ (by omega), upd_at]
theorem goM_21 {t : Nat → Int32} {n : Nat} (hn : n ≤ 6) : goM t n 21 = t 21 + 1 := by
  simp only [goM, gE3, gE2, gE1]
  rw [upd_at, upd_ne _ _ (by omega), upd_ne _ _ (by omega), gM_out hn (by omega) n (Nat.le_refl n)]
theorem goM_in {t : Nat → Int32} {n i : Nat} (hi : 6 ≤ i) (h2 : i < 18) : goM t n i = gM (bitrM t n) (whJ t n) t n i := by
  simp only [goM, gE3, gE2, gE1]
  rw [upd_ne _ _ (by omega), upd_ne _ _ (by omega), upd_ne _ _ (by omega)]
theorem rt_step {n : Nat} {wo : Int32} {ki se wd : Nat → Int32} {d : Dy} {t : Nat → Int32} (h : RT n wo ki se wd d t) : RT n wo ki se wd (pm1 wo n ki se wd d) (goM t n) := by
  have hb := rt_bitr h
  have hwh := fun k (hk : k < n) => rt_wh h hk
  obtain ⟨h1, h2, h3, h4, h5, h6, h7⟩ := h
  have hc := bc_M (t := t) h1
  refine ⟨h1, by rw [goM_out h1 (by omega)]; exact h2, by rw [goM_out h1 (by omega)]; exact h3, ?_, ?_, ?_, fun j hj => ?_⟩
  · show d.1 + 1 = _
    rw [goM_21 h1, h4]
  · show d.2.1 + bcI (bitr wo d.2.2.1 n ki se wd d.2.2.2.1 d.2.2.2.2) = _
    rw [hb, hc, goM_18 h1, h5]
  · show bcI (bitr wo d.2.2.1 n ki se wd d.2.2.2.1 d.2.2.2.2) = _
    rw [hb, hc, goM_19]
  · obtain ⟨q1, q2, q3, q4, q5, q6, ⟨a, ha, ea⟩, q8⟩ := h7 j hj
    obtain ⟨c, hc1, hc2, hc3⟩ := hgv_eq (hasI (bitrM t n) (nI j)) a (by omega)
    have e6 : goM t n (6 + j) = nI c := by rw [goM_in (by omega) (by omega), gM_6 (by omega) n h1, if_pos hj, ea, hc2]
    refine ⟨by rw [goM_out h1 (by omega)]; exact q1, ?_, ?_, by rw [goM_out h1 (by omega)]; exact q4, by rw [goM_out h1 (by omega)]; exact q5, by rw [goM_out h1 (by omega)]; exact q6, ⟨c, by omega, e6⟩, by rw [goM_out h1 (by omega)]; exact q8⟩
    · show pre (fH (bitr wo d.2.2.1 n ki se wd d.2.2.2.1 d.2.2.2.2) d.2.2.2.1) d.2.2.2.1 n j = _
      rw [pre_lt _ _ hj, hb, e6, ← hc3, ← ea, ← q2]
      rfl
    · show pre (fB se n (bitr wo d.2.2.1 n ki se wd d.2.2.2.1 d.2.2.2.2) d.2.2.2.2) d.2.2.2.2 n j = _
      rw [pre_lt _ _ hj, hb, goM_in (by omega) (by omega), gM_12 (se := se) (fun k hk hs => ?_) h1 n (Nat.le_refl n), fB, q3]
      obtain ⟨i, hi, ei⟩ := bitrM_has h1 hs hk
      rw [hwh k hk, whJ, ei, nI_clamp (by omega)]
      exact (nI_eq (by omega) (by omega)).symm
theorem rt_N {n : Nat} {wo : Int32} {ki se wd : Nat → Int32} {d : Dy} {t : Nat → Int32} (h : RT n wo ki se wd d t) : ∀ k, RT n wo ki se wd (pmN wo n ki se wd k d) (goN n k t)
  | 0 => h
  | k + 1 => rt_step (rt_N h k)
theorem goN_comm {n : Nat} : ∀ (k : Nat) (t : Nat → Int32), goN n (k + 1) t = goN n k (goM t n)
  | 0, _ => rfl
  | k + 1, t => by rw [goN, goN_comm k t]; rfl
theorem mnL_min {n : Nat} (hn : n ≤ 6) : ∀ (x : Nat) (t : Nat → Int32) (m : Nat), m ≤ 999 → t 21 = nI m → mnL n x t = goN n (min x (999 - m)) t
  | 0, t, m, _, _ => by rw [Nat.zero_min]; rfl
  | x + 1, t, m, hm, ht => by
    rw [mnL]
    by_cases h : m = 999
    · rw [if_pos (by rw [ht, h]; decide), show min (x + 1) (999 - m) = 0 by omega]
      rfl
    · rw [if_neg (fun q => by rw [ht, show (999 : Int32) = nI 999 from rfl] at q; have := (nI_leI (by omega) (by omega)).mp q; omega), mnL_min hn x (goM t n) (m + 1) (by omega) (by rw [goM_21 hn, ht, show (1 : Int32) = nI 1 from rfl, nI_add]), ← goN_comm]
      exact congrArg (fun k => goN n k t) (by omega)
theorem goN_18 {n : Nat} (hn : n ≤ 6) (t : Nat → Int32) : ∀ k, ∃ c, c ≤ 6 * k ∧ goN n k t 18 = t 18 + nI c
  | 0 => ⟨0, by omega, by rw [goN]; exact (Int32.add_zero _).symm⟩
  | k + 1 => by
    obtain ⟨c, hc, ec⟩ := goN_18 hn t k
    obtain ⟨b, hb, eb⟩ := bits6 (t := goN n k t) hn
    exact ⟨c + b, by omega, by rw [goN, goM_18 hn, ec, eb, Int32.add_assoc, nI_add]⟩
theorem add_sub_same (a b : Int32) : (a + b) - a = b := by
  rw [Int32.sub_eq_add_neg, Int32.add_comm a b, Int32.add_assoc, ← Int32.sub_eq_add_neg, Int32.sub_self, Int32.add_zero]
theorem brM_nat {n : Nat} (hn : n ≤ 6) (t : Nat → Int32) (k : Nat) : ∃ c, c ≤ 6 * k ∧ brM n k t = nI c := by
  obtain ⟨c, hc, ec⟩ := goN_18 hn t k
  exact ⟨c, hc, by rw [brM, ec, add_sub_same]⟩
theorem rt_br {n : Nat} {wo : Int32} {ki se wd : Nat → Int32} {d : Dy} {t : Nat → Int32} (h : RT n wo ki se wd d t) (k : Nat) : (pmN wo n ki se wd k d).2.1 - d.2.1 = brM n k t := by
  rw [(rt_N h k).2.2.2.2.1, h.2.2.2.2.1]
  rfl

/-! seats: all ways in their order -/
def cntN (p : Nat → Bool) : Nat → Nat
  | 0 => 0
  | j + 1 => cntN p j + (if p j then 1 else 0)
theorem cnt_IN (p : Nat → Bool) : ∀ k, cntI p k = nI (cntN p k)
  | 0 => rfl
  | k + 1 => by
    rw [cntI, cntN, cnt_IN p k]
    by_cases h : p k = true
    · rw [if_pos h, if_pos h]; exact nI_1 _
    · rw [if_neg h, if_neg h]; exact Int32.add_zero _
theorem cntN_le (p : Nat → Bool) : ∀ k, cntN p k ≤ k
  | 0 => Nat.le_refl 0
  | k + 1 => by
    have := cntN_le p k
    rw [cntN]
    split <;> omega
theorem cntN_mono {p q : Nat → Bool} : ∀ k, (∀ j, j < k → p j = true → q j = true) → cntN p k ≤ cntN q k
  | 0, _ => Nat.le_refl 0
  | k + 1, h => by
    have ih := cntN_mono (p := p) (q := q) k (fun j hj => h j (by omega))
    rw [cntN, cntN]
    by_cases hp : p k = true
    · rw [if_pos hp, if_pos (h k (by omega) hp)]; omega
    · rw [if_neg hp]; omega
theorem cntN_cut {f : Nat → Bool} {k : Nat} : ∀ m, cntN (fun j => decide (j < k) && f j) m = cntN f (min m k)
  | 0 => by rw [Nat.zero_min]; rfl
  | m + 1 => by
    rw [cntN, cntN_cut m]
    by_cases h : m < k
    · rw [show min (m + 1) k = m + 1 by omega, show min m k = m by omega, cntN, decide_eq_true h, Bool.true_and]
    · rw [show min (m + 1) k = min m k by omega, decide_eq_false h, Bool.false_and, if_neg Bool.false_ne_true, Nat.add_zero]
theorem bc_cnt {f : Nat → Bool} {k : Nat} (hk : k ≤ 6) : bcI (btM f k) = nI (cntN f k) := by
  have e : btM f k = btM (fun j => decide (j < k) && f j) 6 := by
    apply b_ext
    intro i hi
    rw [btM_bt hi k (by omega), btM_bt hi 6 (by omega)]
    by_cases h : i < k
    · rw [decide_eq_true h, decide_eq_true (show i < 6 by omega), Bool.true_and, Bool.true_and]
    · rw [decide_eq_false h, Bool.false_and, Bool.and_false]
  obtain ⟨c, hc, e1, e2⟩ := cnt_bc (fun j => decide (j < k) && f j)
  rw [e, e1, ← e2, cnt_IN, cntN_cut, show min 6 k = k by omega]
theorem cost_N {t : Nat → Int32} {n : Nat} (hn : n ≤ 6) : bitsV (bitrM t n) = nI (cntN (bitesM t n) n) := by
  rw [← bc_M hn]
  exact bc_cnt hn
def nmN (k : Int32) (h g w b l : Nat) : Nat := if k = 1 then (h + 3 * g - w / 2) + 4 else if k = 2 then (h + 3 * g - w / 2) - w / 2 else if k = 3 then (h + 3 * g - w / 2) + 3 * l else if k = 4 then ((h + 3 * g - w / 2) + 3 * l) + 2 * b else if k = 5 then ((h + 3 * g - w / 2) - w / 2) / 2 else h + 3 * g - w / 2
theorem nmN_mono {k : Int32} {h g g' w b l : Nat} (hg : g ≤ g') : nmN k h g w b l ≤ nmN k h g' w b l := by
  unfold nmN
  split
  · omega
  · split
    · omega
    · split
      · omega
      · split
        · omega
        · split <;> omega
theorem nmP_eq {a b c : Nat} (ha : a < 2 ^ 20) (hb : b < 2 ^ 20) (hc : c < 2 ^ 20) : nmP (nI a) (nI b) (nI c) = nI (a + 3 * b - c / 2) := by
  unfold nmP
  rw [show (3 : Int32) = nI 3 from rfl, show (2 : Int32) = nI 2 from rfl, pk_mul, nI_add, pk_div (by omega) (by omega) (by omega)]
  by_cases h : c / 2 ≤ a + 3 * b
  · rw [pk_sub h, if_pos (nI_pos' (by omega))]
  · rw [if_neg]
    · rw [show a + 3 * b - c / 2 = 0 by omega]
      rfl
    · intro q
      rw [Int32.le_iff_toInt_le, pk_sub_toInt (by omega) (by omega), Int32.toInt_zero] at q
      omega
theorem lsr_eq {a c : Nat} (ha : a < 2 ^ 30) (hc : c < 2 ^ 30) : lsr (nI a) (nI c) = nI (a - c) := by
  unfold lsr
  by_cases h : a ≤ c
  · rw [if_pos ((nI_leI (by omega) (by omega)).mpr h), show a - c = 0 by omega]
    rfl
  · rw [if_neg (fun q => h ((nI_leI (by omega) (by omega)).mp q)), pk_sub (by omega)]
theorem nm_eq {k : Int32} {h g w b l : Nat} (hh : h < 1000) (hg : g < 1000) (hw : w < 1000) (hb : b < 100000) (hl : l < 1000) : nm k (nI h) (nI g) (nI w) (nI b) (nI l) = nI (nmN k h g w b l) := by
  have e2 : nI w / 2 = nI (w / 2) := by rw [show (2 : Int32) = nI 2 from rfl, pk_div (by omega) (by omega) (by omega)]
  unfold nm nmN
  rw [nmP_eq (by omega) (by omega) (by omega), e2, lsr_eq (by omega) (by omega)]
  by_cases k1 : k = 1
  · rw [if_pos k1, if_pos k1, show (4 : Int32) = nI 4 from rfl, nI_add]
  rw [if_neg k1, if_neg k1]
  by_cases k2 : k = 2
  · rw [if_pos k2, if_pos k2]
  rw [if_neg k2, if_neg k2]
  by_cases k3 : k = 3
  · rw [if_pos k3, if_pos k3, show (3 : Int32) = nI 3 from rfl, pk_mul, nI_add]
  rw [if_neg k3, if_neg k3]
  by_cases k4 : k = 4
  · rw [if_pos k4, if_pos k4, show (3 : Int32) = nI 3 from rfl, show (2 : Int32) = nI 2 from rfl, pk_mul, pk_mul, nI_add, nI_add]
  rw [if_neg k4, if_neg k4]
  by_cases k5 : k = 5
  · rw [if_pos k5, if_pos k5, show (2 : Int32) = nI 2 from rfl, pk_div (by omega) (by omega) (by omega)]
  rw [if_neg k5, if_neg k5]
theorem fi_sup {t u : Nat → Int32} {k n : Nat} (hk : k ≤ n) (hn : n ≤ 6) (e : ∀ j, j < k → u j = t j) (w : Int32) (h : ¬ fi t w k 0 = -1) : ¬ fi u w n 0 = -1 := by
  rcases fi_or (f := t) (w := w) k 0 with h1 | ⟨j, -, h2, -, h4⟩
  · exact absurd h1 h
  · exact fi_some (f := u) (by omega) (show j < n by omega) ((e j (by omega)).trans h4)
theorem fi_no {f : Nat → Int32} {w : Int32} {n : Nat} (h : ∀ j, j < n → ¬ f j = w) : fi f w n 0 = -1 := by
  rcases fi_or (f := f) (w := w) n 0 with h1 | ⟨j, -, h2, -, h4⟩
  · exact h1
  · exact absurd h4 (h j (by omega))
def tgN (t : Nat → Int32) (n : Nat) (w : Int32) : Nat := (if fi t (nxS w) n 0 = -1 then 0 else 1) + (if fi t (ah7 w) n 0 = -1 then 0 else 1)
theorem tgM_N (t : Nat → Int32) (n : Nat) (w : Int32) : tgM t n w = nI (tgN t n w) := by
  unfold tgM tgN
  by_cases h1 : fi t (nxS w) n 0 = -1 <;> by_cases h2 : fi t (ah7 w) n 0 = -1 <;> simp only [h1, h2, if_true, if_false] <;> rfl
theorem tgN_le (t : Nat → Int32) (n : Nat) (w : Int32) : tgN t n w ≤ 2 := by
  unfold tgN
  split <;> split <;> omega
theorem tgN_mono {t u : Nat → Int32} {k n : Nat} (hk : k ≤ n) (hn : n ≤ 6) (e : ∀ j, j < k → u j = t j) (w : Int32) : tgN t k w ≤ tgN u n w := by
  have q : ∀ w, (if fi t w k 0 = -1 then 0 else 1) ≤ (if fi u w n 0 = -1 then (0 : Nat) else 1) := fun w => by
    by_cases h1 : fi t w k 0 = -1
    · rw [if_pos h1]; exact Nat.zero_le _
    · rw [if_neg h1, if_neg (fi_sup hk hn e w h1)]; exact Nat.le_refl _
  exact Nat.add_le_add (q _) (q _)
theorem wh_no {t : Nat → Int32} {n : Nat} {w : Int32} : whM t n w = -1 ↔ (fi t (nxS w) n 0 = -1 ∧ fi t (ah7 w) n 0 = -1) := by
  unfold whM
  by_cases h1 : fi t (nxS w) n 0 = -1
  · rw [if_pos h1]; exact ⟨fun h => ⟨h1, h⟩, fun h => h.2⟩
  · rw [if_neg h1]; exact ⟨fun h => absurd h h1, fun h => absurd h.1 h1⟩
/-- the fixed part of a table, and a row with other seats -/
def FX (n : Nat) (wo la : Int32) (ki wd hu b9 nw : Nat → Int32) : Prop := n ≤ 6 ∧ wo = nw 20 ∧ (∃ a, a < 8 ∧ nw 20 = nI a) ∧ la = nw 19 ∧ (∃ a, a ≤ 6 ∧ nw 19 = nI a) ∧ ∀ j, j < n → hu j = nw (6 + j) ∧ b9 j = nw (12 + j) ∧ ki j = nw (23 + j) ∧ wd j = nw (29 + j) ∧ (∃ a, a ≤ 30 ∧ nw (6 + j) = nI a) ∧ (∃ a, a < 1000 ∧ nw (29 + j) = nI a) ∧ ∃ a, a ≤ 6000 ∧ nw (12 + j) = nI a
section SEAT
variable {n : Nat} {wo la : Int32} {ki wd hu b9 nw : Nat → Int32}
theorem bites_mono {t u : Nat → Int32} {k m i : Nat} (hF : FX n wo la ki wd hu b9 nw) (hkm : k ≤ m) (hm : m ≤ n) (hi : i < k) (et : ∀ j, 6 ≤ j → t j = nw j) (eu : ∀ j, 6 ≤ j → u j = nw j) (e : ∀ j, j < k → u j = t j) (h : bitesM t k i = true) : bitesM u m i = true := by
  obtain ⟨hn, -, -, -, ⟨l, hl, el⟩, h7⟩ := hF
  obtain ⟨-, -, -, -, ⟨a, ha, ea⟩, ⟨w, hw, ew⟩, ⟨b, hb, eb⟩⟩ := h7 i (by omega)
  unfold bitesM at h ⊢
  simp only [Bool.and_eq_true, Bool.not_eq_true', decide_eq_false_iff_not] at h ⊢
  obtain ⟨h1, h2, h3⟩ := h
  have g1 := tgN_le t k (t i)
  have g2 := tgN_le u m (t i)
  have g3 := tgN_mono (t := t) (u := u) hkm (by omega) e (t i)
  refine ⟨?_, ?_, ?_⟩
  · unfold nmOf at h1 ⊢
    rw [et (23 + i) (by omega), et (6 + i) (by omega), et (29 + i) (by omega), et (12 + i) (by omega), et 19 (by omega), tgM_N, ea, ew, eb, el, nm_eq (by omega) (by omega) hw (by omega) (by omega)] at h1
    rw [eu (23 + i) (by omega), eu (6 + i) (by omega), eu (29 + i) (by omega), eu (12 + i) (by omega), eu 19 (by omega), e i hi, tgM_N, ea, ew, eb, el, nm_eq (by omega) (by omega) hw (by omega) (by omega)]
    have g4 := nmN_mono (k := nw (23 + i)) (h := a) (w := w) (b := b) (l := l) g3
    have b1 : nmN (nw (23 + i)) a (tgN u m (t i)) w b l < 100000 := by
      unfold nmN
      split
      · omega
      · split
        · omega
        · split
          · omega
          · split
            · omega
            · split <;> omega
    generalize nmN (nw (23 + i)) a (tgN u m (t i)) w b l = Y at g4 b1 ⊢
    generalize nmN (nw (23 + i)) a (tgN t k (t i)) w b l = X at g4 h1
    rw [show (11 : Int32) = nI 11 from rfl, nI_leI (by omega) (by omega)] at h1 ⊢
    omega
  · rw [eu 20 (by omega), e i hi]
    rw [et 20 (by omega)] at h2
    exact h2
  · rw [e i hi]
    intro q
    have q2 := wh_no.mp q
    refine h3 (wh_no.mpr ⟨?_, ?_⟩)
    · exact Decidable.byContradiction (fun z => fi_sup hkm (by omega) e _ z q2.1)
    · exact Decidable.byContradiction (fun z => fi_sup hkm (by omega) e _ z q2.2)
def foldP {α : Type} (g : Nat → α → α) : Nat → α → α
  | 0, x => x
  | q + 1, x => g q (foldP g q x)
theorem fold_inv {α : Type} {P : α → Prop} {g : Nat → α → α} (h : ∀ q x, P x → P (g q x)) {x : α} (hx : P x) : ∀ k, P (foldP g k x)
  | 0 => hx
  | k + 1 => h k _ (fold_inv h hx k)
abbrev EP : Type := Int32 × (Nat → Int32)
def EXs (n : Nat) : Nat → Nat → (Nat → Int32) → EP → EP
  | 0, _, t, x => if x.1 ≤ bitsV (bitrM t n) then x else (bitsV (bitrM t n), t)
  | r + 1, dd, t, x => foldP (fun q x => if fi t (nI q) dd 0 = -1 then EXs n r (dd + 1) (upd t dd (nI q)) x else x) 8 x
theorem ex_stay (hF : FX n wo la ki wd hu b9 nw) : ∀ (r dd : Nat) (t : Nat → Int32) (x : EP) (c : Nat), dd + r = n → (∀ j, 6 ≤ j → t j = nw j) → x.1 = nI c → c ≤ cntN (bitesM t dd) dd → EXs n r dd t x = x
  | 0, dd, t, x, c, h1, h2, h3, h4 => by
    have hn := hF.1
    have e : dd = n := by omega
    subst e
    have := cntN_le (bitesM t dd) dd
    rw [EXs, cost_N hn, h3, if_pos ((nI_leI (by omega) (by omega)).mpr h4)]
  | r + 1, dd, t, x, c, h1, h2, h3, h4 => by
    have hn := hF.1
    rw [EXs]
    refine fold_inv (P := fun y => y = x) (fun q y hy => ?_) rfl 8
    subst hy
    split
    · refine ex_stay hF r (dd + 1) (upd t dd (nI q)) y c (by omega) (fun j hj => by rw [upd_ne _ _ (by omega)]; exact h2 j hj) h3 ?_
      have m1 := cntN_mono (p := bitesM t dd) (q := bitesM (upd t dd (nI q)) (dd + 1)) dd (fun j hj hb => bites_mono hF (by omega) (by omega) hj h2 (fun j hj => by rw [upd_ne _ _ (by omega)]; exact h2 j hj) (fun j hj => upd_ne _ _ (by omega)) hb)
      rw [cntN]
      omega
    · rfl
def GD (x : EP) : Prop := ∃ c, c ≤ 6 ∧ x.1 = nI c
theorem ex_A (hn : n ≤ 6) : ∀ (r dd : Nat) (t : Nat → Int32) (x : EP), GD x → GD (EXs n r dd t x)
  | 0, dd, t, x, h => by
    rw [EXs]
    split
    · exact h
    · have := cntN_le (bitesM t n) n
      exact ⟨_, by omega, cost_N hn⟩
  | r + 1, dd, t, x, h => by
    rw [EXs]
    refine fold_inv (P := GD) (fun q y hy => ?_) h 8
    split
    · exact ex_A hn r _ _ y hy
    · exact hy
theorem ex_OK (hn : n ≤ 6) : ∀ (r dd : Nat) (t : Nat → Int32) (x : EP), (GD x ∨ x.1 = 1000000) → (GD (EXs n r dd t x) ∨ (EXs n r dd t x).1 = 1000000)
  | 0, dd, t, x, h => by
    rw [EXs]
    split
    · exact h
    · have := cntN_le (bitesM t n) n
      exact Or.inl ⟨_, by omega, cost_N hn⟩
  | r + 1, dd, t, x, h => by
    rw [EXs]
    refine fold_inv (P := fun y : EP => GD y ∨ y.1 = 1000000) (fun q y hy => ?_) h 8
    split
    · exact ex_OK hn r _ _ y hy
    · exact hy
theorem ex_B (hn : n ≤ 6) (hd : ∀ i, i < n → ∀ j, j < n → nw i = nw j → i = j) (hs : ∀ j, j < n → ∃ a, a < 8 ∧ nw j = nI a) : ∀ (r dd : Nat) (t : Nat → Int32) (x : EP), dd + r = n → (∀ j, j < dd → t j = nw j) → (GD x ∨ x.1 = 1000000) → GD (EXs n r dd t x)
  | 0, dd, t, x, h1, h2, h => by
    have := cntN_le (bitesM t n) n
    rw [EXs]
    split
    · rename_i hle
      rcases h with h | h
      · exact h
      · rw [h, cost_N hn, show (1000000 : Int32) = nI 1000000 from rfl, nI_leI (by omega) (by omega)] at hle
        omega
    · exact ⟨_, by omega, cost_N hn⟩
  | r + 1, dd, t, x, h1, h2, h => by
    rw [EXs]
    obtain ⟨q0, hq0, eq0⟩ := hs dd (by omega)
    have free : fi t (nI q0) dd 0 = -1 := fi_no (fun j hj e => by
      rw [h2 j hj, ← eq0] at e
      have := hd j (by omega) dd (by omega) e
      omega)
    have key : ∀ k, (GD (foldP (fun q x => if fi t (nI q) dd 0 = -1 then EXs n r (dd + 1) (upd t dd (nI q)) x else x) k x) ∨ (foldP (fun q x => if fi t (nI q) dd 0 = -1 then EXs n r (dd + 1) (upd t dd (nI q)) x else x) k x).1 = 1000000) ∧ (q0 < k → GD (foldP (fun q x => if fi t (nI q) dd 0 = -1 then EXs n r (dd + 1) (upd t dd (nI q)) x else x) k x)) := by
      intro k
      induction k with
      | zero => exact ⟨h, fun q => absurd q (by omega)⟩
      | succ k ih =>
        rw [foldP]
        generalize foldP (fun q x => if fi t (nI q) dd 0 = -1 then EXs n r (dd + 1) (upd t dd (nI q)) x else x) k x = y at ih ⊢
        by_cases hf : fi t (nI k) dd 0 = -1
        · rw [if_pos hf]
          refine ⟨ex_OK hn r _ _ y ih.1, fun hq => ?_⟩
          by_cases e : q0 = k
          · subst e
            refine ex_B hn hd hs r (dd + 1) _ y (by omega) (fun j hj => ?_) ih.1
            by_cases ej : j = dd
            · rw [ej, upd_at, eq0]
            · rw [upd_ne _ _ ej]; exact h2 j (by omega)
          · exact ex_A hn r _ _ y (ih.2 (by omega))
        · rw [if_neg hf]
          refine ⟨ih.1, fun hq => ih.2 ?_⟩
          by_cases e : q0 = k
          · subst e; exact absurd free hf
          · omega
    exact (key 8).2 hq0
theorem sqL_succ (F : Nat) (x : Sq) (h : ¬ x.1 = 0) : sqL n (F + 1) x = sqL n F (sqS n x) := by rw [sqL, if_neg h]
theorem fi_clr {t te : Nat → Int32} {dd q : Nat} (hn : n ≤ 6) (hdd : dd < n) (hq : q < 8) (e : ∀ j, j < dd ∨ n ≤ j → t j = te j) : fi (clr t dd n) (nI q) n 0 = -1 ↔ fi te (nI q) dd 0 = -1 := by
  constructor
  · intro h
    refine fi_no (fun j hj ej => fi_some (f := clr t dd n) (by omega) (show j < n by omega) ?_ h)
    rw [clr_out (by omega), e j (by omega)]
    exact ej
  · intro h
    refine fi_no (fun j hj ej => ?_)
    by_cases hl : j < dd
    · rw [clr_out (by omega), e j (by omega)] at ej
      exact fi_some (f := te) (by omega) hl ej h
    · rw [clr, if_pos ⟨by omega, by omega⟩] at ej
      exact nI_pos (n := q) (by omega) (by rw [← ej]; decide)
theorem q7 : ∀ q, q < 8 → (nI q - 1) + 1 = nI q ∧ nI q ≤ 7 := by decide +kernel
theorem sq_run (hn : n ≤ 6) : ∀ (r dd : Nat), dd + r = n → ∀ (b : Int32) (s t st te : Nat → Int32), (∀ j, j < dd ∨ n ≤ j → t j = te j) → (0 < r → st dd = -1) → ∃ (F : Nat) (t' st' : Nat → Int32), (∀ G, sqL n (F + G) (dd + 1, b, t, st, s) = sqL n G (dd, (EXs n r dd te (b, s)).1, t', st', (EXs n r dd te (b, s)).2)) ∧ (∀ j, j < dd ∨ n ≤ j → t' j = t j) ∧ (∀ j, j < dd → st' j = st j)
  | 0, dd, h1, b, s, t, st, te, h2, h3 => by
    have e : dd = n := by omega
    subst e
    have et : t = te := funext (fun j => h2 j (by omega))
    subst et
    refine ⟨1, t, st, fun G => ?_, fun _ _ => rfl, fun _ _ => rfl⟩
    rw [Nat.add_comm 1 G, sqL_succ G _ (by show ¬ dd + 1 = 0; omega), sqS, if_pos (by show dd + 1 - 1 = dd; omega), EXs]
    show sqL dd G (dd + 1 - 1, (if b ≤ bitsV (bitrM t dd) then b else bitsV (bitrM t dd)), t, st, (if b ≤ bitsV (bitrM t dd) then s else t)) = sqL dd G (dd, (if b ≤ bitsV (bitrM t dd) then (b, s) else (bitsV (bitrM t dd), t)).1, t, st, (if b ≤ bitsV (bitrM t dd) then (b, s) else (bitsV (bitrM t dd), t)).2)
    rw [show dd + 1 - 1 = dd by omega]
    by_cases hb : b ≤ bitsV (bitrM t dd)
    · rw [if_pos hb, if_pos hb, if_pos hb]
    · rw [if_neg hb, if_neg hb, if_neg hb]
  | r + 1, dd, h1, b, s, t0, st0, te, h2, h3 => by
    rw [EXs]
    have inner : ∀ (c q : Nat), q + c = 8 → ∀ (t st : Nat → Int32), (∀ j, j < dd ∨ n ≤ j → t j = te j) → st dd = nI q - 1 → ∃ (F : Nat) (t' st' : Nat → Int32), (∀ G, sqL n (F + G) (dd + 1, (foldP (fun q x => if fi te (nI q) dd 0 = -1 then EXs n r (dd + 1) (upd te dd (nI q)) x else x) q (b, s)).1, t, st, (foldP (fun q x => if fi te (nI q) dd 0 = -1 then EXs n r (dd + 1) (upd te dd (nI q)) x else x) q (b, s)).2) = sqL n G (dd, (foldP (fun q x => if fi te (nI q) dd 0 = -1 then EXs n r (dd + 1) (upd te dd (nI q)) x else x) 8 (b, s)).1, t', st', (foldP (fun q x => if fi te (nI q) dd 0 = -1 then EXs n r (dd + 1) (upd te dd (nI q)) x else x) 8 (b, s)).2)) ∧ (∀ j, j < dd ∨ n ≤ j → t' j = t j) ∧ (∀ j, j < dd → st' j = st j) := by
      intro c
      induction c with
      | zero =>
        intro q hq t st g1 g2
        have e8 : q = 8 := by omega
        subst e8
        generalize foldP (fun q x => if fi te (nI q) dd 0 = -1 then EXs n r (dd + 1) (upd te dd (nI q)) x else x) 8 (b, s) = y
        refine ⟨1, clr t dd n, upd st dd (st dd + 1), fun G => ?_, fun j hj => clr_out (by omega), fun j hj => upd_ne _ _ (by omega)⟩
        rw [Nat.add_comm 1 G, sqL_succ G _ (by show ¬ dd + 1 = 0; omega), sqS, if_neg (by show ¬ dd + 1 - 1 = n; omega), if_neg (by show ¬ st (dd + 1 - 1) + 1 ≤ 7; rw [show dd + 1 - 1 = dd by omega, g2]; decide)]
        show sqL n G (dd + 1 - 1, y.1, clr t (dd + 1 - 1) n, upd st (dd + 1 - 1) (st (dd + 1 - 1) + 1), y.2) = _
        rw [show dd + 1 - 1 = dd by omega]
      | succ c ih =>
        intro q hq t st g1 g2
        obtain ⟨k1, k2⟩ := q7 q (by omega)
        have e1 : st dd + 1 = nI q := by rw [g2]; exact k1
        have nxt := fun t st => ih (q + 1) (by omega) t st
        rw [foldP] at nxt
        generalize foldP (fun q x => if fi te (nI q) dd 0 = -1 then EXs n r (dd + 1) (upd te dd (nI q)) x else x) 8 (b, s) = z at nxt ⊢
        generalize foldP (fun q x => if fi te (nI q) dd 0 = -1 then EXs n r (dd + 1) (upd te dd (nI q)) x else x) q (b, s) = y at nxt ⊢
        have st1 : ∀ G, sqL n (G + 1) (dd + 1, y.1, t, st, y.2) = sqL n G (if fi (clr t dd n) (nI q) n 0 = -1 then (dd + 1 + 1, y.1, upd (clr t dd n) dd (nI q), (if n ≤ dd + 1 then upd st dd (nI q) else upd (upd st dd (nI q)) (dd + 1) (-1)), y.2) else (dd + 1, y.1, clr t dd n, upd st dd (nI q), y.2)) := fun G => by
          rw [sqL_succ G _ (by show ¬ dd + 1 = 0; omega), sqS, if_neg (by show ¬ dd + 1 - 1 = n; omega)]
          show sqL n G (if st (dd + 1 - 1) + 1 ≤ 7 then (if fi (clr t (dd + 1 - 1) n) (st (dd + 1 - 1) + 1) n 0 = -1 then (dd + 1 + 1, y.1, upd (clr t (dd + 1 - 1) n) (dd + 1 - 1) (st (dd + 1 - 1) + 1), (if n ≤ dd + 1 - 1 + 1 then upd st (dd + 1 - 1) (st (dd + 1 - 1) + 1) else upd (upd st (dd + 1 - 1) (st (dd + 1 - 1) + 1)) (dd + 1 - 1 + 1) (-1)), y.2) else (dd + 1, y.1, clr t (dd + 1 - 1) n, upd st (dd + 1 - 1) (st (dd + 1 - 1) + 1), y.2)) else (dd + 1 - 1, y.1, clr t (dd + 1 - 1) n, upd st (dd + 1 - 1) (st (dd + 1 - 1) + 1), y.2)) = _
          rw [show dd + 1 - 1 = dd by omega, e1, if_pos k2]
        by_cases hf : fi te (nI q) dd 0 = -1
        · rw [if_pos hf] at nxt
          rw [if_pos ((fi_clr hn (by omega) (by omega) g1).mpr hf)] at st1
          have a1 : ∀ j, j < dd + 1 ∨ n ≤ j → upd (clr t dd n) dd (nI q) j = upd te dd (nI q) j := fun j hj => by
            by_cases ej : j = dd
            · rw [ej, upd_at, upd_at]
            · rw [upd_ne _ _ ej, upd_ne _ _ ej, clr_out (by omega)]
              exact g1 j (by omega)
          obtain ⟨F1, t2, s2, p1, p2, p3⟩ := sq_run hn r (dd + 1) (by omega) y.1 y.2 (upd (clr t dd n) dd (nI q)) (if n ≤ dd + 1 then upd st dd (nI q) else upd (upd st dd (nI q)) (dd + 1) (-1)) (upd te dd (nI q)) a1 (fun hr => by rw [if_neg (by omega), upd_at])
          have e2 : s2 dd = nI (q + 1) - 1 := by
            rw [p3 dd (by omega), nI_pred]
            split
            · rw [upd_at]
            · rw [upd_ne _ _ (by omega), upd_at]
          obtain ⟨F2, t3, s3, r1, r2, r3⟩ := nxt t2 s2 (fun j hj => by
            rw [p2 j (by omega), a1 j (by omega)]
            exact upd_ne _ _ (by omega)) e2
          refine ⟨F1 + F2 + 1, t3, s3, fun G => ?_, fun j hj => ?_, fun j hj => ?_⟩
          · rw [show F1 + F2 + 1 + G = (F1 + (F2 + G)) + 1 by omega, st1, p1, r1]
          · rw [r2 j hj, p2 j (by omega), upd_ne _ _ (by omega), clr_out (by omega)]
          · rw [r3 j hj, p3 j (by omega)]
            split
            · rw [upd_ne _ _ (by omega)]
            · rw [upd_ne _ _ (by omega), upd_ne _ _ (by omega)]
        · rw [if_neg hf] at nxt
          rw [if_neg (fun z => hf ((fi_clr hn (by omega) (by omega) g1).mp z))] at st1
          obtain ⟨F2, t3, s3, r1, r2, r3⟩ := nxt (clr t dd n) (upd st dd (nI q)) (fun j hj => by rw [clr_out (by omega)]; exact g1 j hj) (by rw [upd_at, nI_pred])
          refine ⟨F2 + 1, t3, s3, fun G => ?_, fun j hj => ?_, fun j hj => ?_⟩
          · rw [show F2 + 1 + G = (F2 + G) + 1 by omega, st1, r1]
          · rw [r2 j hj, clr_out (by omega)]
          · rw [r3 j hj, upd_ne _ _ (by omega)]
    exact inner 8 0 (by omega) t0 st0 h2 (by rw [h3 (by omega)]; decide)
/-- the class's best and the reference's -/
def STb (n : Nat) (few : Int32) (sg : Nat → Int32) (x : EP) : Prop := (∃ c, c ≤ 6 ∧ few = nI c ∧ x.1 = nI c ∧ ∀ j, j < n → sg j = x.2 j) ∨ (few = nI (n + 1) ∧ x.1 = 1000000)
theorem rt_row (hF : FX n wo la ki wd hu b9 nw) {k : Nat} (hk : k ≤ n) {se te : Nat → Int32} (ht : ∀ j, 6 ≤ j → te j = nw j) (hs : ∀ j, j < k → se j = te j ∧ ∃ a, a < 8 ∧ te j = nI a) : RT k wo ki se wd (nw 21, nw 18, la, hu, b9) te := by
  obtain ⟨h1, h2, h3, h4, -, h7⟩ := hF
  refine ⟨by omega, by rw [ht 20 (by omega)]; exact h2, by rw [ht 20 (by omega)]; exact h3, (ht 21 (by omega)).symm, (ht 18 (by omega)).symm, by rw [ht 19 (by omega)]; exact h4, fun j hj => ?_⟩
  obtain ⟨q1, q2, q3, q4, q5, q6, -⟩ := h7 j (by omega)
  rw [ht (6 + j) (by omega), ht (12 + j) (by omega), ht (23 + j) (by omega), ht (29 + j) (by omega)]
  exact ⟨(hs j hj).1, q1, q2, q3, q4, (hs j hj).2, q5, q6⟩
theorem cl_run (hF : FX n wo la ki wd hu b9 nw) : ∀ (d k : Nat) (few : Int32) (se sg te : Nat → Int32) (x : EP), k ≤ n → n - k + 1 ≤ d → (∀ j, 6 ≤ j → te j = nw j) → (∀ j, j < k → se j = te j ∧ ∃ a, a < 8 ∧ te j = nI a) → STb n few sg x → STb n (srC wo la n ki wd hu b9 d k few se sg).1 (srC wo la n ki wd hu b9 d k few se sg).2.2.2 (EXs n (n - k) k te x) ∧ ∀ j, j < k → (srC wo la n ki wd hu b9 d k few se sg).2.2.1 j = se j
  | 0, k, few, se, sg, te, x, h1, h2, _, _, _ => absurd h2 (by omega)
  | d + 1, k, few, se, sg, te, x, h1, h2, ht, hs, hx => by
    have hn := hF.1
    have rt := rt_row hF h1 ht hs
    have ev : bcI (bitr wo la k ki se wd hu b9) = nI (cntN (bitesM te k) k) := by
      have e0 := rt_bitr rt
      have e0 : bitr wo la k ki se wd hu b9 = bitrM te k := e0
      rw [e0]
      exact bc_cnt (by omega)
    have hc := cntN_le (bitesM te k) k
    rw [srC, ev]
    by_cases hp : few ≤ nI (cntN (bitesM te k) k)
    · rw [if_pos hp]
      rcases hx with ⟨c, c1, c2, c3, c4⟩ | ⟨c1, c2⟩
      · rw [c2] at hp
        have hle := (nI_leI (by omega) (by omega)).mp hp
        rw [ex_stay hF (n - k) k te x c (by omega) ht c3 hle]
        exact ⟨Or.inl ⟨c, c1, c2, c3, c4⟩, fun _ _ => rfl⟩
      · rw [c1] at hp
        have := (nI_leI (by omega) (by omega)).mp hp
        omega
    · rw [if_neg hp]
      by_cases hk : n ≤ k ∨ 6 ≤ k
      · rw [if_pos hk]
        have e : k = n := by omega
        subst e
        rw [Nat.sub_self, EXs, cost_N hn]
        have hgt : ¬ x.1 ≤ nI (cntN (bitesM te k) k) := by
          rcases hx with ⟨c, c1, c2, c3, c4⟩ | ⟨c1, c2⟩
          · rw [c3, ← c2]; exact hp
          · rw [c2, show (1000000 : Int32) = nI 1000000 from rfl, nI_leI (by omega) (by omega)]
            omega
        rw [if_neg hgt]
        exact ⟨Or.inl ⟨_, by omega, rfl, rfl, fun j hj => (hs j hj).1⟩, fun _ _ => rfl⟩
      · rw [if_neg hk, show n - k = (n - (k + 1)) + 1 by omega, EXs]
        have key : ∀ q, q ≤ 8 → STb n (fold8 (fun q x => if fi x.2.2.1 (nI q) k 0 = -1 then srC wo la n ki wd hu b9 d (k + 1) x.1 (upd x.2.2.1 k (nI q)) x.2.2.2 else (x.1, nI k, x.2.2.1, x.2.2.2)) q (few, nI k, se, sg)).1 (fold8 (fun q x => if fi x.2.2.1 (nI q) k 0 = -1 then srC wo la n ki wd hu b9 d (k + 1) x.1 (upd x.2.2.1 k (nI q)) x.2.2.2 else (x.1, nI k, x.2.2.1, x.2.2.2)) q (few, nI k, se, sg)).2.2.2 (foldP (fun q x => if fi te (nI q) k 0 = -1 then EXs n (n - (k + 1)) (k + 1) (upd te k (nI q)) x else x) q x) ∧ ∀ j, j < k → (fold8 (fun q x => if fi x.2.2.1 (nI q) k 0 = -1 then srC wo la n ki wd hu b9 d (k + 1) x.1 (upd x.2.2.1 k (nI q)) x.2.2.2 else (x.1, nI k, x.2.2.1, x.2.2.2)) q (few, nI k, se, sg)).2.2.1 j = se j := by
          intro q
          induction q with
          | zero => exact fun _ => ⟨hx, fun _ _ => rfl⟩
          | succ q ih =>
            intro hq
            obtain ⟨i1, i2⟩ := ih (by omega)
            rw [fold8, foldP]
            generalize fold8 (fun q x => if fi x.2.2.1 (nI q) k 0 = -1 then srC wo la n ki wd hu b9 d (k + 1) x.1 (upd x.2.2.1 k (nI q)) x.2.2.2 else (x.1, nI k, x.2.2.1, x.2.2.2)) q (few, nI k, se, sg) = y at i1 i2 ⊢
            generalize foldP (fun q x => if fi te (nI q) k 0 = -1 then EXs n (n - (k + 1)) (k + 1) (upd te k (nI q)) x else x) q x = w at i1 ⊢
            have ef : fi y.2.2.1 (nI q) k 0 = fi te (nI q) k 0 := fi_congr k 0 (fun j _ g => by rw [i2 j (by omega)]; exact (hs j (by omega)).1)
            rw [ef]
            by_cases hf : fi te (nI q) k 0 = -1
            · rw [if_pos hf, if_pos hf]
              obtain ⟨r1, r2⟩ := cl_run hF d (k + 1) y.1 (upd y.2.2.1 k (nI q)) y.2.2.2 (upd te k (nI q)) w (by omega) (by omega) (fun j hj => by rw [upd_ne _ _ (by omega)]; exact ht j hj) (fun j hj => by
                by_cases ej : j = k
                · rw [ej, upd_at, upd_at]; exact ⟨rfl, q, by omega, rfl⟩
                · rw [upd_ne _ _ ej, upd_ne _ _ ej, i2 j (by omega)]; exact hs j (by omega)) i1
              refine ⟨r1, fun j hj => ?_⟩
              rw [r2 j (by omega), upd_ne _ _ (by omega)]
              exact i2 j hj
            · rw [if_neg hf, if_neg hf]
              exact ⟨i1, i2⟩
        exact key 8 (by omega)
theorem seat_M (hF : FX n wo la ki wd hu b9 nw) (hd : ∀ i, i < n → ∀ j, j < n → nw i = nw j → i = j) (hs : ∀ j, j < n → ∃ a, a < 8 ∧ nw j = nI a) (se sg bs st : Nat → Int32) : ∃ (F : Nat) (r1 : Int32) (r2 : Nat → Int32), sqL n F (1, 1000000, nw, upd st 0 (-1), bs) = some (r1, r2) ∧ (srC wo la n ki wd hu b9 7 0 (nI n + 1) se sg).1 = r1 ∧ ∀ j, j < n → (srC wo la n ki wd hu b9 7 0 (nI n + 1) se sg).2.2.2 j = r2 j := by
  have hn := hF.1
  obtain ⟨F, t', st', p1, -, -⟩ := sq_run hn n 0 (by omega) 1000000 bs nw (upd st 0 (-1)) nw (fun _ _ => rfl) (fun _ => upd_at _ _ _)
  obtain ⟨c, hc, ec⟩ := ex_B hn hd hs n 0 nw (1000000, bs) (by omega) (fun j hj => absurd hj (by omega)) (Or.inr rfl)
  have cl := (cl_run hF 7 0 (nI n + 1) se sg nw (1000000, bs) (by omega) (by omega) (fun _ _ => rfl) (fun j hj => absurd hj (by omega)) (Or.inr ⟨nI_1 n, rfl⟩)).1
  rw [Nat.sub_zero] at cl
  refine ⟨F + 1, (EXs n n 0 nw (1000000, bs)).1, (EXs n n 0 nw (1000000, bs)).2, ?_, ?_⟩
  · rw [p1 1]
    rfl
  · rcases cl with ⟨c', h1, h2, h3, h4⟩ | ⟨h1, h2⟩
    · exact ⟨h2.trans h3.symm, h4⟩
    · rw [ec, show (1000000 : Int32) = nI 1000000 from rfl] at h2
      have := (nI_eq (by omega) (by omega)).mp h2
      omega
end SEAT

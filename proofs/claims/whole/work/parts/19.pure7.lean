/-! the reference's reading of a text -/
abbrev Sc : Type := Nat × Int32 × Int32 × Int64 × Int32
def hrM (txt : Nat → Int32) (z p : Nat) : Int32 := if z ≤ p then -1 else txt p
def skM (txt : Nat → Int32) (z : Nat) : Nat → Nat → Nat
  | 0, p => p
  | r + 1, p => if hrM txt z p = 32 then skM txt z r (p + 1) else p
theorem hr_lt {txt : Nat → Int32} {z p : Nat} (h : ¬ hrM txt z p = -1) : p < z := by
  rcases Nat.lt_or_ge p z with q | q
  · exact q
  · exact absurd (by rw [hrM, if_pos q]) h
theorem skM_step {txt : Nat → Int32} {z p : Nat} (h : hrM txt z p = 32) : skM txt z (z - p) p = skM txt z (z - (p + 1)) (p + 1) := by
  have hp : p < z := hr_lt (txt := txt) (by rw [h]; decide)
  rw [show z - p = (z - (p + 1)) + 1 by omega, skM, if_pos h]
theorem skM_end {txt : Nat → Int32} {z p : Nat} (h : ¬ hrM txt z p = 32) : ∀ r, skM txt z r p = p
  | 0 => rfl
  | r + 1 => by rw [skM, if_neg h]
def wlM (txt : Nat → Int32) (z b : Nat) : Nat → Int64 → Nat → Int64 × Nat
  | 0, w, e => (w, e)
  | r + 1, w, e => if inI (hrM txt z e) 97 122 then wlM txt z b r (if 6 ≤ e - b then -1 else w * 256 + (hrM txt z e).toInt64) (e + 1) else (w, e)
def vlM (txt : Nat → Int32) (z b : Nat) : Nat → Int32 → Nat → Int32 × Nat
  | 0, v, e => (v, e)
  | r + 1, v, e => if inI (hrM txt z e) 48 57 then vlM txt z b r (if 2 ≤ e - b then v else (10 * v + hrM txt z e) - 48) (e + 1) else (v, e)
theorem in_lt {txt : Nat → Int32} {z e : Nat} {a b : Int32} (ha : (-1 : Int32) < a) (h : inI (hrM txt z e) a b = true) : e < z := by
  refine hr_lt (txt := txt) (fun q => ?_)
  rw [q] at h
  simp only [inI, Bool.and_eq_true, Bool.not_eq_true', decide_eq_false_iff_not] at h
  exact h.1 ha
theorem wlM_step {txt : Nat → Int32} {z b e : Nat} {w : Int64} (h : inI (hrM txt z e) 97 122 = true) : wlM txt z b (z - e) w e = wlM txt z b (z - (e + 1)) (if 6 ≤ e - b then -1 else w * 256 + (hrM txt z e).toInt64) (e + 1) := by
  have := in_lt (by decide) h
  rw [show z - e = (z - (e + 1)) + 1 by omega, wlM, if_pos h]
theorem wlM_end {txt : Nat → Int32} {z b e : Nat} {w : Int64} (h : inI (hrM txt z e) 97 122 = false) : ∀ r, wlM txt z b r w e = (w, e)
  | 0 => rfl
  | r + 1 => by rw [wlM, h]; rfl
theorem vlM_step {txt : Nat → Int32} {z b e : Nat} {v : Int32} (h : inI (hrM txt z e) 48 57 = true) : vlM txt z b (z - e) v e = vlM txt z b (z - (e + 1)) (if 2 ≤ e - b then v else (10 * v + hrM txt z e) - 48) (e + 1) := by
  have := in_lt (by decide) h
  rw [show z - e = (z - (e + 1)) + 1 by omega, vlM, if_pos h]
theorem vlM_end {txt : Nat → Int32} {z b e : Nat} {v : Int32} (h : inI (hrM txt z e) 48 57 = false) : ∀ r, vlM txt z b r v e = (v, e)
  | 0 => rfl
  | r + 1 => by rw [vlM, h]; rfl
def stQ (txt : Nat → Int32) (z q : Nat) : Sc :=
  if 0 ≤ hrM txt z q then
   (if inI (hrM txt z q) 97 122 then ((wlM txt z q (z - q) 0 q).2, nI q, 1, (wlM txt z q (z - q) 0 q).1, 0)
  else if inI (hrM txt z q) 48 57 then ((vlM txt z q (z - q) 0 q).2, nI q, (if (vlM txt z q (z - q) 0 q).2 - q ≤ 2 then 2 else 4), 0, (vlM txt z q (z - q) 0 q).1)
  else if hrM txt z q = 59 then (q + 1, nI q, 3, 0, 0) else (q + 1, nI q, 4, 0, 0)) else (q, nI q, 0, 0, 0)
def stM (txt : Nat → Int32) (z p : Nat) : Sc := stQ txt z (skM txt z (z - p) p)
theorem skM_le {txt : Nat → Int32} {z : Nat} : ∀ r p, p ≤ skM txt z r p ∧ (p ≤ z → skM txt z r p ≤ z)
  | 0, p => ⟨Nat.le_refl p, fun h => h⟩
  | r + 1, p => by
    rw [skM]
    by_cases h : hrM txt z p = 32
    · rw [if_pos h]
      have hp : p < z := hr_lt (txt := txt) (by rw [h]; decide)
      have := skM_le (txt := txt) (z := z) r (p + 1)
      exact ⟨by omega, fun _ => this.2 (by omega)⟩
    · rw [if_neg h]
      exact ⟨Nat.le_refl p, fun h => h⟩
theorem wlM_le {txt : Nat → Int32} {z b : Nat} : ∀ r w e, e ≤ (wlM txt z b r w e).2 ∧ (e ≤ z → (wlM txt z b r w e).2 ≤ z)
  | 0, w, e => ⟨Nat.le_refl e, fun h => h⟩
  | r + 1, w, e => by
    rw [wlM]
    by_cases h : inI (hrM txt z e) 97 122 = true
    · rw [if_pos h]
      have := in_lt (by decide) h
      have h2 := wlM_le (txt := txt) (z := z) (b := b) r (if 6 ≤ e - b then -1 else w * 256 + (hrM txt z e).toInt64) (e + 1)
      exact ⟨by omega, fun _ => h2.2 (by omega)⟩
    · rw [if_neg h]
      exact ⟨Nat.le_refl e, fun h => h⟩
theorem vlM_le {txt : Nat → Int32} {z b : Nat} : ∀ r v e, e ≤ (vlM txt z b r v e).2 ∧ (e ≤ z → (vlM txt z b r v e).2 ≤ z)
  | 0, v, e => ⟨Nat.le_refl e, fun h => h⟩
  | r + 1, v, e => by
    rw [vlM]
    by_cases h : inI (hrM txt z e) 48 57 = true
    · rw [if_pos h]
      have := in_lt (by decide) h
      have h2 := vlM_le (txt := txt) (z := z) (b := b) r (if 2 ≤ e - b then v else (10 * v + hrM txt z e) - 48) (e + 1)
      exact ⟨by omega, fun _ => h2.2 (by omega)⟩
    · rw [if_neg h]
      exact ⟨Nat.le_refl e, fun h => h⟩
theorem stQ_le {txt : Nat → Int32} {z q : Nat} (hq : q ≤ z) : q ≤ (stQ txt z q).1 ∧ (stQ txt z q).1 ≤ z ∧ (stQ txt z q).2.1 = nI q ∧ (¬ (stQ txt z q).2.2.1 = 0 → q < (stQ txt z q).1) := by
  unfold stQ
  by_cases h0 : ¬ 0 ≤ hrM txt z q
  · rw [if_neg h0]; exact ⟨Nat.le_refl q, hq, rfl, fun h => absurd rfl h⟩
  · have h0 := Decidable.of_not_not h0
    have hz : q < z := hr_lt (txt := txt) (fun e => absurd h0 (by rw [e]; decide))
    rw [if_pos h0]
    by_cases h1 : inI (hrM txt z q) 97 122 = true
    · rw [if_pos h1]
      have h2 := wlM_le (txt := txt) (z := z) (b := q) (z - q) 0 q
      have h3 := wlM_step (b := q) (w := 0) h1
      have h4 := wlM_le (txt := txt) (z := z) (b := q) (z - (q + 1)) (if 6 ≤ q - q then -1 else 0 * 256 + (hrM txt z q).toInt64) (q + 1)
      rw [← h3] at h4
      exact ⟨h2.1, h2.2 hq, rfl, fun _ => by show q < (wlM txt z q (z - q) 0 q).2; omega⟩
    · rw [if_neg h1]
      by_cases h5 : inI (hrM txt z q) 48 57 = true
      · rw [if_pos h5]
        have h2 := vlM_le (txt := txt) (z := z) (b := q) (z - q) 0 q
        have h3 := vlM_step (b := q) (v := 0) h5
        have h4 := vlM_le (txt := txt) (z := z) (b := q) (z - (q + 1)) (if 2 ≤ q - q then 0 else (10 * 0 + hrM txt z q) - 48) (q + 1)
        rw [← h3] at h4
        exact ⟨h2.1, h2.2 hq, rfl, fun _ => by show q < (vlM txt z q (z - q) 0 q).2; omega⟩
      · rw [if_neg h5]
        by_cases h6 : hrM txt z q = 59
        · rw [if_pos h6]; exact ⟨by show q ≤ q + 1; omega, hz, rfl, fun _ => Nat.lt_succ_self q⟩
        · rw [if_neg h6]; exact ⟨by show q ≤ q + 1; omega, hz, rfl, fun _ => Nat.lt_succ_self q⟩
theorem stM_le {txt : Nat → Int32} {z p : Nat} (hp : p ≤ z) : p ≤ (stM txt z p).1 ∧ (stM txt z p).1 ≤ z ∧ (∃ q, q ≤ z ∧ (stM txt z p).2.1 = nI q) ∧ (¬ (stM txt z p).2.2.1 = 0 → p < (stM txt z p).1) := by
  have h1 := skM_le (txt := txt) (z := z) (z - p) p
  have h2 := stQ_le (txt := txt) (h1.2 hp)
  unfold stM
  have h3 := h1.2 hp
  exact ⟨by omega, h2.2.1, ⟨_, h3, h2.2.2.1⟩, fun h => by have := h2.2.2.2 h; omega⟩
def nbM (S : Sc) (x : Int32) : Bool := decide (S.2.2.1 = 2) && !decide (x < S.2.2.2.2)
theorem vl_nat {txt : Nat → Int32} {z b : Nat} : ∀ (r : Nat) (v : Int32) (e a : Nat), b ≤ e → v = nI a → a ≤ (if e = b then 0 else if e = b + 1 then 9 else 99) → ∃ a', a' ≤ 99 ∧ (vlM txt z b r v e).1 = nI a'
  | 0, v, e, a, _, h, ha => ⟨a, by split at ha <;> (try split at ha) <;> omega, h⟩
  | r + 1, v, e, a, hb, h, ha => by
    rw [vlM]
    by_cases hi : inI (hrM txt z e) 48 57 = true
    · rw [if_pos hi]
      obtain ⟨c, h1, h2, h3⟩ := inI_nat (a := 48) (b := 57) (by omega) (by omega) rfl rfl hi
      by_cases h4 : 2 ≤ e - b
      · rw [if_pos h4]
        refine vl_nat r v (e + 1) a (by omega) h ?_
        rw [if_neg (by omega), if_neg (by omega)] at ha ⊢
        exact ha
      · rw [if_neg h4]
        refine vl_nat r _ (e + 1) (10 * a + c - 48) (by omega) ?_ ?_
        · rw [h, h3, show (10 : Int32) = nI 10 from rfl, pk_mul, nI_add, show (48 : Int32) = nI 48 from rfl, pk_sub (by omega)]
        · by_cases he : e = b
          · rw [if_pos he] at ha
            rw [if_neg (by omega), if_pos (by omega)]
            omega
          · rw [if_neg he, if_pos (by omega)] at ha
            rw [if_neg (by omega), if_neg (by omega)]
            omega
    · rw [if_neg hi]
      exact ⟨a, by split at ha <;> (try split at ha) <;> omega, h⟩
theorem stM_val {txt : Nat → Int32} {z p : Nat} : ∃ a, a ≤ 99 ∧ (stM txt z p).2.2.2.2 = nI a := by
  unfold stM stQ
  split
  · split
    · exact ⟨0, by omega, rfl⟩
    · split
      · exact vl_nat _ 0 _ 0 (Nat.le_refl _) rfl (Nat.zero_le _)
      · split <;> exact ⟨0, by omega, rfl⟩
  · exact ⟨0, by omega, rfl⟩
abbrev Rd : Type := Bool × Sc × (Nat → Int32) × Nat
def tbM (txt : Nat → Int32) (z : Nat) (S : Sc) (rd : Nat → Int32) (n : Nat) : Rd :=
  if nbM (stM txt z S.1) 7 then (true, stM txt z S.1, upd rd 20 (stM txt z S.1).2.2.2.2, n) else (false, stM txt z S.1, rd, n)
def rcM (txt : Nat → Int32) (z : Nat) (S : Sc) (rd : Nat → Int32) (n : Nat) : Rd :=
  if n = 6 then (false, S, rd, n)
  else if nbM (stM txt z S.1) 5 then
    (if nbM (stM txt z (stM txt z S.1).1) 7 = true ∧ fi rd (stM txt z (stM txt z S.1).1).2.2.2.2 n 0 = -1 then
      (if nbM (stM txt z (stM txt z (stM txt z S.1).1).1) 20 then
        (if nbM (stM txt z (stM txt z (stM txt z (stM txt z S.1).1).1).1) 30 then
          (true, stM txt z (stM txt z (stM txt z (stM txt z S.1).1).1).1, cmM rd n (stM txt z S.1).2.2.2.2 (stM txt z (stM txt z S.1).1).2.2.2.2 (stM txt z (stM txt z (stM txt z S.1).1).1).2.2.2.2 (stM txt z (stM txt z (stM txt z (stM txt z S.1).1).1).1).2.2.2.2, n + 1)
         else (false, stM txt z (stM txt z (stM txt z (stM txt z S.1).1).1).1, rd, n))
       else (false, stM txt z (stM txt z (stM txt z S.1).1).1, rd, n))
     else (false, stM txt z (stM txt z S.1).1, rd, n))
  else (false, stM txt z S.1, rd, n)
def crM (txt : Nat → Int32) (z : Nat) (S : Sc) (rd : Nat → Int32) (n : Nat) : Rd :=
  if (stM txt z S.1).2.2.1 = 2 ∧ (stM txt z S.1).2.2.2.2 < rd 22 then (true, stM txt z S.1, upd rd (6 + (stM txt z S.1).2.2.2.2.toNatClampNeg) (lsr (rd (6 + (stM txt z S.1).2.2.2.2.toNatClampNeg)) 10), n) else (false, stM txt z S.1, rd, n)
def riM (txt : Nat → Int32) (z : Nat) (S : Sc) (fst : Bool) (rd : Nat → Int32) (n : Nat) : Rd :=
  if S.2.2.1 = 1 then
    (if S.2.2.2.1 = 499850046565 then (if fst then tbM txt z S rd n else (false, S, rd, n))
     else if fst then (false, S, rd, n)
     else if S.2.2.2.1 = 426953501796 then rcM txt z S rd n
     else if S.2.2.2.1 = 109270183079796 then crM txt z S rd n else (false, S, rd, n))
  else (false, S, rd, n)
/-- the reading's loop: the answer, whether all was read, the table read -/
def rdL (txt : Nat → Int32) (z : Nat) : Nat → Nat → Sc → (Nat → Int32) → Nat → Int32 × Bool × (Nat → Int32)
  | 0, _, _, rd, _ => (0, false, rd)
  | f + 1, i, S, rd, n =>
    if ¬ i = 0 ∧ S.2.2.1 = 0 then (nI i, true, rd)
    else if (riM txt z S (decide (i = 0)) rd n).1 then
      (if (stM txt z (riM txt z S (decide (i = 0)) rd n).2.1.1).2.2.1 = 3 then rdL txt z f (i + 1) (stM txt z (stM txt z (riM txt z S (decide (i = 0)) rd n).2.1.1).1) (riM txt z S (decide (i = 0)) rd n).2.2.1 (riM txt z S (decide (i = 0)) rd n).2.2.2
       else (-10 - (stM txt z (riM txt z S (decide (i = 0)) rd n).2.1.1).2.1, false, rd))
    else (-10 - (riM txt z S (decide (i = 0)) rd n).2.1.2.1, false, rd)

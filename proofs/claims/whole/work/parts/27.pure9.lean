/-! the class's reading of a text: place, start, token, value -/
abbrev Cs : Type := Nat × Nat × Int32 × Int32
def leC (f : Nat → Int32) (z : Nat) : Nat → Nat → Nat
  | 0, q => q
  | r + 1, q => if inI (hrM f z q) 97 122 then leC f z r (q + 1) else q
theorem leC_step {f : Nat → Int32} {z q : Nat} (h : inI (hrM f z q) 97 122 = true) : leC f z (z - q) q = leC f z (z - (q + 1)) (q + 1) := by
  have := in_lt (by decide) h
  rw [show z - q = (z - (q + 1)) + 1 by omega, leC, if_pos h]
theorem leC_end {f : Nat → Int32} {z q : Nat} (h : inI (hrM f z q) 97 122 = false) : ∀ r, leC f z r q = q
  | 0 => rfl
  | r + 1 => by rw [leC, h]; rfl
theorem leC_le {f : Nat → Int32} {z : Nat} : ∀ r q, q ≤ leC f z r q ∧ (q ≤ z → leC f z r q ≤ z)
  | 0, q => ⟨Nat.le_refl q, fun h => h⟩
  | r + 1, q => by
    rw [leC]
    by_cases h : inI (hrM f z q) 97 122 = true
    · rw [if_pos h]
      have := in_lt (by decide) h
      have h2 := leC_le (f := f) (z := z) r (q + 1)
      exact ⟨by omega, fun _ => h2.2 (by omega)⟩
    · rw [if_neg h]
      exact ⟨Nat.le_refl q, fun h => h⟩
def wcA (f : Nat → Int32) (st i : Nat) : Nat → Bool
  | 0 => true
  | k + 1 => wcA f st i k && decide (f (st + k) = (kByt.getD i []).getD k 0)
theorem wcA_no {f : Nat → Int32} {st i k : Nat} (h : ¬ f (st + k) = (kByt.getD i []).getD k 0) : ∀ n, k < n → wcA f st i n = false
  | 0, h0 => absurd h0 (by omega)
  | n + 1, h0 => by
    rw [wcA]
    by_cases e : k = n
    · subst e; rw [decide_eq_false h, Bool.and_false]
    · rw [wcA_no h n (by omega), Bool.false_and]
def isW (f : Nat → Int32) (st pl i : Nat) : Bool := decide (pl - st = kLen.getD i 0) && wcA f st i (kLen.getD i 0)
def wkC (f : Nat → Int32) (st pl : Nat) : Int32 := if isW f st pl 0 then 3 else if isW f st pl 1 then 4 else if isW f st pl 2 then 5 else 6
def ntk (f : Nat → Int32) (z q : Nat) (vl : Int32) : Cs :=
  if z ≤ q then (q, q, 0, vl)
  else if inI (f q) 97 122 then (leC f z (z - q) q, q, wkC f q (leC f z (z - q) q), vl)
  else if inI (f q) 48 57 then ((vlM f z q (z - q) 0 q).2, q, (if (vlM f z q (z - q) 0 q).2 - q ≤ 2 then 2 else 6), (vlM f z q (z - q) 0 q).1)
  else (q + 1, q, (if f q = 59 then 1 else 6), vl)
def nxk (f : Nat → Int32) (z : Nat) (S : Cs) : Cs := ntk f z (skM f z (z - S.1) S.1) S.2.2.2
theorem hrM_in {f : Nat → Int32} {z q : Nat} (h : q < z) : hrM f z q = f q := if_neg (by omega)
theorem nxk_ok {f : Nat → Int32} {z : Nat} {S : Cs} (hp : S.1 ≤ z) : S.1 ≤ (nxk f z S).1 ∧ (nxk f z S).1 ≤ z ∧ (nxk f z S).2.1 ≤ z ∧ (¬ (nxk f z S).2.2.1 = 0 → S.1 < (nxk f z S).1) := by
  have h1 := skM_le (txt := f) (z := z) (z - S.1) S.1
  have h2 := h1.2 hp
  unfold nxk ntk
  by_cases h0 : z ≤ skM f z (z - S.1) S.1
  · rw [if_pos h0]; exact ⟨h1.1, h2, h2, fun h => absurd rfl h⟩
  · rw [if_neg h0]
    by_cases h3 : inI (f (skM f z (z - S.1) S.1)) 97 122 = true
    · rw [if_pos h3]
      have h4 := leC_step (f := f) (z := z) (q := skM f z (z - S.1) S.1) (by rw [hrM_in (by omega)]; exact h3)
      have h5 := leC_le (f := f) (z := z) (z - (skM f z (z - S.1) S.1 + 1)) (skM f z (z - S.1) S.1 + 1)
      rw [← h4] at h5
      have h6 := h5.2 (by omega)
      exact ⟨by show S.1 ≤ leC f z (z - skM f z (z - S.1) S.1) (skM f z (z - S.1) S.1); omega, h6, h2, fun _ => by show S.1 < leC f z (z - skM f z (z - S.1) S.1) (skM f z (z - S.1) S.1); omega⟩
    · rw [if_neg h3]
      by_cases h4 : inI (f (skM f z (z - S.1) S.1)) 48 57 = true
      · rw [if_pos h4]
        have h5 := vlM_step (b := skM f z (z - S.1) S.1) (v := 0) (txt := f) (z := z) (e := skM f z (z - S.1) S.1) (by rw [hrM_in (by omega)]; exact h4)
        have h6 := vlM_le (txt := f) (z := z) (b := skM f z (z - S.1) S.1) (z - (skM f z (z - S.1) S.1 + 1)) (if 2 ≤ skM f z (z - S.1) S.1 - skM f z (z - S.1) S.1 then 0 else (10 * 0 + hrM f z (skM f z (z - S.1) S.1)) - 48) (skM f z (z - S.1) S.1 + 1)
        rw [← h5] at h6
        have h7 := h6.2 (by omega)
        exact ⟨by show S.1 ≤ (vlM f z (skM f z (z - S.1) S.1) (z - skM f z (z - S.1) S.1) 0 (skM f z (z - S.1) S.1)).2; omega, h7, h2, fun _ => by show S.1 < (vlM f z (skM f z (z - S.1) S.1) (z - skM f z (z - S.1) S.1) 0 (skM f z (z - S.1) S.1)).2; omega⟩
      · rw [if_neg h4]
        exact ⟨by show S.1 ≤ skM f z (z - S.1) S.1 + 1; omega, by show skM f z (z - S.1) S.1 + 1 ≤ z; omega, h2, fun _ => by show S.1 < skM f z (z - S.1) S.1 + 1; omega⟩
theorem wkC_n2 (f : Nat → Int32) (st pl : Nat) : ¬ wkC f st pl = 2 := by
  unfold wkC
  split
  · decide
  · split
    · decide
    · split <;> decide
theorem nxk_val {f : Nat → Int32} {z : Nat} {S : Cs} (h : (nxk f z S).2.2.1 = 2) : ∃ a, a ≤ 99 ∧ (nxk f z S).2.2.2 = nI a := by
  unfold nxk ntk at h ⊢
  by_cases h0 : z ≤ skM f z (z - S.1) S.1
  · rw [if_pos h0] at h; exact absurd (show (0 : Int32) = 2 from h) (by decide)
  · rw [if_neg h0] at h ⊢
    by_cases h3 : inI (f (skM f z (z - S.1) S.1)) 97 122 = true
    · rw [if_pos h3] at h; exact absurd h (wkC_n2 _ _ _)
    · rw [if_neg h3] at h ⊢
      by_cases h4 : inI (f (skM f z (z - S.1) S.1)) 48 57 = true
      · rw [if_pos h4]
        exact vl_nat _ 0 _ 0 (Nat.le_refl _) rfl (Nat.zero_le _)
      · rw [if_neg h4] at h
        split at h
        · exact absurd (show (1 : Int32) = 2 from h) (by decide)
        · exact absurd (show (6 : Int32) = 2 from h) (by decide)
def nbC (T : Cs) (x : Int32) : Bool := decide (T.2.2.1 = 2) && !decide (x < T.2.2.2)
def mkC (T : Cs) : Bool := decide (T.2.2.1 = 1)
theorem nbC_val {f : Nat → Int32} {z : Nat} {S : Cs} {x : Int32} (h : nbC (nxk f z S) x = true) : ∃ a, a ≤ 99 ∧ (nxk f z S).2.2.2 = nI a := by
  simp only [nbC, Bool.and_eq_true, decide_eq_true_eq] at h
  exact nxk_val h.1
theorem nbC_lt {f : Nat → Int32} {z n : Nat} {S : Cs} (hn : n ≤ 6) (h : nbC (nxk f z S) (nI n - 1) = true) : ∃ a, a < n ∧ (nxk f z S).2.2.2 = nI a := by
  obtain ⟨a, h1, h2⟩ := nbC_val h
  simp only [nbC, Bool.and_eq_true, Bool.not_eq_true', decide_eq_false_iff_not] at h
  have h3 := h.2
  rw [h2] at h3
  rcases n with _ | n
  · exfalso
    exact h3 (by rw [show nI 0 - 1 = (-1 : Int32) by decide]; exact Int32.lt_of_lt_of_le (by decide : (-1 : Int32) < 0) (Int32.not_lt.mp (nI_pos (by omega))))
  · rw [nI_pred] at h3
    refine ⟨a, ?_, h2⟩
    have h4 : ¬ n < a := fun q => h3 ((nI_ltI (a := n) (b := a) (by omega) (by omega)).mpr q)
    omega
def rwC (f : Nat → Int32) (z : Nat) (S : Cs) (wo : Int32) : Bool × Cs × Int32 :=
  if nbC (nxk f z S) 7 then (mkC (nxk f z (nxk f z S)), nxk f z (nxk f z S), (nxk f z S).2.2.2) else (false, nxk f z S, wo)
abbrev Tq : Type := Nat × (Nat → Int32) × (Nat → Int32) × (Nat → Int32) × (Nat → Int32) × (Nat → Int32)
def rcC (f : Nat → Int32) (z : Nat) (S : Cs) (n : Nat) (ki se wd hu bt : Nat → Int32) : Bool × Cs × Tq :=
  if 6 ≤ n then (false, S, n, ki, se, wd, hu, bt)
  else if nbC (nxk f z S) 5 then
    (if nbC (nxk f z (nxk f z S)) 7 then
      (if fi se (nxk f z (nxk f z S)).2.2.2 n 0 = -1 then
        (if nbC (nxk f z (nxk f z (nxk f z S))) 20 then
          (if nbC (nxk f z (nxk f z (nxk f z (nxk f z S)))) 30 then
            (mkC (nxk f z (nxk f z (nxk f z (nxk f z (nxk f z S))))), nxk f z (nxk f z (nxk f z (nxk f z (nxk f z S)))), n + 1, upd ki n (nxk f z S).2.2.2, upd se n (nxk f z (nxk f z S)).2.2.2, upd wd n (nxk f z (nxk f z (nxk f z S))).2.2.2, upd hu n (nxk f z (nxk f z (nxk f z (nxk f z S)))).2.2.2, upd bt n 0)
           else (false, nxk f z (nxk f z (nxk f z (nxk f z S))), n, ki, se, wd, hu, bt))
         else (false, nxk f z (nxk f z (nxk f z S)), n, ki, se, wd, hu, bt))
       else (false, nxk f z (nxk f z S), n, ki, se, wd, hu, bt))
     else (false, nxk f z (nxk f z S), n, ki, se, wd, hu, bt))
  else (false, nxk f z S, n, ki, se, wd, hu, bt)
def crC (f : Nat → Int32) (z : Nat) (S : Cs) (n : Nat) (hu : Nat → Int32) : Bool × Cs × (Nat → Int32) :=
  if nbC (nxk f z S) (nI n - 1) then (mkC (nxk f z (nxk f z S)), nxk f z (nxk f z S), upd hu (nxk f z S).2.2.2.toNatClampNeg (mx0 (hu (nxk f z S).2.2.2.toNatClampNeg - 10))) else (false, nxk f z S, hu)
/-- the reading's loop: the answer, where it stands, the table -/
def rlC (f : Nat → Int32) (z : Nat) : Nat → Nat → Bool → Cs → Tq → Int32 × Cs × Tq
  | 0, _, _, S, t => (0, S, t)
  | r + 1, i, ft, S, t =>
    if ft = true ∧ ¬ S.2.2.1 = 0 ∧ i < 150 then
      (if (nxk f z S).2.2.1 = 4 then rlC f z r (i + 1) (rcC f z (nxk f z S) t.1 t.2.1 t.2.2.1 t.2.2.2.1 t.2.2.2.2.1 t.2.2.2.2.2).1 (rcC f z (nxk f z S) t.1 t.2.1 t.2.2.1 t.2.2.2.1 t.2.2.2.2.1 t.2.2.2.2.2).2.1 (rcC f z (nxk f z S) t.1 t.2.1 t.2.2.1 t.2.2.2.1 t.2.2.2.2.1 t.2.2.2.2.2).2.2
       else if (nxk f z S).2.2.1 = 5 then rlC f z r (i + 1) (crC f z (nxk f z S) t.1 t.2.2.2.2.1).1 (crC f z (nxk f z S) t.1 t.2.2.2.2.1).2.1 (t.1, t.2.1, t.2.2.1, t.2.2.2.1, (crC f z (nxk f z S) t.1 t.2.2.2.2.1).2.2, t.2.2.2.2.2)
       else rlC f z r (i + 1) (decide ((nxk f z S).2.2.1 = 0)) (nxk f z S) t)
    else (if ft then nI i else -10 - nI S.2.1, S, t)
/-- the whole reading: the answer, where it stands, the woman's seat, the table -/
def rdC (f : Nat → Int32) (z : Nat) (S : Cs) (t : Tq) : (Int32 × Cs × Tq) × Int32 :=
  if (nxk f z S).2.2.1 = 3 then (rlC f z 151 0 (rwC f z (nxk f z S) 0).1 (rwC f z (nxk f z S) 0).2.1 t, (rwC f z (nxk f z S) 0).2.2)
  else (rlC f z 151 0 false (nxk f z S) t, 0)
theorem rcC_ok {f : Nat → Int32} {z : Nat} {S : Cs} {n : Nat} {ki se wd hu bt : Nat → Int32} (hp : S.1 ≤ z) (hn : n ≤ 6) : S.1 ≤ (rcC f z S n ki se wd hu bt).2.1.1 ∧ (rcC f z S n ki se wd hu bt).2.1.1 ≤ z ∧ (rcC f z S n ki se wd hu bt).2.2.1 ≤ 6 := by
  have s1 := nxk_ok (f := f) hp
  have s2 := nxk_ok (f := f) s1.2.1
  have s3 := nxk_ok (f := f) s2.2.1
  have s4 := nxk_ok (f := f) s3.2.1
  have s5 := nxk_ok (f := f) s4.2.1
  unfold rcC
  split
  · exact ⟨Nat.le_refl _, hp, hn⟩
  · rename_i h6
    split
    · split
      · split
        · split
          · split
            · exact ⟨by show S.1 ≤ (nxk f z (nxk f z (nxk f z (nxk f z (nxk f z S))))).1; omega, s5.2.1, by show n + 1 ≤ 6; omega⟩
            · exact ⟨by show S.1 ≤ (nxk f z (nxk f z (nxk f z (nxk f z S)))).1; omega, s4.2.1, hn⟩
          · exact ⟨by show S.1 ≤ (nxk f z (nxk f z (nxk f z S))).1; omega, s3.2.1, hn⟩
        · exact ⟨by show S.1 ≤ (nxk f z (nxk f z S)).1; omega, s2.2.1, hn⟩
      · exact ⟨by show S.1 ≤ (nxk f z (nxk f z S)).1; omega, s2.2.1, hn⟩
    · exact ⟨s1.1, s1.2.1, hn⟩
theorem rwC_ok {f : Nat → Int32} {z : Nat} {S : Cs} {wo : Int32} (hp : S.1 ≤ z) : (rwC f z S wo).2.1.1 ≤ z := by
  have s1 := nxk_ok (f := f) hp
  unfold rwC
  split
  · exact (nxk_ok (f := f) s1.2.1).2.1
  · exact s1.2.1
theorem crC_ok {f : Nat → Int32} {z : Nat} {S : Cs} {n : Nat} {hu : Nat → Int32} (hp : S.1 ≤ z) : (crC f z S n hu).2.1.1 ≤ z := by
  have s1 := nxk_ok (f := f) hp
  unfold crC
  split
  · exact (nxk_ok (f := f) s1.2.1).2.1
  · exact s1.2.1
theorem c_len (K : KA) (l : Launch) (G : GG) (i : Nat) (hi : i < 3) : CK K l G yJ0_length_8abf5 cJ0_length_8abf5 1 (some .int) 1 20 [.ref (K.1 i)] [] (some (.int (nI (kLen.getD i 0)))) [] := c_J0len K l G i hi
theorem c_chr (K : KA) (l : Launch) (G : GG) (x : Int32) (k : Nat) (hv_x : x = nI k) (i : Nat) (hi : i < 3) (hk : k < kLen.getD i 0) : CK K l G yJ0_charAt_5068e cJ0_charAt_5068e 2 (some .char) 3 64 [.ref (K.1 i), .int x] [] (some (.int ((kByt.getD i []).getD k 0))) [] := by
  subst hv_x
  exact c_J0chr K l G i k hi hk

/-! pure words of the reference -/
theorem ix_0add {y : Int32} {b : Nat} (hy : y = nI b) : 0 + y = nI b := by rw [hy, show (0 : Int32) = nI 0 from rfl, nI_add, Nat.zero_add]
def inL (v a b : Int64) : Bool := !decide (v < a) && !decide (b < v)
def inI (x a b : Int32) : Bool := !decide (x < a) && !decide (b < x)
theorem inL_I (x a b : Int32) {A B : Int64} (hA : a.toInt64 = A) (hB : b.toInt64 = B) : inL x.toInt64 A B = inI x a b := by
  subst hA; subst hB
  simp [inL, inI, Int64.lt_iff_toInt_lt, Int32.lt_iff_toInt_lt, Int32.toInt_toInt64]
def hasI (set x : Int32) : Bool := decide ((set >>> (x &&& 31)) &&& 1 = 1)
def bitsF : Nat → Int32 → Int32 → Int32
  | 0, _, c => c
  | f + 1, x, c => if x = 0 then c else bitsF f (x &&& (x - 1)) (c + 1)
def bitsV (x : Int32) : Int32 := bitsF x.toBitVec.toNat x 0
theorem bitsF_0 (f : Nat) (c : Int32) : bitsF f 0 c = c := by cases f <;> simp [bitsF]
theorem i32_pos {x : Int32} (h : ¬ x = 0) : 0 < x.toBitVec.toNat := by
  refine Nat.pos_of_ne_zero (fun e => h ?_)
  apply Int32.toBitVec_inj.mp
  apply BitVec.eq_of_toNat_eq
  rw [e]; rfl
theorem bits_lt {x : Int32} (h : ¬ x = 0) : (x &&& (x - 1)).toBitVec.toNat < x.toBitVec.toNat := by
  have h0 := i32_pos h
  have h1 : (x &&& (x - 1)).toBitVec.toNat ≤ (x - 1).toBitVec.toNat := by
    rw [Int32.toBitVec_and, BitVec.toNat_and]
    exact Nat.and_le_right
  have h2 : (x - 1).toBitVec.toNat = x.toBitVec.toNat - 1 := by
    rw [Int32.toBitVec_sub, BitVec.toNat_sub]
    have h3 := x.toBitVec.isLt
    have h4 : (1 : Int32).toBitVec.toNat = 1 := rfl
    rw [h4]
    omega
  omega
theorem bitsF_step {f : Nat} {x c : Int32} (h : ¬ x = 0) (hf : x.toBitVec.toNat ≤ f) : bitsF f x c = bitsF (f - 1) (x &&& (x - 1)) (c + 1) := by
  have := i32_pos h
  rw [show f = (f - 1) + 1 by omega, bitsF, if_neg h]
  simp
theorem cpy_0 {α : Type} (f g : Nat → α) (i j : Nat) : va_cpy f g i j 0 = g := by
  funext k
  rw [pk_cpy_out]
  omega
theorem cpy_step (f g : Nat → Int32) (i j k : Nat) : upd (va_cpy f g i j k) (j + k) (f (i + k)) = va_cpy f g i j (k + 1) := by
  funext q
  simp only [upd, va_cpy]
  by_cases hq : q = j + k
  · subst hq
    rw [if_pos rfl, if_pos (by omega)]
    congr 1
    omega
  · rw [if_neg hq]
    by_cases h1 : j ≤ q ∧ q < j + k
    · rw [if_pos h1, if_pos (by omega)]
    · rw [if_neg h1, if_neg (by omega)]
theorem cpy_stepS (f : Nat → Int32) (i j m k : Nat) (hk : k < m) (hd : i + m ≤ j ∨ j + m ≤ i) : upd (va_cpy f f i j k) (j + k) (va_cpy f f i j k (i + k)) = va_cpy f f i j (k + 1) := by
  rw [pk_cpy_out (by omega), cpy_step]
def bg0 (j : Nat) : Int32 := if j < 6 then -1 else 0
def ah7 (w : Int32) : Int32 := (w + 7) - (w + 7) / 8 * 8
def lsr (v y : Int32) : Int32 := if v ≤ y then 0 else v - y
def nmP (h t w : Int32) : Int32 := if 0 ≤ (h + 3 * t) - w / 2 then (h + 3 * t) - w / 2 else 0
def nm (k h t w b l : Int32) : Int32 :=
  if k = 1 then nmP h t w + 4 else if k = 2 then lsr (nmP h t w) (w / 2) else if k = 3 then nmP h t w + 3 * l else if k = 4 then (nmP h t w + 3 * l) + 2 * b else if k = 5 then lsr (nmP h t w) (w / 2) / 2 else nmP h t w
def tgM (t : Nat → Int32) (n : Nat) (w : Int32) : Int32 := (if fi t (nxS w) n 0 = -1 then 0 else 1) + (if fi t (ah7 w) n 0 = -1 then 0 else 1)
def whM (t : Nat → Int32) (n : Nat) (w : Int32) : Int32 := if fi t (nxS w) n 0 = -1 then fi t (ah7 w) n 0 else fi t (nxS w) n 0
def farM (wo w : Int32) : Int32 := ((w + 8) - wo) - ((w + 8) - wo) / 8 * 8
def gdM (wo w : Int32) : Bool := decide (farM wo w = 0) || (decide (farM wo w = 1) || decide (farM wo w = 7))
def nmOf (t : Nat → Int32) (n k : Nat) : Int32 := nm (t (23 + k)) (t (6 + k)) (tgM t n (t k)) (t (29 + k)) (t (12 + k)) (t 19)
def bitesM (t : Nat → Int32) (n k : Nat) : Bool := !decide (nmOf t n k ≤ 11) && (!gdM (t 20) (t k) && !decide (whM t n (t k) = -1))
def btM (f : Nat → Bool) : Nat → Int32
  | 0 => 0
  | k + 1 => btM f k ||| (if f k then (1 : Int32) <<< (nI k &&& 31) else 0)
def bitrM (t : Nat → Int32) (n : Nat) : Int32 := btM (bitesM t n) n
/-- one child's part of a minute -/
def gS (set : Int32) (j : Nat → Nat) (u : Nat → Int32) (k : Nat) : Nat → Int32 :=
  let u1 := if hasI set (nI k) then upd (upd u (12 + j k) (u (12 + j k) + 1)) (6 + k) (lsr ((upd u (12 + j k) (u (12 + j k) + 1)) (6 + k)) 8) else u
  upd u1 (6 + k) (u1 (6 + k) + (if 30 ≤ u1 (6 + k) then 0 else 1))
def gM (set : Int32) (j : Nat → Nat) (t : Nat → Int32) : Nat → Nat → Int32
  | 0 => t
  | k + 1 => gS set j (gM set j t k) k
def gE1 (u : Nat → Int32) (b : Int32) : Nat → Int32 := upd u 19 b
def gE2 (u : Nat → Int32) : Nat → Int32 := upd u 18 (u 18 + u 19)
def gE3 (u : Nat → Int32) : Nat → Int32 := upd u 21 (u 21 + 1)
def whJ (t : Nat → Int32) (n k : Nat) : Nat := (whM t n (t k)).toNatClampNeg
def goM (t : Nat → Int32) (n : Nat) : Nat → Int32 := gE3 (gE2 (gE1 (gM (bitrM t n) (whJ t n) t n) (bitsV (bitrM t n))))
theorem gS_out {set : Int32} {j : Nat → Nat} {u : Nat → Int32} {k i : Nat} (hk : k < 6) (hj : j k < 6) (hi : i < 6 ∨ 18 ≤ i) : gS set j u k i = u i := by
  simp only [gS]
  rw [upd_ne _ _ (by omega)]
  by_cases h : hasI set (nI k) = true
  · rw [if_pos h, upd_ne _ _ (by omega), upd_ne _ _ (by omega)]
  · rw [if_neg h]
theorem fi_congr {f g : Nat → Int32} {w : Int32} : ∀ (r i : Nat), (∀ j, i ≤ j → j < i + r → f j = g j) → fi f w r i = fi g w r i
  | 0, _, _ => rfl
  | r + 1, i, h => by
    simp only [fi]
    rw [h i (Nat.le_refl i) (by omega), fi_congr r (i + 1) (fun j h1 h2 => h j (by omega) (by omega))]
theorem whM_congr {f g : Nat → Int32} {n : Nat} (h : ∀ j, j < n → f j = g j) (w : Int32) : whM f n w = whM g n w := by
  have e : ∀ w, fi f w n 0 = fi g w n 0 := fun w => fi_congr n 0 (fun j _ h2 => h j (by omega))
  simp only [whM, e]
/-- what fi answers: none, or a place below r + i -/
theorem fi_or {f : Nat → Int32} {w : Int32} : ∀ (r i : Nat), fi f w r i = -1 ∨ ∃ j, i ≤ j ∧ j < i + r ∧ fi f w r i = nI j ∧ f j = w
  | 0, _ => Or.inl rfl
  | r + 1, i => by
    simp only [fi]
    by_cases h : f i = w
    · rw [if_pos h]
      exact Or.inr ⟨i, Nat.le_refl i, by omega, rfl, h⟩
    · rw [if_neg h]
      rcases fi_or (f := f) (w := w) r (i + 1) with e | ⟨j, h1, h2, h3, h4⟩
      · exact Or.inl e
      · exact Or.inr ⟨j, by omega, by omega, h3, h4⟩
theorem whM_or {t : Nat → Int32} {n : Nat} {w : Int32} (h : ¬ whM t n w = -1) : ∃ j, j < n ∧ whM t n w = nI j := by
  simp only [whM] at h ⊢
  by_cases h1 : fi t (nxS w) n 0 = -1
  · rw [if_pos h1] at h ⊢
    rcases fi_or (f := t) (w := ah7 w) n 0 with e | ⟨j, -, h2, h3, -⟩
    · exact absurd e h
    · exact ⟨j, by omega, h3⟩
  · rw [if_neg h1]
    rcases fi_or (f := t) (w := nxS w) n 0 with e | ⟨j, -, h2, h3, -⟩
    · exact absurd e h1
    · exact ⟨j, by omega, h3⟩
def bt (x : Int32) (i : Nat) : Bool := x.toBitVec.getLsbD i
theorem b_ext {x y : Int32} (h : ∀ i, i < 32 → bt x i = bt y i) : x = y := Int32.toBitVec_inj.mp (BitVec.eq_of_getLsbD_eq (fun i hi => h i hi))
theorem b_or (x y : Int32) (i : Nat) : bt (x ||| y) i = (bt x i || bt y i) := by unfold bt; rw [Int32.toBitVec_or, BitVec.getLsbD_or]
theorem b_and (x y : Int32) (i : Nat) : bt (x &&& y) i = (bt x i && bt y i) := by unfold bt; rw [Int32.toBitVec_and, BitVec.getLsbD_and]
theorem b_xor (x y : Int32) (i : Nat) : bt (x ^^^ y) i = (bt x i ^^ bt y i) := by unfold bt; rw [Int32.toBitVec_xor, BitVec.getLsbD_xor]
theorem b_big {x : Int32} {i : Nat} (h : 32 ≤ i) : bt x i = false := BitVec.getLsbD_of_ge _ _ h
theorem b_255 (i : Nat) : bt 255 i = decide (i < 8) := by
  rcases Nat.lt_or_ge i 32 with h | h
  · exact (by decide +kernel : ∀ i, i < 32 → bt 255 i = decide (i < 8)) i h
  · rw [b_big h, decide_eq_false (by omega)]
theorem b_65535 (i : Nat) : bt 65535 i = decide (i < 16) := by
  rcases Nat.lt_or_ge i 32 with h | h
  · exact (by decide +kernel : ∀ i, i < 32 → bt 65535 i = decide (i < 16)) i h
  · rw [b_big h, decide_eq_false (by omega)]
theorem b_m1 : ∀ i, i < 32 → bt (-1) i = true := by decide +kernel
theorem b_0 (i : Nat) : bt 0 i = false := BitVec.getLsbD_zero
theorem s_l : ∀ n, n < 32 → ((nI n &&& 31).toBitVec.smod 32).toNat = n := by decide +kernel
theorem s_u : ∀ n, n < 32 → (((nI n).toUInt32 &&& Int32.toUInt32 31).toBitVec % 32).toNat = n := by decide +kernel
theorem b_shl (n : Nat) (hn : n < 32) (x : Int32) {i : Nat} (hi : i < 32) : bt (x <<< (nI n &&& 31)) i = (decide (n ≤ i) && bt x (i - n)) := by
  unfold bt
  rw [Int32.toBitVec_shiftLeft]
  show (x.toBitVec <<< ((nI n &&& 31).toBitVec.smod 32).toNat).getLsbD i = _
  rw [s_l n hn, BitVec.getLsbD_shiftLeft]
  rcases Nat.lt_or_ge i n with h | h
  · simp [h, Nat.not_le.mpr h]
  · simp [hi, h, Nat.not_lt.mpr h]
theorem b_ushr (n : Nat) (hn : n < 32) (x : Int32) (i : Nat) : bt ((x.toUInt32 >>> ((nI n).toUInt32 &&& Int32.toUInt32 31)).toInt32) i = bt x (n + i) := by
  show (x.toUInt32 >>> ((nI n).toUInt32 &&& Int32.toUInt32 31)).toBitVec.getLsbD i = x.toUInt32.toBitVec.getLsbD (n + i)
  rw [UInt32.toBitVec_shiftRight]
  show (x.toUInt32.toBitVec >>> (((nI n).toUInt32 &&& Int32.toUInt32 31).toBitVec % 32).toNat).getLsbD i = _
  rw [s_u n hn, BitVec.getLsbD_ushiftRight]
theorem b_sshr (n : Nat) (hn : n < 32) (x : Int32) {i : Nat} (hi : i < 32) : bt (x >>> (nI n &&& 31)) i = if n + i < 32 then bt x (n + i) else bt x 31 := by
  unfold bt
  rw [Int32.toBitVec_shiftRight]
  show (x.toBitVec.sshiftRight ((nI n &&& 31).toBitVec.smod 32).toNat).getLsbD i = _
  rw [s_l n hn, BitVec.getLsbD_sshiftRight, BitVec.msb_eq_getLsbD_last]
  simp [hi]
theorem b_one : ∀ i, i < 32 → bt 1 i = decide (i = 0) := by decide +kernel
theorem and1 (y : Int32) : y &&& 1 = 1 ↔ bt y 0 = true := by
  constructor
  · intro h
    have h1 : bt (y &&& 1) 0 = bt 1 0 := by rw [h]
    rw [b_and, b_one 0 (by omega)] at h1
    simpa using h1
  · intro h
    apply b_ext
    intro i hi
    rw [b_and, b_one i hi]
    by_cases h0 : i = 0
    · subst h0; rw [h]; rfl
    · simp [h0]
theorem hasI_bt {x : Int32} {i : Nat} (hi : i < 32) : hasI x (nI i) = bt x i := by
  have h1 : bt (x >>> (nI i &&& 31)) 0 = bt x i := by rw [b_sshr i hi x (by omega)]; simp [hi]
  unfold hasI
  rw [← h1]
  by_cases h : bt (x >>> (nI i &&& 31)) 0 = true
  · rw [h, decide_eq_true ((and1 _).mpr h)]
  · rw [decide_eq_false (fun q => h ((and1 _).mp q))]
    exact (Bool.not_eq_true _ ▸ h).symm
theorem bt_sh {k i : Nat} (hk : k < 32) (hi : i < 32) : bt ((1 : Int32) <<< (nI k &&& 31)) i = decide (i = k) := by
  rw [b_shl k hk 1 hi]
  by_cases h : k ≤ i
  · rw [b_one (i - k) (by omega), decide_eq_true h, Bool.true_and]
    by_cases h2 : i = k
    · rw [decide_eq_true h2, decide_eq_true (by omega)]
    · rw [decide_eq_false h2, decide_eq_false (by omega)]
  · rw [decide_eq_false h, Bool.false_and, decide_eq_false (by omega)]
theorem btM_bt {f : Nat → Bool} {i : Nat} (hi : i < 32) : ∀ n, n ≤ 32 → bt (btM f n) i = (decide (i < n) && f i)
  | 0, _ => by simp [btM, b_0]
  | n + 1, h => by
    simp only [btM]
    rw [b_or, btM_bt hi n (by omega)]
    by_cases hf : f n = true
    · rw [if_pos hf, bt_sh (by omega) hi]
      by_cases h1 : i = n
      · subst h1; simp [hf]
      · by_cases h2 : i < n
        · simp [h1, h2, show i < n + 1 by omega]
        · simp [h1, h2, show ¬ i < n + 1 by omega]
    · rw [if_neg hf, b_0]
      by_cases h1 : i = n
      · subst h1; simp [hf]
      · by_cases h2 : i < n
        · simp [h2, show i < n + 1 by omega]
        · simp [h2, show ¬ i < n + 1 by omega]
theorem btS_M (f : Nat → Bool) : ∀ n, btS f n = btM f n
  | 0 => rfl
  | n + 1 => by
    simp only [btS, btM]
    rw [btS_M f n]
    by_cases hf : f n = true
    · rw [if_pos hf, if_pos hf]
    · rw [if_neg hf, if_neg hf]
      apply b_ext
      intro i _
      rw [b_or, b_0, Bool.or_false]
theorem bitrM_has {t : Nat → Int32} {n k : Nat} (hn : n ≤ 6) (h : hasI (bitrM t n) (nI k) = true) (hk : k < n) : ∃ j, j < n ∧ whM t n (t k) = nI j := by
  rw [hasI_bt (by omega), bitrM, btM_bt (by omega) n (by omega)] at h
  simp only [Bool.and_eq_true, decide_eq_true_eq] at h
  have h2 := h.2
  simp only [bitesM, Bool.and_eq_true, Bool.not_eq_true', decide_eq_false_iff_not] at h2
  exact whM_or h2.2.2

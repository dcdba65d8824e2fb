/-! pure words of the reference's calls -/
def cmM (t : Nat → Int32) (n : Nat) (xk xs xw xh : Int32) : Nat → Int32 := upd (upd (upd (upd (upd t (23 + n) xk) n xs) (29 + n) xw) (6 + n) xh) 22 (nI (n + 1))
def shf (t : Nat → Int32) (k : Nat) : Nat → Int32 := fun j => if 79 ≤ j ∧ j < 79 + k then t (j + 22) else t j
theorem shf_0 (t : Nat → Int32) : shf t 0 = t := by funext j; simp only [shf]; rw [if_neg (by omega)]
theorem shf_out {t : Nat → Int32} {k j : Nat} (h : j < 79 ∨ 79 + k ≤ j) : shf t k j = t j := by simp only [shf]; rw [if_neg (by omega)]
theorem shf_in {t : Nat → Int32} {k j : Nat} (h : 79 ≤ j) (h2 : j < 79 + k) : shf t k j = t (j + 22) := by simp only [shf]; rw [if_pos ⟨h, h2⟩]
theorem shf_step (t : Nat → Int32) (k : Nat) : upd (shf t k) (79 + k) (shf t k (79 + k + 22)) = shf t (k + 1) := by
  rw [shf_out (by omega)]
  funext j
  by_cases hj : j = 79 + k
  · subst hj; rw [upd_at, shf_in (by omega) (by omega)]
  · rw [upd_ne _ _ hj]
    by_cases h1 : 79 ≤ j ∧ j < 79 + k
    · rw [shf_in h1.1 h1.2, shf_in h1.1 (by omega)]
    · rw [shf_out (by omega), shf_out (by omega)]
def rmF (t : Nat → Int32) (v : Nat) : Nat → Int32 := upd (va_cpy t t 0 (79 + 22 * v) 22) 78 (nI (v + 1))
def rmb (t : Nat → Int32) (u : Nat) : Nat → Int32 := if u = 8 then rmF (upd (shf t 154) 78 (nI 7)) 7 else rmF t u
theorem rmF_lo {t : Nat → Int32} {v j : Nat} (h : j < 78) : rmF t v j = t j := by rw [rmF, upd_ne _ _ (by omega), pk_cpy_out (by omega)]
theorem rmb_lo {t : Nat → Int32} {u j : Nat} (h : j < 78) : rmb t u j = t j := by
  unfold rmb
  by_cases hu : u = 8
  · rw [if_pos hu, rmF_lo h, upd_ne _ _ (by omega), shf_out (by omega)]
  · rw [if_neg hu, rmF_lo h]
theorem goM_out {t : Nat → Int32} {n i : Nat} (hn : n ≤ 6) (hi : i < 6 ∨ i = 20 ∨ 22 ≤ i) : goM t n i = t i := by
  simp only [goM, gE3, gE2, gE1]
  rw [upd_ne _ _ (by omega), upd_ne _ _ (by omega), upd_ne _ _ (by omega), gM_out hn (by omega) n (Nat.le_refl n)]
/-- minutes, as long as the minute is below 999 -/
def mnL (n : Nat) : Nat → (Nat → Int32) → Nat → Int32
  | 0, t => t
  | r + 1, t => if 999 ≤ t 21 then t else mnL n r (goM t n)
theorem mnL_step {n mm k : Nat} {t : Nat → Int32} (h : k < mm) (hm : ¬ 999 ≤ t 21) : mnL n (mm - k) t = mnL n (mm - (k + 1)) (goM t n) := by
  rw [show mm - k = (mm - (k + 1)) + 1 by omega, mnL, if_neg hm]
theorem mnL_end {n mm k : Nat} {t : Nat → Int32} (h : mm ≤ k) : mnL n (mm - k) t = t := by rw [show mm - k = 0 by omega]; rfl
theorem mnL_999 {n r : Nat} {t : Nat → Int32} (h : 999 ≤ t 21) : mnL n r t = t := by cases r <;> simp [mnL, h]
def und (t : Nat → Int32) (v : Nat) : Nat → Int32 := va_cpy (upd t 78 (nI v)) (upd t 78 (nI v)) (79 + 22 * v) 0 22
theorem inI_nat {x : Int32} {a b : Nat} (ha : a < 2147483648) (hb : b < 2147483648) {A B : Int32} (hA : A = nI a) (hB : B = nI b) (h : inI x A B = true) : ∃ k, a ≤ k ∧ k ≤ b ∧ x = nI k := by
  subst hA; subst hB
  simp only [inI, Bool.and_eq_true, Bool.not_eq_true', decide_eq_false_iff_not] at h
  have e1 := (nI_toInt ha)
  have e2 := (nI_toInt hb)
  have h1 := h.1
  have h2 := h.2
  rw [Int32.lt_iff_toInt_lt] at h1 h2
  have h3 : ¬ x < 0 := by
    rw [Int32.lt_iff_toInt_lt, Int32.toInt_zero]
    omega
  obtain ⟨k, hk, rfl⟩ := nI_of h3
  rw [nI_toInt hk] at h1 h2
  exact ⟨k, by omega, by omega, rfl⟩
theorem inI_child {x c : Int32} {n : Nat} (hc : c = nI n) (hn : n ≤ 6) (h : inI x 0 (c - 1) = true) : ∃ k, k < n ∧ x = nI k := by
  subst hc
  rcases Nat.eq_zero_or_pos n with h0 | h0
  · subst h0
    exfalso
    simp only [inI, Bool.and_eq_true, Bool.not_eq_true', decide_eq_false_iff_not] at h
    have h1 := h.1
    have h2 := h.2
    rw [show nI 0 - 1 = (-1 : Int32) by decide] at h2
    rw [Int32.lt_iff_toInt_lt] at h1 h2
    rw [show (0 : Int32).toInt = 0 by decide] at h1
    rw [show (-1 : Int32).toInt = -1 by decide] at h2
    omega
  · obtain ⟨k, -, h2, h3⟩ := inI_nat (a := 0) (b := n - 1) (by omega) (by omega) rfl (show nI n - 1 = nI (n - 1) from pk_sub (a := n) (b := 1) h0) h
    exact ⟨k, by omega, h3⟩

/-! the past -/
theorem rmb_hi {nw : Nat → Int32} {u k i : Nat} (hu : u ≤ 8) (hi : i < 22) : (k + 1 < kpZ u → rmb nw u (79 + 22 * k + i) = nw (79 + 22 * (if u = 8 then k + 1 else k) + i)) ∧ (k + 1 = kpZ u → rmb nw u (79 + 22 * k + i) = nw i) := by
  unfold kpZ rmb
  by_cases h8 : u = 8
  · rw [if_pos h8, if_neg (by omega), if_pos h8, rmF]
    constructor
    · intro hk
      rw [upd_ne _ _ (by omega), pk_cpy_out (by omega), upd_ne _ _ (by omega), shf_in (by omega) (by omega)]
      exact congrArg nw (by omega)
    · intro hk
      rw [upd_ne _ _ (by omega), pk_cpy_in (by omega) (by omega), upd_ne _ _ (by omega), shf_out (by omega)]
      exact congrArg nw (by omega)
  · rw [if_neg h8, if_pos (by omega), if_neg h8, rmF]
    constructor
    · intro hk
      rw [upd_ne _ _ (by omega), pk_cpy_out (by omega)]
    · intro hk
      rw [upd_ne _ _ (by omega), pk_cpy_in (by omega) (by omega)]
      exact congrArg nw (by omega)
theorem past_keep {n u o : Nat} {t : Tb} {T : Nat → Tb} {nw nw' : Nat → Int32} (hn : n ≤ 6) (hu : u ≤ 8) (ho : o < 8) (h0 : RelC n t nw) (h1 : RelK n t nw) (h : ∀ k, k < u → RelC n (T ((o + k) % 8)) (fun i => nw (79 + 22 * k + i)) ∧ RelK n (T ((o + k) % 8)) nw) (e : ∀ j, 79 ≤ j → nw' j = rmb nw u j) (ek : ∀ j, 23 ≤ j → j < 35 → nw' j = nw j) :
    ∀ k, k < kpZ u → RelC n (updT T ((kpO o u + kpZ u - 1) % 8) t ((kpO o u + k) % 8)) (fun i => nw' (79 + 22 * k + i)) ∧ RelK n (updT T ((kpO o u + kpZ u - 1) % 8) t ((kpO o u + k) % 8)) nw' := by
  intro k hk
  have hz : kpZ u ≤ 8 ∧ 1 ≤ kpZ u := by unfold kpZ; split <;> omega
  by_cases hl : k + 1 = kpZ u
  · have ei : (kpO o u + k) % 8 = (kpO o u + kpZ u - 1) % 8 := by rw [show kpO o u + k = kpO o u + kpZ u - 1 by omega]
    rw [ei]
    unfold updT
    rw [if_pos rfl]
    exact ⟨relC_congr hn h0 (fun j hj => by rw [e _ (by omega)]; exact (rmb_hi hu hj).2 hl), relK_congr hn h1 ek⟩
  · have ne : ¬ (kpO o u + k) % 8 = (kpO o u + kpZ u - 1) % 8 := by omega
    unfold updT
    rw [if_neg ne]
    have hr : ∀ j, j < 22 → nw' (79 + 22 * k + j) = nw (79 + 22 * (if u = 8 then k + 1 else k) + j) := fun j hj => by rw [e _ (by omega)]; exact (rmb_hi hu hj).1 (by omega)
    by_cases h8 : u = 8
    · have ei : (kpO o u + k) % 8 = (o + (k + 1)) % 8 := by unfold kpO; rw [if_neg (by omega)]; omega
      have hk8 : k + 1 < u := by unfold kpZ at hk hl; rw [if_neg (by omega)] at hk hl; omega
      rw [ei]
      refine ⟨relC_congr hn (h (k + 1) hk8).1 (fun j hj => ?_), relK_congr hn (h (k + 1) hk8).2 ek⟩
      have := hr j hj
      rw [if_pos h8] at this
      exact this
    · have ei : (kpO o u + k) % 8 = (o + k) % 8 := by unfold kpO; rw [if_pos (by omega)]
      have hk8 : k < u := by unfold kpZ at hk hl; rw [if_pos (by omega)] at hk hl; omega
      rw [ei]
      refine ⟨relC_congr hn (h k hk8).1 (fun j hj => ?_), relK_congr hn (h k hk8).2 ek⟩
      have := hr j hj
      rw [if_neg h8] at this
      exact this

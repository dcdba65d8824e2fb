/-! reading: the class's tokens and the reference's -/
theorem hr_eq {f txt : Nat → Int32} {z : Nat} (h : ∀ j, j < z → f j = txt j) (p : Nat) : hrM f z p = hrM txt z p := by
  unfold hrM
  by_cases hp : z ≤ p
  · rw [if_pos hp, if_pos hp]
  · rw [if_neg hp, if_neg hp, h p (by omega)]
theorem sk_eq {f txt : Nat → Int32} {z : Nat} (h : ∀ j, j < z → f j = txt j) : ∀ r p, skM f z r p = skM txt z r p
  | 0, _ => rfl
  | r + 1, p => by rw [skM, skM, hr_eq h, sk_eq h r (p + 1)]
theorem vl_eq {f txt : Nat → Int32} {z b : Nat} (h : ∀ j, j < z → f j = txt j) : ∀ r v e, vlM f z b r v e = vlM txt z b r v e
  | 0, _, _ => rfl
  | r + 1, v, e => by rw [vlM, vlM, hr_eq h, vl_eq h r _ (e + 1)]
def pkN (f : Nat → Int32) (b : Nat) : Nat → Nat
  | 0 => 0
  | k + 1 => pkN f b k * 256 + (f (b + k)).toNatClampNeg
theorem pk_s {f : Nat → Int32} {b k p a : Nat} (hp : pkN f b k = p) (e : f (b + k) = nI a) (ha : a ≤ 127) : pkN f b (k + 1) = p * 256 + a := by
  rw [pkN, hp, e, nI_clamp (by omega)]
theorem pkN_lt {f : Nat → Int32} {z b : Nat} (hb : ∀ j, j < z → ∃ a, a ≤ 127 ∧ f j = nI a) : ∀ k, b + k ≤ z → pkN f b k + 1 ≤ 256 ^ k
  | 0, _ => Nat.le_refl _
  | k + 1, h => by
    obtain ⟨a, ha, ea⟩ := hb (b + k) (by omega)
    have ih := pkN_lt (b := b) hb k (by omega)
    rw [pk_s rfl ea ha, Nat.pow_succ]
    generalize 256 ^ k = q at ih ⊢
    omega
theorem wl_pack {f txt : Nat → Int32} {z b : Nat} (h : ∀ j, j < z → f j = txt j) (hb : ∀ j, j < z → ∃ a, a ≤ 127 ∧ f j = nI a) : ∀ r (w : Int64) e, b ≤ e → e ≤ z → w.toInt = (if e - b ≤ 6 then ((pkN f b (e - b) : Nat) : Int) else -1) → (wlM txt z b r w e).2 = leC f z r e ∧ (wlM txt z b r w e).1.toInt = (if leC f z r e - b ≤ 6 then ((pkN f b (leC f z r e - b) : Nat) : Int) else -1)
  | 0, w, e, _, _, hw => ⟨rfl, hw⟩
  | r + 1, w, e, h1, h2, hw => by
    rw [wlM, leC, hr_eq h]
    by_cases hl : inI (hrM txt z e) 97 122 = true
    · rw [if_pos hl, if_pos hl]
      have he : e < z := in_lt (by decide) hl
      refine wl_pack h hb r _ (e + 1) (by omega) (by omega) ?_
      by_cases h6 : 6 ≤ e - b
      · rw [if_pos h6, if_neg (by omega)]
        decide
      · rw [if_pos (by omega)] at hw
        obtain ⟨a, ha, ea⟩ := hb e he
        have hp := pkN_lt hb (e - b) (b := b) (by omega)
        have hp5 : 256 ^ (e - b) ≤ 256 ^ 5 := Nat.pow_le_pow_right (by omega) (by omega)
        have hr : hrM txt z e = nI a := by rw [← hr_eq h, hrM_in he, ea]
        have hs : pkN f b (e + 1 - b) = pkN f b (e - b) * 256 + a := by
          rw [show e + 1 - b = (e - b) + 1 by omega]
          exact pk_s rfl (by rw [show b + (e - b) = e by omega]; exact ea) ha
        rw [if_neg h6, if_pos (by omega), hs, hr, Int64.toInt_add, Int64.toInt_mul, hw, Int32.toInt_toInt64, nI_toInt (by omega), show (256 : Int64).toInt = 256 by decide]
        generalize pkN f b (e - b) = P at hp
        have hP : P < 1099511627776 := by
          have : (256 : Nat) ^ 5 = 1099511627776 := by decide
          omega
        rw [l_bm (z := (P : Int) * 256) (by omega) (by omega), l_bm (by omega) (by omega)]
        omega
    · rw [if_neg hl, if_neg hl]
      exact ⟨rfl, hw⟩
theorem le_let {f : Nat → Int32} {z : Nat} : ∀ r q k, q ≤ k → k < leC f z r q → inI (hrM f z k) 97 122 = true
  | 0, q, k, h1, h2 => by rw [leC] at h2; omega
  | r + 1, q, k, h1, h2 => by
    rw [leC] at h2
    by_cases hl : inI (hrM f z q) 97 122 = true
    · rw [if_pos hl] at h2
      by_cases e : k = q
      · rw [e]; exact hl
      · exact le_let r (q + 1) k (by omega) h2
    · rw [if_neg hl] at h2
      omega
theorem wcA_iff {f : Nat → Int32} {b i : Nat} : ∀ n, wcA f b i n = true ↔ ∀ k, k < n → f (b + k) = (kByt.getD i []).getD k 0
  | 0 => ⟨fun _ k hk => absurd hk (by omega), fun _ => rfl⟩
  | n + 1 => by
    rw [wcA, Bool.and_eq_true, wcA_iff n, decide_eq_true_iff]
    constructor
    · rintro ⟨h1, h2⟩ k hk
      by_cases e : k = n
      · rw [e]; exact h2
      · exact h1 k (by omega)
    · exact fun h => ⟨fun k hk => h k (by omega), h n (by omega)⟩
theorem isW_iff {f : Nat → Int32} {b pl i : Nat} : isW f b pl i = true ↔ pl - b = kLen.getD i 0 ∧ ∀ k, k < kLen.getD i 0 → f (b + k) = (kByt.getD i []).getD k 0 := by
  rw [isW, Bool.and_eq_true, wcA_iff, decide_eq_true_iff]
theorem w_0 {f : Nat → Int32} {b L : Nat} (hl : ∀ k, k < L → ∃ a, 97 ≤ a ∧ a ≤ 122 ∧ f (b + k) = nI a) (h0 : 0 < L) (h6 : L ≤ 6) : isW f b (b + L) 0 = true ↔ pkN f b L = 499850046565 := by
  rcases (show L = 1 ∨ L = 2 ∨ L = 3 ∨ L = 4 ∨ L = 5 ∨ L = 6 by omega) with e | e | e | e | e | e <;> subst e
  · obtain ⟨a0, l0, u0, e0⟩ := hl 0 (by omega)
    have p1 := pk_s (b := b) (k := 0) (p := 0) rfl e0 (by omega)
    rw [p1]
    exact ⟨fun h => absurd ((isW_iff.mp h).1) (show ¬ b + 1 - b = 5 by omega), fun h => absurd h (by omega)⟩
  · obtain ⟨a0, l0, u0, e0⟩ := hl 0 (by omega)
    obtain ⟨a1, l1, u1, e1⟩ := hl 1 (by omega)
    have p1 := pk_s (b := b) (k := 0) (p := 0) rfl e0 (by omega)
    have p2 := pk_s p1 e1 (by omega)
    rw [p2]
    exact ⟨fun h => absurd ((isW_iff.mp h).1) (show ¬ b + 2 - b = 5 by omega), fun h => absurd h (by omega)⟩
  · obtain ⟨a0, l0, u0, e0⟩ := hl 0 (by omega)
    obtain ⟨a1, l1, u1, e1⟩ := hl 1 (by omega)
    obtain ⟨a2, l2, u2, e2⟩ := hl 2 (by omega)
    have p1 := pk_s (b := b) (k := 0) (p := 0) rfl e0 (by omega)
    have p2 := pk_s p1 e1 (by omega)
    have p3 := pk_s p2 e2 (by omega)
    rw [p3]
    exact ⟨fun h => absurd ((isW_iff.mp h).1) (show ¬ b + 3 - b = 5 by omega), fun h => absurd h (by omega)⟩
  · obtain ⟨a0, l0, u0, e0⟩ := hl 0 (by omega)
    obtain ⟨a1, l1, u1, e1⟩ := hl 1 (by omega)
    obtain ⟨a2, l2, u2, e2⟩ := hl 2 (by omega)
    obtain ⟨a3, l3, u3, e3⟩ := hl 3 (by omega)
    have p1 := pk_s (b := b) (k := 0) (p := 0) rfl e0 (by omega)
    have p2 := pk_s p1 e1 (by omega)
    have p3 := pk_s p2 e2 (by omega)
    have p4 := pk_s p3 e3 (by omega)
    rw [p4]
    exact ⟨fun h => absurd ((isW_iff.mp h).1) (show ¬ b + 4 - b = 5 by omega), fun h => absurd h (by omega)⟩
  · obtain ⟨a0, l0, u0, e0⟩ := hl 0 (by omega)
    obtain ⟨a1, l1, u1, e1⟩ := hl 1 (by omega)
    obtain ⟨a2, l2, u2, e2⟩ := hl 2 (by omega)
    obtain ⟨a3, l3, u3, e3⟩ := hl 3 (by omega)
    obtain ⟨a4, l4, u4, e4⟩ := hl 4 (by omega)
    have p1 := pk_s (b := b) (k := 0) (p := 0) rfl e0 (by omega)
    have p2 := pk_s p1 e1 (by omega)
    have p3 := pk_s p2 e2 (by omega)
    have p4 := pk_s p3 e3 (by omega)
    have p5 := pk_s p4 e4 (by omega)
    rw [p5]
    rw [isW_iff]
    constructor
    · rintro ⟨-, h⟩
      have q0 : a0 = 116 := (nI_eq (by omega) (by omega)).mp (e0.symm.trans (h 0 (show 0 < 5 by omega)))
      have q1 : a1 = 97 := (nI_eq (by omega) (by omega)).mp (e1.symm.trans (h 1 (show 1 < 5 by omega)))
      have q2 : a2 = 98 := (nI_eq (by omega) (by omega)).mp (e2.symm.trans (h 2 (show 2 < 5 by omega)))
      have q3 : a3 = 108 := (nI_eq (by omega) (by omega)).mp (e3.symm.trans (h 3 (show 3 < 5 by omega)))
      have q4 : a4 = 101 := (nI_eq (by omega) (by omega)).mp (e4.symm.trans (h 4 (show 4 < 5 by omega)))
      omega
    · intro h
      have q : a0 = 116 ∧ a1 = 97 ∧ a2 = 98 ∧ a3 = 108 ∧ a4 = 101 := by omega
      obtain ⟨q0, q1, q2, q3, q4⟩ := q
      refine ⟨show b + 5 - b = 5 by omega, fun k hk => ?_⟩
      have hk : k < 5 := hk
      rcases (show k = 0 ∨ k = 1 ∨ k = 2 ∨ k = 3 ∨ k = 4 by omega) with e | e | e | e | e <;> subst e
      · rw [e0, q0]; rfl
      · rw [e1, q1]; rfl
      · rw [e2, q2]; rfl
      · rw [e3, q3]; rfl
      · rw [e4, q4]; rfl
  · obtain ⟨a0, l0, u0, e0⟩ := hl 0 (by omega)
    obtain ⟨a1, l1, u1, e1⟩ := hl 1 (by omega)
    obtain ⟨a2, l2, u2, e2⟩ := hl 2 (by omega)
    obtain ⟨a3, l3, u3, e3⟩ := hl 3 (by omega)
    obtain ⟨a4, l4, u4, e4⟩ := hl 4 (by omega)
    obtain ⟨a5, l5, u5, e5⟩ := hl 5 (by omega)
    have p1 := pk_s (b := b) (k := 0) (p := 0) rfl e0 (by omega)
    have p2 := pk_s p1 e1 (by omega)
    have p3 := pk_s p2 e2 (by omega)
    have p4 := pk_s p3 e3 (by omega)
    have p5 := pk_s p4 e4 (by omega)
    have p6 := pk_s p5 e5 (by omega)
    rw [p6]
    exact ⟨fun h => absurd ((isW_iff.mp h).1) (show ¬ b + 6 - b = 5 by omega), fun h => absurd h (by omega)⟩
theorem w_1 {f : Nat → Int32} {b L : Nat} (hl : ∀ k, k < L → ∃ a, 97 ≤ a ∧ a ≤ 122 ∧ f (b + k) = nI a) (h0 : 0 < L) (h6 : L ≤ 6) : isW f b (b + L) 1 = true ↔ pkN f b L = 426953501796 := by
  rcases (show L = 1 ∨ L = 2 ∨ L = 3 ∨ L = 4 ∨ L = 5 ∨ L = 6 by omega) with e | e | e | e | e | e <;> subst e
  · obtain ⟨a0, l0, u0, e0⟩ := hl 0 (by omega)
    have p1 := pk_s (b := b) (k := 0) (p := 0) rfl e0 (by omega)
    rw [p1]
    exact ⟨fun h => absurd ((isW_iff.mp h).1) (show ¬ b + 1 - b = 5 by omega), fun h => absurd h (by omega)⟩
  · obtain ⟨a0, l0, u0, e0⟩ := hl 0 (by omega)
    obtain ⟨a1, l1, u1, e1⟩ := hl 1 (by omega)
    have p1 := pk_s (b := b) (k := 0) (p := 0) rfl e0 (by omega)
    have p2 := pk_s p1 e1 (by omega)
    rw [p2]
    exact ⟨fun h => absurd ((isW_iff.mp h).1) (show ¬ b + 2 - b = 5 by omega), fun h => absurd h (by omega)⟩
  · obtain ⟨a0, l0, u0, e0⟩ := hl 0 (by omega)
    obtain ⟨a1, l1, u1, e1⟩ := hl 1 (by omega)
    obtain ⟨a2, l2, u2, e2⟩ := hl 2 (by omega)
    have p1 := pk_s (b := b) (k := 0) (p := 0) rfl e0 (by omega)
    have p2 := pk_s p1 e1 (by omega)
    have p3 := pk_s p2 e2 (by omega)
    rw [p3]
    exact ⟨fun h => absurd ((isW_iff.mp h).1) (show ¬ b + 3 - b = 5 by omega), fun h => absurd h (by omega)⟩
  · obtain ⟨a0, l0, u0, e0⟩ := hl 0 (by omega)
    obtain ⟨a1, l1, u1, e1⟩ := hl 1 (by omega)
    obtain ⟨a2, l2, u2, e2⟩ := hl 2 (by omega)
    obtain ⟨a3, l3, u3, e3⟩ := hl 3 (by omega)
    have p1 := pk_s (b := b) (k := 0) (p := 0) rfl e0 (by omega)
    have p2 := pk_s p1 e1 (by omega)
    have p3 := pk_s p2 e2 (by omega)
    have p4 := pk_s p3 e3 (by omega)
    rw [p4]
    exact ⟨fun h => absurd ((isW_iff.mp h).1) (show ¬ b + 4 - b = 5 by omega), fun h => absurd h (by omega)⟩
  · obtain ⟨a0, l0, u0, e0⟩ := hl 0 (by omega)
    obtain ⟨a1, l1, u1, e1⟩ := hl 1 (by omega)
    obtain ⟨a2, l2, u2, e2⟩ := hl 2 (by omega)
    obtain ⟨a3, l3, u3, e3⟩ := hl 3 (by omega)
    obtain ⟨a4, l4, u4, e4⟩ := hl 4 (by omega)
    have p1 := pk_s (b := b) (k := 0) (p := 0) rfl e0 (by omega)
    have p2 := pk_s p1 e1 (by omega)
    have p3 := pk_s p2 e2 (by omega)
    have p4 := pk_s p3 e3 (by omega)
    have p5 := pk_s p4 e4 (by omega)
    rw [p5]
    rw [isW_iff]
    constructor
    · rintro ⟨-, h⟩
      have q0 : a0 = 99 := (nI_eq (by omega) (by omega)).mp (e0.symm.trans (h 0 (show 0 < 5 by omega)))
      have q1 : a1 = 104 := (nI_eq (by omega) (by omega)).mp (e1.symm.trans (h 1 (show 1 < 5 by omega)))
      have q2 : a2 = 105 := (nI_eq (by omega) (by omega)).mp (e2.symm.trans (h 2 (show 2 < 5 by omega)))
      have q3 : a3 = 108 := (nI_eq (by omega) (by omega)).mp (e3.symm.trans (h 3 (show 3 < 5 by omega)))
      have q4 : a4 = 100 := (nI_eq (by omega) (by omega)).mp (e4.symm.trans (h 4 (show 4 < 5 by omega)))
      omega
    · intro h
      have q : a0 = 99 ∧ a1 = 104 ∧ a2 = 105 ∧ a3 = 108 ∧ a4 = 100 := by omega
      obtain ⟨q0, q1, q2, q3, q4⟩ := q
      refine ⟨show b + 5 - b = 5 by omega, fun k hk => ?_⟩
      have hk : k < 5 := hk
      rcases (show k = 0 ∨ k = 1 ∨ k = 2 ∨ k = 3 ∨ k = 4 by omega) with e | e | e | e | e <;> subst e
      · rw [e0, q0]; rfl
      · rw [e1, q1]; rfl
      · rw [e2, q2]; rfl
      · rw [e3, q3]; rfl
      · rw [e4, q4]; rfl
  · obtain ⟨a0, l0, u0, e0⟩ := hl 0 (by omega)
    obtain ⟨a1, l1, u1, e1⟩ := hl 1 (by omega)
    obtain ⟨a2, l2, u2, e2⟩ := hl 2 (by omega)
    obtain ⟨a3, l3, u3, e3⟩ := hl 3 (by omega)
    obtain ⟨a4, l4, u4, e4⟩ := hl 4 (by omega)
    obtain ⟨a5, l5, u5, e5⟩ := hl 5 (by omega)
    have p1 := pk_s (b := b) (k := 0) (p := 0) rfl e0 (by omega)
    have p2 := pk_s p1 e1 (by omega)
    have p3 := pk_s p2 e2 (by omega)
    have p4 := pk_s p3 e3 (by omega)
    have p5 := pk_s p4 e4 (by omega)
    have p6 := pk_s p5 e5 (by omega)
    rw [p6]
    exact ⟨fun h => absurd ((isW_iff.mp h).1) (show ¬ b + 6 - b = 5 by omega), fun h => absurd h (by omega)⟩
theorem w_2 {f : Nat → Int32} {b L : Nat} (hl : ∀ k, k < L → ∃ a, 97 ≤ a ∧ a ≤ 122 ∧ f (b + k) = nI a) (h0 : 0 < L) (h6 : L ≤ 6) : isW f b (b + L) 2 = true ↔ pkN f b L = 109270183079796 := by
  rcases (show L = 1 ∨ L = 2 ∨ L = 3 ∨ L = 4 ∨ L = 5 ∨ L = 6 by omega) with e | e | e | e | e | e <;> subst e
  · obtain ⟨a0, l0, u0, e0⟩ := hl 0 (by omega)
    have p1 := pk_s (b := b) (k := 0) (p := 0) rfl e0 (by omega)
    rw [p1]
    exact ⟨fun h => absurd ((isW_iff.mp h).1) (show ¬ b + 1 - b = 6 by omega), fun h => absurd h (by omega)⟩
  · obtain ⟨a0, l0, u0, e0⟩ := hl 0 (by omega)
    obtain ⟨a1, l1, u1, e1⟩ := hl 1 (by omega)
    have p1 := pk_s (b := b) (k := 0) (p := 0) rfl e0 (by omega)
    have p2 := pk_s p1 e1 (by omega)
    rw [p2]
    exact ⟨fun h => absurd ((isW_iff.mp h).1) (show ¬ b + 2 - b = 6 by omega), fun h => absurd h (by omega)⟩
  · obtain ⟨a0, l0, u0, e0⟩ := hl 0 (by omega)
    obtain ⟨a1, l1, u1, e1⟩ := hl 1 (by omega)
    obtain ⟨a2, l2, u2, e2⟩ := hl 2 (by omega)
    have p1 := pk_s (b := b) (k := 0) (p := 0) rfl e0 (by omega)
    have p2 := pk_s p1 e1 (by omega)
    have p3 := pk_s p2 e2 (by omega)
    rw [p3]
    exact ⟨fun h => absurd ((isW_iff.mp h).1) (show ¬ b + 3 - b = 6 by omega), fun h => absurd h (by omega)⟩
  · obtain ⟨a0, l0, u0, e0⟩ := hl 0 (by omega)
    obtain ⟨a1, l1, u1, e1⟩ := hl 1 (by omega)
    obtain ⟨a2, l2, u2, e2⟩ := hl 2 (by omega)
    obtain ⟨a3, l3, u3, e3⟩ := hl 3 (by omega)
    have p1 := pk_s (b := b) (k := 0) (p := 0) rfl e0 (by omega)
    have p2 := pk_s p1 e1 (by omega)
    have p3 := pk_s p2 e2 (by omega)
    have p4 := pk_s p3 e3 (by omega)
    rw [p4]
    exact ⟨fun h => absurd ((isW_iff.mp h).1) (show ¬ b + 4 - b = 6 by omega), fun h => absurd h (by omega)⟩
  · obtain ⟨a0, l0, u0, e0⟩ := hl 0 (by omega)
    obtain ⟨a1, l1, u1, e1⟩ := hl 1 (by omega)
    obtain ⟨a2, l2, u2, e2⟩ := hl 2 (by omega)
    obtain ⟨a3, l3, u3, e3⟩ := hl 3 (by omega)
    obtain ⟨a4, l4, u4, e4⟩ := hl 4 (by omega)
    have p1 := pk_s (b := b) (k := 0) (p := 0) rfl e0 (by omega)
    have p2 := pk_s p1 e1 (by omega)
    have p3 := pk_s p2 e2 (by omega)
    have p4 := pk_s p3 e3 (by omega)
    have p5 := pk_s p4 e4 (by omega)
    rw [p5]
    exact ⟨fun h => absurd ((isW_iff.mp h).1) (show ¬ b + 5 - b = 6 by omega), fun h => absurd h (by omega)⟩
  · obtain ⟨a0, l0, u0, e0⟩ := hl 0 (by omega)
    obtain ⟨a1, l1, u1, e1⟩ := hl 1 (by omega)
    obtain ⟨a2, l2, u2, e2⟩ := hl 2 (by omega)
    obtain ⟨a3, l3, u3, e3⟩ := hl 3 (by omega)
    obtain ⟨a4, l4, u4, e4⟩ := hl 4 (by omega)
    obtain ⟨a5, l5, u5, e5⟩ := hl 5 (by omega)
    have p1 := pk_s (b := b) (k := 0) (p := 0) rfl e0 (by omega)
    have p2 := pk_s p1 e1 (by omega)
    have p3 := pk_s p2 e2 (by omega)
    have p4 := pk_s p3 e3 (by omega)
    have p5 := pk_s p4 e4 (by omega)
    have p6 := pk_s p5 e5 (by omega)
    rw [p6]
    rw [isW_iff]
    constructor
    · rintro ⟨-, h⟩
      have q0 : a0 = 99 := (nI_eq (by omega) (by omega)).mp (e0.symm.trans (h 0 (show 0 < 6 by omega)))
      have q1 : a1 = 97 := (nI_eq (by omega) (by omega)).mp (e1.symm.trans (h 1 (show 1 < 6 by omega)))
      have q2 : a2 = 114 := (nI_eq (by omega) (by omega)).mp (e2.symm.trans (h 2 (show 2 < 6 by omega)))
      have q3 : a3 = 114 := (nI_eq (by omega) (by omega)).mp (e3.symm.trans (h 3 (show 3 < 6 by omega)))
      have q4 : a4 = 111 := (nI_eq (by omega) (by omega)).mp (e4.symm.trans (h 4 (show 4 < 6 by omega)))
      have q5 : a5 = 116 := (nI_eq (by omega) (by omega)).mp (e5.symm.trans (h 5 (show 5 < 6 by omega)))
      omega
    · intro h
      have q : a0 = 99 ∧ a1 = 97 ∧ a2 = 114 ∧ a3 = 114 ∧ a4 = 111 ∧ a5 = 116 := by omega
      obtain ⟨q0, q1, q2, q3, q4, q5⟩ := q
      refine ⟨show b + 6 - b = 6 by omega, fun k hk => ?_⟩
      have hk : k < 6 := hk
      rcases (show k = 0 ∨ k = 1 ∨ k = 2 ∨ k = 3 ∨ k = 4 ∨ k = 5 by omega) with e | e | e | e | e | e <;> subst e
      · rw [e0, q0]; rfl
      · rw [e1, q1]; rfl
      · rw [e2, q2]; rfl
      · rw [e3, q3]; rfl
      · rw [e4, q4]; rfl
      · rw [e5, q5]; rfl
theorem w_big {f : Nat → Int32} {b L i : Nat} (h : 6 < L) (hi : i < 3) : ¬ isW f b (b + L) i = true := fun q => by
  have := (isW_iff.mp q).1
  rcases (show i = 0 ∨ i = 1 ∨ i = 2 by omega) with e | e | e <;> subst e
  · exact absurd this (show ¬ b + L - b = 5 by omega)
  · exact absurd this (show ¬ b + L - b = 5 by omega)
  · exact absurd this (show ¬ b + L - b = 6 by omega)
theorem w_key {f : Nat → Int32} {b pl : Nat} {W : Int64} (hbp : b < pl) (hl : ∀ k, b ≤ k → k < pl → ∃ a, 97 ≤ a ∧ a ≤ 122 ∧ f k = nI a) (hW : W.toInt = (if pl - b ≤ 6 then ((pkN f b (pl - b) : Nat) : Int) else -1)) : (isW f b pl 0 = true ↔ W = 499850046565) ∧ (isW f b pl 1 = true ↔ W = 426953501796) ∧ (isW f b pl 2 = true ↔ W = 109270183079796) := by
  obtain ⟨L, hL⟩ : ∃ L, pl = b + L := ⟨pl - b, by omega⟩
  subst hL
  have hl2 : ∀ k, k < L → ∃ a, 97 ≤ a ∧ a ≤ 122 ∧ f (b + k) = nI a := fun k hk => hl (b + k) (by omega) (by omega)
  rw [show b + L - b = L by omega] at hW
  rw [← Int64.toInt_inj, ← Int64.toInt_inj, ← Int64.toInt_inj, show (499850046565 : Int64).toInt = 499850046565 by decide, show (426953501796 : Int64).toInt = 426953501796 by decide, show (109270183079796 : Int64).toInt = 109270183079796 by decide]
  by_cases h6 : L ≤ 6
  · rw [if_pos h6] at hW
    rw [hW, w_0 hl2 (by omega) h6, w_1 hl2 (by omega) h6, w_2 hl2 (by omega) h6]
    omega
  · rw [if_neg h6] at hW
    rw [hW]
    exact ⟨⟨fun q => absurd q (w_big (by omega) (by omega)), fun q => absurd q (by decide)⟩, ⟨fun q => absurd q (w_big (by omega) (by omega)), fun q => absurd q (by decide)⟩, ⟨fun q => absurd q (w_big (by omega) (by omega)), fun q => absurd q (by decide)⟩⟩
/-- a token of the class and one of the reference -/
def TK (C : Cs) (M : Sc) : Prop := C.1 = M.1 ∧ M.2.1 = nI C.2.1 ∧
  ((C.2.2.1 = 0 ∧ M.2.2.1 = 0) ∨ (C.2.2.1 = 1 ∧ M.2.2.1 = 3) ∨ (C.2.2.1 = 2 ∧ M.2.2.1 = 2 ∧ C.2.2.2 = M.2.2.2.2) ∨ (C.2.2.1 = 3 ∧ M.2.2.1 = 1 ∧ M.2.2.2.1 = 499850046565) ∨ (C.2.2.1 = 4 ∧ M.2.2.1 = 1 ∧ M.2.2.2.1 = 426953501796) ∨ (C.2.2.1 = 5 ∧ M.2.2.1 = 1 ∧ M.2.2.2.1 = 109270183079796) ∨ (C.2.2.1 = 6 ∧ (M.2.2.1 = 4 ∨ (M.2.2.1 = 1 ∧ ¬ M.2.2.2.1 = 499850046565 ∧ ¬ M.2.2.2.1 = 426953501796 ∧ ¬ M.2.2.2.1 = 109270183079796))))
theorem tk_of {f txt : Nat → Int32} {z : Nat} (h : ∀ j, j < z → f j = txt j) (hb : ∀ j, j < z → ∃ a, a ≤ 127 ∧ f j = nI a) (S : Cs) : TK (nxk f z S) (stM txt z S.1) := by
  unfold nxk stM
  rw [← sk_eq h]
  generalize skM f z (z - S.1) S.1 = q
  unfold ntk stQ
  by_cases hq : z ≤ q
  · rw [if_pos hq, if_neg (by rw [hrM, if_pos hq]; decide)]
    exact ⟨rfl, rfl, Or.inl ⟨rfl, rfl⟩⟩
  · obtain ⟨a, ha, ea⟩ := hb q (by omega)
    have hr : hrM txt z q = f q := by rw [← hr_eq h, hrM_in (by omega)]
    rw [if_neg hq, hr, if_pos (show 0 ≤ f q by rw [ea]; exact nI_pos' (by omega))]
    by_cases h1 : inI (f q) 97 122 = true
    · rw [if_pos h1, if_pos h1]
      obtain ⟨w1, w2⟩ := wl_pack h hb (b := q) (z - q) 0 q (Nat.le_refl q) (by omega) (by rw [Nat.sub_self]; rfl)
      have hs := leC_step (f := f) (z := z) (q := q) (by rw [hrM_in (by omega)]; exact h1)
      have hle := leC_le (f := f) (z := z) (z - (q + 1)) (q + 1)
      rw [← hs] at hle
      have hz := hle.2 (by omega)
      have hlt := fun k h1 h2 => le_let (f := f) (z := z) (z - q) q k h1 h2
      generalize wlM txt z q (z - q) 0 q = V at w1 w2
      generalize leC f z (z - q) q = pl at w1 w2 hle hz hlt
      obtain ⟨k0, k1, k2⟩ := w_key (f := f) (b := q) (pl := pl) (by omega) (fun k g1 g2 => by
        have := hlt k g1 g2
        rw [hrM_in (by omega)] at this
        obtain ⟨c, c1, c2, c3⟩ := inI_nat (a := 97) (b := 122) (by omega) (by omega) rfl rfl this
        exact ⟨c, c1, c2, c3⟩) w2
      refine ⟨w1.symm, rfl, ?_⟩
      show (wkC f q pl = 0 ∧ (1 : Int32) = 0) ∨ (wkC f q pl = 1 ∧ (1 : Int32) = 3) ∨ (wkC f q pl = 2 ∧ (1 : Int32) = 2 ∧ _) ∨ (wkC f q pl = 3 ∧ (1 : Int32) = 1 ∧ V.1 = 499850046565) ∨ (wkC f q pl = 4 ∧ (1 : Int32) = 1 ∧ V.1 = 426953501796) ∨ (wkC f q pl = 5 ∧ (1 : Int32) = 1 ∧ V.1 = 109270183079796) ∨ (wkC f q pl = 6 ∧ ((1 : Int32) = 4 ∨ ((1 : Int32) = 1 ∧ ¬ V.1 = 499850046565 ∧ ¬ V.1 = 426953501796 ∧ ¬ V.1 = 109270183079796)))
      unfold wkC
      by_cases i0 : isW f q pl 0 = true
      · rw [if_pos i0]
        exact Or.inr (Or.inr (Or.inr (Or.inl ⟨rfl, rfl, k0.mp i0⟩)))
      · rw [if_neg i0]
        by_cases i1 : isW f q pl 1 = true
        · rw [if_pos i1]
          exact Or.inr (Or.inr (Or.inr (Or.inr (Or.inl ⟨rfl, rfl, k1.mp i1⟩))))
        · rw [if_neg i1]
          by_cases i2 : isW f q pl 2 = true
          · rw [if_pos i2]
            exact Or.inr (Or.inr (Or.inr (Or.inr (Or.inr (Or.inl ⟨rfl, rfl, k2.mp i2⟩)))))
          · rw [if_neg i2]
            exact Or.inr (Or.inr (Or.inr (Or.inr (Or.inr (Or.inr ⟨rfl, Or.inr ⟨rfl, fun e => i0 (k0.mpr e), fun e => i1 (k1.mpr e), fun e => i2 (k2.mpr e)⟩⟩)))))
    · rw [if_neg h1, if_neg h1]
      by_cases h2 : inI (f q) 48 57 = true
      · rw [if_pos h2, if_pos h2, vl_eq h]
        by_cases h3 : (vlM txt z q (z - q) 0 q).2 - q ≤ 2
        · rw [if_pos h3, if_pos h3]
          exact ⟨rfl, rfl, Or.inr (Or.inr (Or.inl ⟨rfl, rfl, rfl⟩))⟩
        · rw [if_neg h3, if_neg h3]
          exact ⟨rfl, rfl, Or.inr (Or.inr (Or.inr (Or.inr (Or.inr (Or.inr ⟨rfl, Or.inl rfl⟩)))))⟩
      · rw [if_neg h2, if_neg h2]
        by_cases h3 : f q = 59
        · rw [if_pos h3, if_pos h3]
          exact ⟨rfl, rfl, Or.inr (Or.inl ⟨rfl, rfl⟩)⟩
        · rw [if_neg h3, if_neg h3]
          exact ⟨rfl, rfl, Or.inr (Or.inr (Or.inr (Or.inr (Or.inr (Or.inr ⟨rfl, Or.inl rfl⟩)))))⟩
theorem tk_semi {C : Cs} {M : Sc} (h : TK C M) : C.2.2.1 = 1 ↔ M.2.2.1 = 3 := by
  obtain ⟨-, -, h⟩ := h
  rcases h with ⟨a, b⟩ | ⟨a, b⟩ | ⟨a, b, -⟩ | ⟨a, b, -⟩ | ⟨a, b, -⟩ | ⟨a, b, -⟩ | ⟨a, b | ⟨b, -⟩⟩ <;> rw [a, b] <;> decide
theorem tk_num {C : Cs} {M : Sc} (h : TK C M) : (C.2.2.1 = 2 ↔ M.2.2.1 = 2) ∧ (C.2.2.1 = 2 → C.2.2.2 = M.2.2.2.2) := by
  obtain ⟨-, -, h⟩ := h
  rcases h with ⟨a, b⟩ | ⟨a, b⟩ | ⟨a, b, c⟩ | ⟨a, b, -⟩ | ⟨a, b, -⟩ | ⟨a, b, -⟩ | ⟨a, b | ⟨b, -⟩⟩ <;> rw [a, b]
  · exact ⟨by decide, fun q => absurd q (by decide)⟩
  · exact ⟨by decide, fun q => absurd q (by decide)⟩
  · exact ⟨Iff.rfl, fun _ => c⟩
  · exact ⟨by decide, fun q => absurd q (by decide)⟩
  · exact ⟨by decide, fun q => absurd q (by decide)⟩
  · exact ⟨by decide, fun q => absurd q (by decide)⟩
  · exact ⟨by decide, fun q => absurd q (by decide)⟩
  · exact ⟨by decide, fun q => absurd q (by decide)⟩
theorem tk_nb {C : Cs} {M : Sc} (h : TK C M) (x : Int32) : nbC C x = nbM M x := by
  obtain ⟨h1, h2⟩ := tk_num h
  unfold nbC nbM
  by_cases e : C.2.2.1 = 2
  · rw [decide_eq_true e, decide_eq_true (h1.mp e), h2 e]
  · rw [decide_eq_false e, decide_eq_false (fun q => e (h1.mpr q)), Bool.false_and, Bool.false_and]
theorem nbC_eq {C : Cs} {M : Sc} {x : Int32} (h : TK C M) (hn : nbC C x = true) : C.2.2.2 = M.2.2.2.2 := by
  simp only [nbC, Bool.and_eq_true, decide_eq_true_eq] at hn
  exact (tk_num h).2 hn.1
theorem nb_le {f : Nat → Int32} {z b : Nat} {S : Cs} {x : Int32} (hx : x = nI b) (hb : b < 1000) (h : nbC (nxk f z S) x = true) : ∃ a, a ≤ b ∧ (nxk f z S).2.2.2 = nI a := by
  obtain ⟨a, h1, h2⟩ := nbC_val h
  simp only [nbC, Bool.and_eq_true, Bool.not_eq_true', decide_eq_false_iff_not] at h
  refine ⟨a, ?_, h2⟩
  have h3 := h.2
  rw [h2, hx] at h3
  have h4 : ¬ b < a := fun q => h3 ((nI_ltI (by omega) (by omega)).mpr q)
  omega
def RQ (wo : Int32) (t : Tq) (rd : Nat → Int32) (n : Nat) : Prop := n ≤ 6 ∧ t.1 = n ∧ rd 22 = nI n ∧ RelC n (wo, 0, 0, 0, nI n, t.2.1, t.2.2.1, t.2.2.2.1, t.2.2.2.2.1, t.2.2.2.2.2) rd ∧ RelK n (wo, 0, 0, 0, nI n, t.2.1, t.2.2.1, t.2.2.2.1, t.2.2.2.2.1, t.2.2.2.2.2) rd ∧ (∀ j, j < n → (∃ a, a ≤ 5 ∧ rd (23 + j) = nI a) ∧ ∃ a, a ≤ 20 ∧ rd (29 + j) = nI a) ∧ rd 35 = nI 0 ∧ rd 78 = nI 0
theorem rq_child {wo xk xs xw xh : Int32} {ki se wd hu bt rd : Nat → Int32} {n : Nat} (h : RQ wo (n, ki, se, wd, hu, bt) rd n) (hn : n < 6) (d : fi rd xs n 0 = -1) (hk : ∃ a, a ≤ 5 ∧ xk = nI a) (hs : ∃ a, a < 8 ∧ xs = nI a) (hw : ∃ a, a ≤ 20 ∧ xw = nI a) (hh : ∃ a, a ≤ 30 ∧ xh = nI a) : RQ wo (n + 1, upd ki n xk, upd se n xs, upd wd n xw, upd hu n xh, upd bt n 0) (cmM rd n xk xs xw xh) (n + 1) := by
  obtain ⟨h1, -, h3, h4, h5, h6, h7, h8⟩ := h
  have e : upd (cmM rd n xk xs xw xh) 78 0 = cmM rd n xk xs xw xh := by
    funext j
    by_cases hj : j = 78
    · rw [hj, upd_at]
      unfold cmM
      rw [upd_ne _ _ (by omega), upd_ne _ _ (by omega), upd_ne _ _ (by omega), upd_ne _ _ (by omega), upd_ne _ _ (by omega), h8]
      rfl
    · exact upd_ne _ _ hj
  have r := relS_child (T := fun _ => Tb0) (np := z0) (zn := 0) h1 hn h4 h5 h6 (by omega) h7 (fun j hj => absurd hj (by omega)) d hk hs hw hh
  rw [e] at r
  obtain ⟨n', zn, u, o, a1, a2, a3, a4, a5, a6, a7, a8, a9, b1, b2, b3, b4, b5, b6⟩ := r
  have en : n + 1 = n' := (nI_eq (by omega) (by omega)).mp a3.2.2.2.2.1
  subst en
  have e7 : nI 0 = nI zn := a7
  have e4 : nI 0 = nI u := b4
  exact ⟨a1, rfl, a2, a3, a4, a5, by rw [a8, e7], by rw [b5, e4]⟩
theorem rq_carrot {wo : Int32} {ki se wd hu bt rd : Nat → Int32} {n a : Nat} (h : RQ wo (n, ki, se, wd, hu, bt) rd n) (ha : a < n) : RQ wo (n, ki, se, wd, upd hu a (mx0 (hu a - 10)), bt) (upd rd (6 + a) (lsr (rd (6 + a)) 10)) n := by
  obtain ⟨h1, -, h3, h4, h5, h6, h7, h8⟩ := h
  have q2 : hu a = rd (6 + a) := (h4.2.2.2.2.2.2.2.1 a ha).2.1
  obtain ⟨b, hb, eb⟩ := (h4.2.2.2.2.2.2.2.1 a ha).2.2.2.2
  obtain ⟨c, hc, e1, e2⟩ := mx_lsr b (by omega)
  have ev : lsr (rd (6 + a)) 10 = mx0 (hu a - 10) := by rw [q2, eb, e1, e2]
  have hv : mx0 (hu a - 10) = nI c := by rw [q2, eb, e2]
  rw [ev]
  have ne : ∀ j, j ≠ 6 + a → upd rd (6 + a) (mx0 (hu a - 10)) j = rd j := fun j hj => upd_ne _ _ hj
  exact ⟨h1, rfl, by rw [ne 22 (by omega)]; exact h3, relC_hunger h1 h4 ha ⟨c, by omega, hv⟩ (fun _ _ => rfl), fun j hj => by rw [ne (23 + j) (by omega), ne (29 + j) (by omega)]; exact h5 j hj, fun j hj => by rw [ne (23 + j) (by omega), ne (29 + j) (by omega)]; exact h6 j hj, by rw [ne 35 (by omega)]; exact h7, by rw [ne 78 (by omega)]; exact h8⟩
def PQ (wo : Int32) (R : Int32 × Cs × Tq) (Q : Int32 × Bool × (Nat → Int32)) : Prop := R.1 = Q.1 ∧ ((Q.2.1 = true ∧ ¬ R.1 ≤ 0 ∧ ∃ n, RQ wo R.2.2 Q.2.2 n) ∨ (Q.2.1 = false ∧ R.1 ≤ 0))
theorem neg10 : ∀ s, s < 151 → (-10 : Int32) - nI s ≤ 0 := by decide +kernel
theorem pq_fault {wo y : Int32} {C : Cs} {t : Tq} {rd : Nat → Int32} {s : Nat} (hs : s ≤ 150) (hy : y = nI s) : PQ wo (-10 - nI s, C, t) (-10 - y, false, rd) := by
  rw [hy]
  exact ⟨rfl, Or.inr ⟨rfl, neg10 s (by omega)⟩⟩
theorem rl_false {f : Nat → Int32} {z r i : Nat} {S : Cs} {t : Tq} : rlC f z (r + 1) i false S t = (-10 - nI S.2.1, S, t) := by
  rw [rlC, if_neg (fun h => Bool.false_ne_true h.1)]
  rfl
theorem nb_n {f : Nat → Int32} {z n : Nat} {S : Cs} {M : Sc} (hn : n ≤ 6) (h : TK (nxk f z S) M) : nbC (nxk f z S) (nI n - 1) = true ↔ (M.2.2.1 = 2 ∧ M.2.2.2.2 < nI n) := by
  constructor
  · intro q
    obtain ⟨a, ha, ea⟩ := nbC_lt hn q
    have e := nbC_eq h q
    simp only [nbC, Bool.and_eq_true, decide_eq_true_eq] at q
    exact ⟨(tk_num h).1.mp q.1, by rw [← e, ea]; exact (nI_ltI (by omega) (by omega)).mpr ha⟩
  · rintro ⟨q1, q2⟩
    have p1 := (tk_num h).1.mpr q1
    rw [← (tk_num h).2 p1] at q2
    obtain ⟨a, ha, ea⟩ := nxk_val p1
    rw [ea] at q2
    have q3 := (nI_ltI (by omega) (by omega)).mp q2
    unfold nbC
    rw [decide_eq_true p1, ea, show nI n - 1 = nI (n - 1) by rw [show n = (n - 1) + 1 by omega]; exact nI_pred (n - 1), decide_eq_false (fun z => by have := (nI_ltI (by omega) (by omega)).mp z; omega)]
    rfl
/-- behind an item: the mark, or a fault -/
theorem pq_after {f txt : Nat → Int32} {z m i : Nat} {wo : Int32} {T : Cs} {M : Sc} {t : Tq} {rd rd0 : Nat → Int32} {n : Nat} (hz : z ≤ 150) (hT : TK T M) (hs : T.2.1 ≤ z)
    (ih : T.2.2.1 = 1 → PQ wo (rlC f z (m + 1) (i + 1) true T t) (rdL txt z (z - i - 1) (i + 1 + 1) (stM txt z M.1) rd n)) : PQ wo (rlC f z (m + 1) (i + 1) (mkC T) T t) (if M.2.2.1 = 3 then rdL txt z (z - i - 1) (i + 1 + 1) (stM txt z M.1) rd n else (-10 - M.2.1, false, rd0)) := by
  by_cases h : T.2.2.1 = 1
  · rw [if_pos ((tk_semi hT).mp h), mkC, decide_eq_true h]
    exact ih h
  · rw [if_neg (fun q => h ((tk_semi hT).mpr q)), mkC, decide_eq_false h, rl_false]
    exact pq_fault (by omega) hT.2.1
theorem rc_pair {f txt : Nat → Int32} {z : Nat} {wo : Int32} (ht : ∀ S : Cs, TK (nxk f z S) (stM txt z S.1)) {T : Cs} {M : Sc} {n : Nat} {ki se wd hu bt rd : Nat → Int32} (hT1 : T.1 = M.1) (hT2 : M.2.1 = nI T.2.1) (hTz : T.1 ≤ z) (hTs : T.2.1 ≤ z) (hR : RQ wo (n, ki, se, wd, hu, bt) rd n) :
    (∃ (T' : Cs) (M' : Sc), rcC f z T n ki se wd hu bt = (false, T', n, ki, se, wd, hu, bt) ∧ rcM txt z M rd n = (false, M', rd, n) ∧ M'.2.1 = nI T'.2.1 ∧ T'.2.1 ≤ z) ∨ (∃ (T' : Cs) (M' : Sc) (ki' se' wd' hu' bt' rd' : Nat → Int32), rcC f z T n ki se wd hu bt = (mkC T', T', n + 1, ki', se', wd', hu', bt') ∧ rcM txt z M rd n = (true, M', rd', n + 1) ∧ TK T' (stM txt z M'.1) ∧ T.1 ≤ T'.1 ∧ T'.1 ≤ z ∧ T'.2.1 ≤ z ∧ RQ wo (n + 1, ki', se', wd', hu', bt') rd' (n + 1)) := by
  have o1 := nxk_ok (f := f) hTz
  have o2 := nxk_ok (f := f) o1.2.1
  have o3 := nxk_ok (f := f) o2.2.1
  have o4 := nxk_ok (f := f) o3.2.1
  have o5 := nxk_ok (f := f) o4.2.1
  have t1 := ht T
  rw [hT1] at t1
  have t2 := ht (nxk f z T)
  rw [t1.1] at t2
  have t3 := ht (nxk f z (nxk f z T))
  rw [t2.1] at t3
  have t4 := ht (nxk f z (nxk f z (nxk f z T)))
  rw [t3.1] at t4
  have t5 := ht (nxk f z (nxk f z (nxk f z (nxk f z T))))
  rw [t4.1] at t5
  have h6 := hR.1
  have hse : ∀ j, j < n → se j = rd j := fun j hj => (hR.2.2.2.1.2.2.2.2.2.2.2.1 j hj).1
  have ef : ∀ w, fi se w n 0 = fi rd w n 0 := fun w => fi_congr n 0 (fun j _ g2 => hse j (by omega))
  by_cases d6 : n = 6
  · exact Or.inl ⟨T, M, by rw [rcC, if_pos (by omega)], by rw [rcM, if_pos d6], hT2, hTs⟩
  have d7 : ¬ 6 ≤ n := by omega
  by_cases c1 : nbC (nxk f z T) 5 = true
  case neg =>
    exact Or.inl ⟨(nxk f z T), (stM txt z M.1), by rw [rcC, if_neg d7, if_neg c1], by rw [rcM, if_neg d6, if_neg (fun q => c1 ((tk_nb t1 _).trans q))], t1.2.1, by have := o1.2.2.1; omega⟩
  have m1 : nbM (stM txt z M.1) 5 = true := (tk_nb t1 _).symm.trans c1
  have e1 := nbC_eq t1 c1
  obtain ⟨x1, y1, z1⟩ := nb_le (b := 5) rfl (by omega) c1
  rw [e1] at z1
  by_cases c2 : nbC (nxk f z (nxk f z T)) 7 = true
  case neg =>
    exact Or.inl ⟨(nxk f z (nxk f z T)), (stM txt z (stM txt z M.1).1), by rw [rcC, if_neg d7, if_pos c1, if_neg c2], by rw [rcM, if_neg d6, if_pos m1, if_neg (fun q => c2 ((tk_nb t2 7).trans q.1))], t2.2.1, by have := o2.2.2.1; omega⟩
  have m2 : nbM (stM txt z (stM txt z M.1).1) 7 = true := (tk_nb t2 _).symm.trans c2
  have e2 := nbC_eq t2 c2
  obtain ⟨x2, y2, z2⟩ := nb_le (b := 7) rfl (by omega) c2
  rw [e2] at z2
  by_cases f3 : fi rd (stM txt z (stM txt z M.1).1).2.2.2.2 n 0 = -1
  case neg =>
    exact Or.inl ⟨(nxk f z (nxk f z T)), (stM txt z (stM txt z M.1).1), by rw [rcC, if_neg d7, if_pos c1, if_pos c2, if_neg (by rw [e2, ef]; exact f3)], by rw [rcM, if_neg d6, if_pos m1, if_neg (fun q => f3 q.2)], t2.2.1, by have := o2.2.2.1; omega⟩
  have f2 : fi se (nxk f z (nxk f z T)).2.2.2 n 0 = -1 := by rw [e2, ef]; exact f3
  by_cases c3 : nbC (nxk f z (nxk f z (nxk f z T))) 20 = true
  case neg =>
    exact Or.inl ⟨(nxk f z (nxk f z (nxk f z T))), (stM txt z (stM txt z (stM txt z M.1).1).1), by rw [rcC, if_neg d7, if_pos c1, if_pos c2, if_pos f2, if_neg c3], by rw [rcM, if_neg d6, if_pos m1, if_pos ⟨m2, f3⟩, if_neg (fun q => c3 ((tk_nb t3 _).trans q))], t3.2.1, by have := o3.2.2.1; omega⟩
  have m3 : nbM (stM txt z (stM txt z (stM txt z M.1).1).1) 20 = true := (tk_nb t3 _).symm.trans c3
  have e3 := nbC_eq t3 c3
  obtain ⟨x3, y3, z3⟩ := nb_le (b := 20) rfl (by omega) c3
  rw [e3] at z3
  by_cases c4 : nbC (nxk f z (nxk f z (nxk f z (nxk f z T)))) 30 = true
  case neg =>
    exact Or.inl ⟨(nxk f z (nxk f z (nxk f z (nxk f z T)))), (stM txt z (stM txt z (stM txt z (stM txt z M.1).1).1).1), by rw [rcC, if_neg d7, if_pos c1, if_pos c2, if_pos f2, if_pos c3, if_neg c4], by rw [rcM, if_neg d6, if_pos m1, if_pos ⟨m2, f3⟩, if_pos m3, if_neg (fun q => c4 ((tk_nb t4 _).trans q))], t4.2.1, by have := o4.2.2.1; omega⟩
  have m4 : nbM (stM txt z (stM txt z (stM txt z (stM txt z M.1).1).1).1) 30 = true := (tk_nb t4 _).symm.trans c4
  have e4 := nbC_eq t4 c4
  obtain ⟨x4, y4, z4⟩ := nb_le (b := 30) rfl (by omega) c4
  rw [e4] at z4
  have hR2 := rq_child hR (by omega) f3 ⟨x1, y1, z1⟩ ⟨x2, by omega, z2⟩ ⟨x3, y3, z3⟩ ⟨x4, y4, z4⟩
  exact Or.inr ⟨(nxk f z (nxk f z (nxk f z (nxk f z (nxk f z T))))), (stM txt z (stM txt z (stM txt z (stM txt z M.1).1).1).1), _, _, _, _, _, _, by rw [rcC, if_neg d7, if_pos c1, if_pos c2, if_pos f2, if_pos c3, if_pos c4, e1, e2, e3, e4], by rw [rcM, if_neg d6, if_pos m1, if_pos ⟨m2, f3⟩, if_pos m3, if_pos m4], t5, by omega, o5.2.1, o5.2.2.1, hR2⟩
theorem cr_pair {f txt : Nat → Int32} {z : Nat} {wo : Int32} (ht : ∀ S : Cs, TK (nxk f z S) (stM txt z S.1)) {T : Cs} {M : Sc} {n : Nat} {ki se wd hu bt rd : Nat → Int32} (hT1 : T.1 = M.1) (hT2 : M.2.1 = nI T.2.1) (hTz : T.1 ≤ z) (hTs : T.2.1 ≤ z) (hR : RQ wo (n, ki, se, wd, hu, bt) rd n) :
    (∃ (T' : Cs) (M' : Sc), crC f z T n hu = (false, T', hu) ∧ crM txt z M rd n = (false, M', rd, n) ∧ M'.2.1 = nI T'.2.1 ∧ T'.2.1 ≤ z) ∨ (∃ (T' : Cs) (M' : Sc) (hu' rd' : Nat → Int32), crC f z T n hu = (mkC T', T', hu') ∧ crM txt z M rd n = (true, M', rd', n) ∧ TK T' (stM txt z M'.1) ∧ T.1 ≤ T'.1 ∧ T'.1 ≤ z ∧ T'.2.1 ≤ z ∧ RQ wo (n, ki, se, wd, hu', bt) rd' n) := by
  have o1 := nxk_ok (f := f) hTz
  have o2 := nxk_ok (f := f) o1.2.1
  have t1 := ht T
  rw [hT1] at t1
  have t2 := ht (nxk f z T)
  rw [t1.1] at t2
  have h6 := hR.1
  have hnb := nb_n hR.1 t1
  by_cases c1 : nbC (nxk f z T) (nI n - 1) = true
  case neg =>
    exact Or.inl ⟨(nxk f z T), (stM txt z M.1), by rw [crC, if_neg c1], by rw [crM, hR.2.2.1, if_neg (fun q => c1 (hnb.mpr q))], t1.2.1, by have := o1.2.2.1; omega⟩
  obtain ⟨x1, y1, z1⟩ := nbC_lt hR.1 c1
  have e1 := nbC_eq t1 c1
  have z2 := z1
  rw [e1] at z2
  exact Or.inr ⟨(nxk f z (nxk f z T)), (stM txt z M.1), _, _, by rw [crC, if_pos c1, z1, nI_clamp (by omega)], by rw [crM, hR.2.2.1, if_pos (hnb.mp c1), z2, nI_clamp (by omega)], t2, by omega, o2.2.1, o2.2.2.1, rq_carrot hR y1⟩
theorem rd_lock_step {f txt : Nat → Int32} {z : Nat} {wo : Int32} (h : ∀ j, j < z → f j = txt j) (hb : ∀ j, j < z → ∃ a, a ≤ 127 ∧ f j = nI a) (hz : z ≤ 150) {m i : Nat} {C : Cs} {n : Nat} {ki se wd hu bt rd : Nat → Int32} (hi : i + m + 1 = 150) (hC : C.2.2.1 = 1) (h1 : i + 1 ≤ C.1) (h2 : C.1 ≤ z) (hR : RQ wo (n, ki, se, wd, hu, bt) rd n)
    (ih : ∀ (C' : Cs) (n' : Nat) (ki' se' wd' hu' bt' rd' : Nat → Int32), i + 1 + 1 ≤ C'.1 → C'.1 ≤ z → C'.2.2.1 = 1 → RQ wo (n', ki', se', wd', hu', bt') rd' n' → PQ wo (rlC f z (m + 1) (i + 1) true C' (n', ki', se', wd', hu', bt')) (rdL txt z (z - i - 1) (i + 1 + 1) (stM txt z C'.1) rd' n')) :
    PQ wo (rlC f z (m + 2) i true C (n, ki, se, wd, hu, bt)) (rdL txt z (z - i) (i + 1) (stM txt z C.1) rd n) := by
  have ht : ∀ S, TK (nxk f z S) (stM txt z S.1) := tk_of h hb
  have hT := ht C
  have o0 := nxk_ok (f := f) h2
  have eR0 : rlC f z (m + 2) i true C (n, ki, se, wd, hu, bt) = (if (nxk f z C).2.2.1 = 4 then rlC f z (m + 1) (i + 1) (rcC f z (nxk f z C) n ki se wd hu bt).1 (rcC f z (nxk f z C) n ki se wd hu bt).2.1 (rcC f z (nxk f z C) n ki se wd hu bt).2.2
       else if (nxk f z C).2.2.1 = 5 then rlC f z (m + 1) (i + 1) (crC f z (nxk f z C) n hu).1 (crC f z (nxk f z C) n hu).2.1 (n, ki, se, wd, (crC f z (nxk f z C) n hu).2.2, bt)
       else rlC f z (m + 1) (i + 1) (decide ((nxk f z C).2.2.1 = 0)) (nxk f z C) (n, ki, se, wd, hu, bt)) := by
    rw [rlC, if_pos ⟨rfl, by rw [hC]; decide, by omega⟩]
  have eQ0 := rdL_eq (txt := txt) (z := z) (f := z - i) (i := i + 1) (S := stM txt z C.1) (rd := rd) (n := n) (by omega)
  rw [show decide (i + 1 = 0) = false from decide_eq_false (by omega)] at eQ0
  generalize nxk f z C = T at hT o0 eR0
  generalize stM txt z C.1 = M at hT eQ0
  obtain ⟨hT1, hT2, hT3⟩ := id hT
  have n0 : ¬ i + 1 = 0 := by omega
  have fault : T.2.2.1 = 6 ∨ T.2.2.1 = 1 ∨ T.2.2.1 = 2 ∨ T.2.2.1 = 3 → (riM txt z M false rd n) = (false, M, rd, n) → ¬ M.2.2.1 = 0 → PQ wo (rlC f z (m + 2) i true C (n, ki, se, wd, hu, bt)) (rdL txt z (z - i) (i + 1) M rd n) := fun ha hri hM => by
    rw [eR0, eQ0, if_neg (by rcases ha with a | a | a | a <;> rw [a] <;> decide), if_neg (by rcases ha with a | a | a | a <;> rw [a] <;> decide), decide_eq_false (show ¬ T.2.2.1 = 0 by rcases ha with a | a | a | a <;> rw [a] <;> decide), rl_false, if_neg (fun q => hM q.2), if_neg (by rw [hri]; exact Bool.false_ne_true), hri]
    exact pq_fault (by omega) hT2
  rcases hT3 with ⟨a, b⟩ | ⟨a, b⟩ | ⟨a, b, c⟩ | ⟨a, b, c⟩ | ⟨a, b, c⟩ | ⟨a, b, c⟩ | ⟨a, c⟩
  · rw [eR0, eQ0, if_neg (by rw [a]; decide), if_neg (by rw [a]; decide), decide_eq_true a, rlC, if_neg (fun q => q.2.1 a), if_pos (show ¬ i + 1 = 0 ∧ M.2.2.1 = 0 from ⟨n0, b⟩)]
    exact ⟨rfl, Or.inl ⟨rfl, fun q => by have := (nI_leI (a := i + 1) (b := 0) (by omega) (by omega)).mp q; omega, n, hR⟩⟩
  · exact fault (Or.inr (Or.inl a)) (by rw [riM, if_neg (by rw [b]; decide)]) (by rw [b]; decide)
  · exact fault (Or.inr (Or.inr (Or.inl a))) (by rw [riM, if_neg (by rw [b]; decide)]) (by rw [b]; decide)
  · exact fault (Or.inr (Or.inr (Or.inr a))) (by rw [riM, if_pos b, if_pos c, if_neg Bool.false_ne_true]) (by rw [b]; decide)
  · have hM : ¬ M.2.2.1 = 0 := by rw [b]; decide
    have ot := o0.2.2.2 (by rw [a]; decide)
    have er : riM txt z M false rd n = rcM txt z M rd n := by
      have k1 : ¬ M.2.2.2.1 = 499850046565 := by rw [c]; decide
      rw [riM, if_pos b, if_neg k1, if_neg Bool.false_ne_true, if_pos c]
    rw [eR0, eQ0, if_pos a, if_neg (fun q => hM q.2), er]
    rcases rc_pair ht hT1 hT2 o0.2.1 o0.2.2.1 hR with ⟨T', M', p1, p2, p3, p4⟩ | ⟨T', M', ki', se', wd', hu', bt', rd', p1, p2, p3, p4, p5, p6, p7⟩
    · rw [if_neg (by rw [p2]; exact Bool.false_ne_true), p1, p2]
      show PQ wo (rlC f z (m + 1) (i + 1) false T' (n, ki, se, wd, hu, bt)) (-10 - M'.2.1, false, rd)
      rw [rl_false]
      exact pq_fault (by omega) p3
    · rw [if_pos (by rw [p2]), p1, p2]
      exact pq_after hz p3 p6 (fun q => by rw [← p3.1]; exact ih T' _ _ _ _ _ _ _ (by omega) p5 q p7)
  · have hM : ¬ M.2.2.1 = 0 := by rw [b]; decide
    have ot := o0.2.2.2 (by rw [a]; decide)
    have er : riM txt z M false rd n = crM txt z M rd n := by
      have k1 : ¬ M.2.2.2.1 = 499850046565 := by rw [c]; decide
      have k2 : ¬ M.2.2.2.1 = 426953501796 := by rw [c]; decide
      rw [riM, if_pos b, if_neg k1, if_neg Bool.false_ne_true, if_neg k2, if_pos c]
    rw [eR0, eQ0, if_neg (by rw [a]; decide), if_pos a, if_neg (fun q => hM q.2), er]
    rcases cr_pair ht hT1 hT2 o0.2.1 o0.2.2.1 hR with ⟨T', M', p1, p2, p3, p4⟩ | ⟨T', M', hu', rd', p1, p2, p3, p4, p5, p6, p7⟩
    · rw [if_neg (by rw [p2]; exact Bool.false_ne_true), p1, p2]
      show PQ wo (rlC f z (m + 1) (i + 1) false T' (n, ki, se, wd, hu, bt)) (-10 - M'.2.1, false, rd)
      rw [rl_false]
      exact pq_fault (by omega) p3
    · rw [if_pos (by rw [p2]), p1, p2]
      exact pq_after hz p3 p6 (fun q => by rw [← p3.1]; exact ih T' _ _ _ _ _ _ _ (by omega) p5 q p7)
  · rcases c with c | ⟨c, c1, c2, c3⟩
    · exact fault (Or.inl a) (by rw [riM, if_neg (by rw [c]; decide)]) (by rw [c]; decide)
    · exact fault (Or.inl a) (by rw [riM, if_pos c, if_neg c1, if_neg Bool.false_ne_true, if_neg c2, if_neg c3]) (by rw [c]; decide)
theorem rd_lock {f txt : Nat → Int32} {z : Nat} {wo : Int32} (h : ∀ j, j < z → f j = txt j) (hb : ∀ j, j < z → ∃ a, a ≤ 127 ∧ f j = nI a) (hz : z ≤ 150) : ∀ (m i : Nat) (C : Cs) (n : Nat) (ki se wd hu bt rd : Nat → Int32), i + m + 1 = 150 → C.2.2.1 = 1 → i + 1 ≤ C.1 → C.1 ≤ z → RQ wo (n, ki, se, wd, hu, bt) rd n → PQ wo (rlC f z (m + 2) i true C (n, ki, se, wd, hu, bt)) (rdL txt z (z - i) (i + 1) (stM txt z C.1) rd n) := by
  intro m
  induction m with
  | zero =>
    intro i C n ki se wd hu bt rd hi hC h1 h2 hR
    exact rd_lock_step h hb hz hi hC h1 h2 hR (fun C' _ _ _ _ _ _ _ g1 g2 g3 => absurd g1 (by omega))
  | succ m ih =>
    intro i C n ki se wd hu bt rd hi hC h1 h2 hR
    exact rd_lock_step h hb hz hi hC h1 h2 hR (fun C' n' ki' se' wd' hu' bt' rd' g1 g2 g3 g4 => ih (i + 1) C' n' ki' se' wd' hu' bt' rd' (by omega) g3 g1 g2 g4)

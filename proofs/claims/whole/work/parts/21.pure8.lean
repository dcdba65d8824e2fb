/-! the reference's reading, as a whole -/
def rdM (txt : Nat → Int32) (z : Nat) : Int32 × Bool × (Nat → Int32) := rdL txt z (z + 1) 0 (stM txt z 0) (upd bg0 20 0) 0
theorem riM_ok {txt : Nat → Int32} {z : Nat} {S : Sc} {fs : Bool} {rd : Nat → Int32} {n : Nat} (hS : S.1 ≤ z) (hc : rd 22 = nI n) (hn : n ≤ 6) :
    (riM txt z S fs rd n).2.2.1 22 = nI (riM txt z S fs rd n).2.2.2 ∧ (riM txt z S fs rd n).2.2.2 ≤ 6 ∧ S.1 ≤ (riM txt z S fs rd n).2.1.1 ∧ (riM txt z S fs rd n).2.1.1 ≤ z := by
  have triv : rd 22 = nI n ∧ n ≤ 6 ∧ S.1 ≤ S.1 ∧ S.1 ≤ z := ⟨hc, hn, Nat.le_refl _, hS⟩
  have s1 := stM_le (txt := txt) hS
  have one : rd 22 = nI n ∧ n ≤ 6 ∧ S.1 ≤ (stM txt z S.1).1 ∧ (stM txt z S.1).1 ≤ z := ⟨hc, hn, s1.1, s1.2.1⟩
  unfold riM
  split
  · split
    · split
      · unfold tbM
        split
        · exact ⟨by show upd rd 20 (stM txt z S.1).2.2.2.2 22 = nI n; rw [upd_ne _ _ (by omega)]; exact hc, hn, s1.1, s1.2.1⟩
        · exact one
      · exact triv
    · split
      · exact triv
      · split
        · unfold rcM
          have s2 := stM_le (txt := txt) s1.2.1
          have s3 := stM_le (txt := txt) s2.2.1
          have s4 := stM_le (txt := txt) s3.2.1
          split
          · exact triv
          · rename_i h6
            split
            · split
              · split
                · split
                  · exact ⟨by simp only [cmM, upd_at], by show n + 1 ≤ 6; omega, by show S.1 ≤ (stM txt z (stM txt z (stM txt z (stM txt z S.1).1).1).1).1; omega, s4.2.1⟩
                  · exact ⟨hc, hn, by show S.1 ≤ (stM txt z (stM txt z (stM txt z (stM txt z S.1).1).1).1).1; omega, s4.2.1⟩
                · exact ⟨hc, hn, by show S.1 ≤ (stM txt z (stM txt z (stM txt z S.1).1).1).1; omega, s3.2.1⟩
              · exact ⟨hc, hn, by show S.1 ≤ (stM txt z (stM txt z S.1).1).1; omega, s2.2.1⟩
            · exact one
        · split
          · unfold crM
            split
            · rename_i hv
              obtain ⟨a, ha, ea⟩ := stM_val (txt := txt) (z := z) (p := S.1)
              have h2 := hv.2
              rw [ea, hc] at h2
              have h3 : a < n := (nI_ltI (by omega) (by omega)).mp h2
              refine ⟨?_, hn, s1.1, s1.2.1⟩
              show upd rd (6 + (stM txt z S.1).2.2.2.2.toNatClampNeg) (lsr (rd (6 + (stM txt z S.1).2.2.2.2.toNatClampNeg)) 10) 22 = nI n
              rw [ea, nI_clamp (by omega), upd_ne _ _ (by omega)]
              exact hc
            · exact one
          · exact triv
  · exact triv
theorem rdL_eq {txt : Nat → Int32} {z f i : Nat} {S : Sc} {rd : Nat → Int32} {n : Nat} (hf : 0 < f) : rdL txt z f i S rd n =
    if ¬ i = 0 ∧ S.2.2.1 = 0 then (nI i, true, rd)
    else if (riM txt z S (decide (i = 0)) rd n).1 then
      (if (stM txt z (riM txt z S (decide (i = 0)) rd n).2.1.1).2.2.1 = 3 then rdL txt z (f - 1) (i + 1) (stM txt z (stM txt z (riM txt z S (decide (i = 0)) rd n).2.1.1).1) (riM txt z S (decide (i = 0)) rd n).2.2.1 (riM txt z S (decide (i = 0)) rd n).2.2.2
       else (-10 - (stM txt z (riM txt z S (decide (i = 0)) rd n).2.1.1).2.1, false, rd))
    else (-10 - (riM txt z S (decide (i = 0)) rd n).2.1.2.1, false, rd) := by
  cases f with
  | zero => omega
  | succ f => rfl
/-! the reference's way through all seats -/
abbrev Sq : Type := Nat × Int32 × (Nat → Int32) × (Nat → Int32) × (Nat → Int32)
def clr (t : Nat → Int32) (d j : Nat) : Nat → Int32 := fun q => if d ≤ q ∧ q < j then -1 else t q
theorem clr_0 (t : Nat → Int32) (d : Nat) : clr t d d = t := by funext q; simp only [clr]; rw [if_neg (by omega)]
theorem clr_step (t : Nat → Int32) {d j : Nat} (h : d ≤ j) : upd (clr t d j) j (-1) = clr t d (j + 1) := by
  funext q
  by_cases hq : q = j
  · subst hq; rw [upd_at]; simp only [clr]; rw [if_pos (by omega)]
  · rw [upd_ne _ _ hq]; simp only [clr]
    by_cases h1 : d ≤ q ∧ q < j
    · rw [if_pos h1, if_pos (by omega)]
    · rw [if_neg h1, if_neg (by omega)]
theorem clr_out {t : Nat → Int32} {d j q : Nat} (h : q < d ∨ j ≤ q) : clr t d j q = t q := by simp only [clr]; rw [if_neg (by omega)]
/-- one turn of the loop: kk is the depth and one -/
def sqS (n : Nat) (x : Sq) : Sq :=
  if x.1 - 1 = n then
    (x.1 - 1, (if x.2.1 ≤ bitsV (bitrM x.2.2.1 n) then x.2.1 else bitsV (bitrM x.2.2.1 n)), x.2.2.1, x.2.2.2.1, (if x.2.1 ≤ bitsV (bitrM x.2.2.1 n) then x.2.2.2.2 else x.2.2.1))
  else if x.2.2.2.1 (x.1 - 1) + 1 ≤ 7 then
    (if fi (clr x.2.2.1 (x.1 - 1) n) (x.2.2.2.1 (x.1 - 1) + 1) n 0 = -1 then
      (x.1 + 1, x.2.1, upd (clr x.2.2.1 (x.1 - 1) n) (x.1 - 1) (x.2.2.2.1 (x.1 - 1) + 1), (if n ≤ x.1 - 1 + 1 then upd x.2.2.2.1 (x.1 - 1) (x.2.2.2.1 (x.1 - 1) + 1) else upd (upd x.2.2.2.1 (x.1 - 1) (x.2.2.2.1 (x.1 - 1) + 1)) (x.1 - 1 + 1) (-1)), x.2.2.2.2)
     else (x.1, x.2.1, clr x.2.2.1 (x.1 - 1) n, upd x.2.2.2.1 (x.1 - 1) (x.2.2.2.1 (x.1 - 1) + 1), x.2.2.2.2))
  else (x.1 - 1, x.2.1, clr x.2.2.1 (x.1 - 1) n, upd x.2.2.2.1 (x.1 - 1) (x.2.2.2.1 (x.1 - 1) + 1), x.2.2.2.2)
def sqL (n : Nat) : Nat → Sq → Option (Int32 × (Nat → Int32))
  | 0, _ => none
  | F + 1, x => if x.1 = 0 then some (x.2.1, x.2.2.2.2) else sqL n F (sqS n x)
theorem sqL_step {n F : Nat} {x : Sq} {r : Int32 × (Nat → Int32)} (h : sqL n F x = some r) (h0 : ¬ x.1 = 0) : 0 < F ∧ sqL n (F - 1) (sqS n x) = some r := by
  cases F with
  | zero => exact absurd h (by simp [sqL])
  | succ F => rw [sqL, if_neg h0] at h; exact ⟨Nat.succ_pos F, h⟩
theorem sqL_end {n F : Nat} {x : Sq} {r : Int32 × (Nat → Int32)} (h : sqL n F x = some r) (h0 : x.1 = 0) : r = (x.2.1, x.2.2.2.2) := by
  cases F with
  | zero => exact absurd h (by simp [sqL])
  | succ F => rw [sqL, if_pos h0] at h; exact (Option.some.inj h).symm

/-! pure words of the reference's questions -/
def goN (n : Nat) : Nat → (Nat → Int32) → Nat → Int32
  | 0, t => t
  | k + 1, t => goM (goN n k t) n
theorem goN_out {t : Nat → Int32} {n i : Nat} (hn : n ≤ 6) (hi : i < 6 ∨ i = 20 ∨ 22 ≤ i) : ∀ k, goN n k t i = t i
  | 0 => rfl
  | k + 1 => by simp only [goN]; rw [goM_out hn hi, goN_out hn hi k]
/-- bites in m minutes from t on -/
def brM (n m : Nat) (t : Nat → Int32) : Int32 := (goN n m t) 18 - t 18
/-- the first of r places from i on where p holds; none: -1 -/
def fP (p : Nat → Bool) : Nat → Nat → Int32
  | 0, _ => -1
  | r + 1, i => if p i then nI i else fP p r (i + 1)
theorem fP_step {p : Nat → Bool} {n k : Nat} (h : k < n) : fP p (n - k) k = if p k then nI k else fP p (n - (k + 1)) (k + 1) := by
  rw [show n - k = (n - (k + 1)) + 1 by omega]; rfl
theorem fP_end {p : Nat → Bool} {n k : Nat} (h : n ≤ k) : fP p (n - k) k = -1 := by
  rw [show n - k = 0 by omega]; rfl
/-- the least of f, the first of like ones: what v says of it, and the value -/
def am (f v : Nat → Int32) (w0 f0 : Int32) : Nat → Int32 × Int32
  | 0 => (w0, f0)
  | k + 1 => if (am f v w0 f0 k).2 ≤ f k then am f v w0 f0 k else (v k, f k)
theorem am_s1 {f v : Nat → Int32} {w0 f0 w g : Int32} {k : Nat} (h1 : w = (am f v w0 f0 k).1) (h2 : g = (am f v w0 f0 k).2) (h : g ≤ f k) : w = (am f v w0 f0 (k + 1)).1 ∧ g = (am f v w0 f0 (k + 1)).2 := by
  simp only [am]
  rw [if_pos (by rw [← h2]; exact h)]
  exact ⟨h1, h2⟩
theorem am_s2 {f v : Nat → Int32} {w0 f0 g : Int32} {k : Nat} (h2 : g = (am f v w0 f0 k).2) (h : ¬ g ≤ f k) : v k = (am f v w0 f0 (k + 1)).1 ∧ f k = (am f v w0 f0 (k + 1)).2 := by
  simp only [am]
  rw [if_neg (by rw [← h2]; exact h)]
  exact ⟨rfl, rfl⟩
def qtM (n : Nat) : Nat → Nat → (Nat → Int32) → Int32
  | 0, _, _ => -1
  | r + 1, k, t => if brM n 1 t ≤ 0 then qtM n r (k + 1) (goM t n) else nI k
theorem qtM_step {n k : Nat} {t : Nat → Int32} (h : k < 61) : qtM n (61 - k) k t = if brM n 1 t ≤ 0 then qtM n (61 - (k + 1)) (k + 1) (goM t n) else nI k := by
  rw [show 61 - k = (61 - (k + 1)) + 1 by omega]; rfl
theorem qtM_end {n k : Nat} {t : Nat → Int32} (h : 61 ≤ k) : qtM n (61 - k) k t = -1 := by
  rw [show 61 - k = 0 by omega]; rfl
def wdA (t : Nat → Int32) (k : Nat) (x : Int32) : Nat → Int32 := upd t (29 + k) (t (29 + k) + x)
def hlA (n d k : Nat) (t : Nat → Int32) : Nat → Int32 := upd (goN n d t) (6 + k) (lsr ((goN n d t) (6 + k)) 10)
def hlF (n : Nat) (t : Nat → Int32) (k d : Nat) : Int32 := brM n d t + brM n (20 - d) (hlA n d k t)
def hlS (n : Nat) (t : Nat → Int32) : Nat → Int32 × Int32
  | 0 => (-1, brM n 20 t)
  | k + 1 => am (hlF n t k) (fun d => 10 * nI k + nI d) (hlS n t k).1 (hlS n t k).2 10
def ntM (t : Nat → Int32) (z : Nat) (x0 x1 x2 x3 x4 x5 x6 : Int32) : Nat → Int32 :=
  upd (upd (upd (upd (upd (upd (upd (upd t (36 + 7 * z) x0) (36 + 7 * z + 1) x1) (36 + 7 * z + 2) x2) (36 + 7 * z + 3) x3) (36 + 7 * z + 4) x4) (36 + 7 * z + 5) x5) (36 + 7 * z + 6) x6) 35 (nI (z + 1))
/-- does kind fit the first j notes of x -/
def ksM (t : Nat → Int32) (x kind : Int32) : Nat → Bool
  | 0 => true
  | j + 1 => ksM t x kind j && (!decide (t (36 + 7 * j) = x) || decide (nm kind (t (36 + 7 * j + 1)) (t (36 + 7 * j + 2)) (t (36 + 7 * j + 3)) (t (36 + 7 * j + 4)) (t (36 + 7 * j + 5)) = t (36 + 7 * j + 6)))
def koM (t : Nat → Int32) (z : Nat) (x : Int32) : Int32 := btM (fun kd => ksM t x (nI kd) z) 6
def alT (set h t w b l : Int32) (i j : Nat) : Bool := hasI set (nI i) && (hasI set (nI j) && decide (nm (nI i) h t w b l = nm (nI j) h t w b l))
def alC (set h t w b l : Int32) (i : Nat) : Nat → Int32
  | 0 => 0
  | j + 1 => alC set h t w b l i j + (if alT set h t w b l i j then 1 else 0)
def alS (set h t w b l : Int32) : Nat → Int32
  | 0 => 0
  | i + 1 => if alC set h t w b l i 6 ≤ alS set h t w b l i then alS set h t w b l i else alC set h t w b l i 6
def lkF (t : Nat → Int32) (k : Nat) (set : Int32) (c : Nat) : Int32 := alS set (t (6 + k)) (nI c / 3 - nI c / 3 / 3 * 3) (t (29 + k)) (nI c - nI c / 3 * 3) (nI c / 9) 6
def lkV (c : Nat) : Int32 := (100 * (nI c / 9) + 10 * (nI c / 3 - nI c / 3 / 3 * 3)) + (nI c - nI c / 3 * 3)
def chB (t : Nat → Int32) (n : Nat) (ch : Int32) : Int32 := bitrM t n &&& (ch ^^^ (-1))
def gtM (t : Nat → Int32) (n : Nat) (x ch : Int32) : Nat → Int32
  | 0 => if hasI ch x then 0 else 1
  | e + 1 => gtM t n x ch e - (if hasI (chB t n ch) (nI e) && decide (whM t n (t e) = x) then 2 else 0)
def chM (a b : Int32) (pr : Nat) : Int32 := (if hasI (nI pr) 0 then 0 else (1 : Int32) <<< (a &&& 31)) ||| (if hasI (nI pr) 1 then 0 else (1 : Int32) <<< (b &&& 31))
def rgM (t : Nat → Int32) (n : Nat) (a b : Int32) (pr : Nat) : Bool :=
  !decide (gtM t n a (chM a b pr) n < gtM t n a (chM a b pr ^^^ ((1 : Int32) <<< (a &&& 31))) n) && !decide (gtM t n b (chM a b pr) n < gtM t n b (chM a b pr ^^^ ((1 : Int32) <<< (b &&& 31))) n)
def lcg (x : Int64) : Int64 := (x * 1103515245 + 12345) - (x * 1103515245 + 12345) / 2147483648 * 2147483648
def hgO (x : Int64) : Int32 := (x / 65536 - x / 65536 / 31 * 31).toInt32
def wkX (x : Int64) : Nat → Int64
  | 0 => x
  | i + 1 => lcg (wkX x i)
def wkA (t : Nat → Int32) (x : Int64) : Nat → Nat → Int32
  | 0 => t
  | i + 1 => upd (wkA t x i) (6 + i) (hgO (wkX x (i + 1)))
def wkS (t : Nat → Int32) (n : Nat) (x : Int64) : Nat → Int64 × Int32
  | 0 => (x, 0)
  | k + 1 => (wkX (wkS t n x k).1 n, (wkS t n x k).2 + brM n 3 (wkA t (wkS t n x k).1 n))
theorem wkA_out {t : Nat → Int32} {x : Int64} {j : Nat} (hj : j < 6 ∨ 12 ≤ j) : ∀ i, i ≤ 6 → wkA t x i j = t j
  | 0, _ => rfl
  | i + 1, h => by simp only [wkA]; rw [upd_ne _ _ (by omega), wkA_out hj i (by omega)]
def cnM (t : Nat → Int32) (sz w : Int32) : Int32 := if w = 0 then t 22 else if w = 1 then t 21 else if w = 2 then t 18 else if w = 3 then t 19 else if w = 4 then t 20 else if w = 5 then t 35 else if w = 6 then t 78 else sz
def dg1 (t : Nat → Int32) (sz : Int32) : Nat → Int64
  | 0 => 1429
  | k + 1 => 31 * dg1 t sz k + (cnM t sz (nI k)).toInt64
def dg2 (t : Nat → Int32) (h : Int64) : Nat → Int64
  | 0 => h
  | i + 1 => 31 * (31 * (31 * (31 * (31 * dg2 t h i + (t (23 + i)).toInt64) + (t i).toInt64) + (t (29 + i)).toInt64) + (t (6 + i)).toInt64) + (t (12 + i)).toInt64
def dg3 (t : Nat → Int32) (h : Int64) : Nat → Int64
  | 0 => h
  | j + 1 => 31 * dg3 t h j + (t (36 + j)).toInt64
theorem i32_64 : ∀ v, v < 64 → ∃ c, c ≤ 6 ∧ bitsV (nI v) = nI c := by
  have h : ∀ v, v < 64 → ∃ c, c < 7 ∧ bitsV (nI v) = nI c := by decide +kernel
  intro v hv
  obtain ⟨c, h1, h2⟩ := h v hv
  exact ⟨c, by omega, h2⟩
theorem bt_small {x : Int32} (h : ∀ i, 6 ≤ i → i < 32 → bt x i = false) : ∃ v, v < 64 ∧ x = nI v := by
  have e : x &&& 63 = x := by
    apply b_ext
    intro i hi
    rw [b_and]
    by_cases h6 : i < 6
    · rw [(by decide +kernel : ∀ i, i < 6 → bt 63 i = true) i h6, Bool.and_true]
    · rw [h i (by omega) hi, Bool.false_and]
  obtain ⟨j, h1, h2⟩ := pk_andE x (m := 63) 6 rfl
  exact ⟨j, by omega, by rw [← e]; exact h2⟩
theorem btM_small {f : Nat → Bool} {n : Nat} (hn : n ≤ 6) : ∃ v, v < 64 ∧ btM f n = nI v :=
  bt_small (fun i h1 h2 => by rw [btM_bt h2 n (by omega), decide_eq_false (by omega), Bool.false_and])
theorem bitsV_btM {f : Nat → Bool} {n : Nat} (hn : n ≤ 6) : ∃ c, c ≤ 6 ∧ bitsV (btM f n) = nI c := by
  obtain ⟨v, h1, h2⟩ := btM_small (f := f) hn
  rw [h2]
  exact i32_64 v h1

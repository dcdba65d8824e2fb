/-! numbers, blocks of cells, and the words of a table -/
theorem ix_add {x y : Int32} {a b : Nat} (hx : x = nI a) (hy : y = nI b) : x + y = nI (a + b) := by rw [hx, hy, nI_add]
theorem ix_mul {x y : Int32} {a b : Nat} (hx : x = nI a) (hy : y = nI b) : x * y = nI (a * b) := by rw [hx, hy, pk_mul]
theorem ix_sub {x y : Int32} {a b : Nat} (hx : x = nI a) (hy : y = nI b) (h : b ≤ a) : x - y = nI (a - b) := by rw [hx, hy, pk_sub h]
theorem ix_rem {x y : Int32} {a b : Nat} (hx : x = nI a) (hy : y = nI b) (ha : a < 2 ^ 31) (h0 : 0 < b) (hb : b < 2 ^ 31) : x - x / y * y = nI (a % b) := by rw [hx, hy, pk_rem ha h0 hb]
theorem cv_le {x y : Int32} {a b : Nat} (hx : x = nI a) (hy : y = nI b) (ha : a < 2147483648) (hb : b < 2147483648) : x ≤ y ↔ a ≤ b := by rw [hx, hy]; exact nI_leI ha hb
theorem cv_lt {x y : Int32} {a b : Nat} (hx : x = nI a) (hy : y = nI b) (ha : a < 2147483648) (hb : b < 2147483648) : x < y ↔ a < b := by rw [hx, hy]; exact nI_ltI ha hb
theorem cv_eq {x y : Int32} {a b : Nat} (hx : x = nI a) (hy : y = nI b) (ha : a < 2147483648) (hb : b < 2147483648) : x = y ↔ a = b := by rw [hx, hy]; exact nI_eq ha hb
section XT
variable {p : Program} {l : Launch} {e : Env} {R : Room} {s : State} {m : MethodId} {args : Array Value} {below : List Frame} {meth : Method} {c : Code} {H : Heap} {locs : List Loc} {cells slots : Nat} {Q : State → Prop}
variable {pc : Nat} {ls : Array Slot} {rest : List Value}
theorem x_topi {x y : Int32} (h : x = y) (k : W p l e R s m args below meth c H locs cells slots Q (F0 m pc ls (.int y :: rest))) : W p l e R s m args below meth c H locs cells slots Q (F0 m pc ls (.int x :: rest)) := by subst h; exact k
theorem x_topl {x y : Int64} (h : x = y) (k : W p l e R s m args below meth c H locs cells slots Q (F0 m pc ls (.long y :: rest))) : W p l e R s m args below meth c H locs cells slots Q (F0 m pc ls (.long x :: rest)) := by subst h; exact k
end XT
def bI (b : Bool) : Int32 := if b then 1 else 0
theorem bI_0 {b : Bool} : bI b = 0 ↔ b = false := by cases b <;> decide
theorem bI_1 {b : Bool} : bI b = 1 ↔ b = true := by cases b <;> decide
theorem bI_n0 {b : Bool} : ¬ bI b = 0 ↔ b = true := by cases b <;> decide
def pre (f h : Nat → Int32) (k : Nat) : Nat → Int32 := fun j => if j < k then f j else h j
theorem pre_0 (f h : Nat → Int32) : pre f h 0 = h := by funext j; simp [pre]
theorem pre_get (f h : Nat → Int32) (k : Nat) : pre f h k k = h k := by simp [pre]
theorem pre_ge (f h : Nat → Int32) {k j : Nat} (hj : k ≤ j) : pre f h k j = h j := by simp [pre, Nat.not_lt.mpr hj]
theorem pre_lt (f h : Nat → Int32) {k j : Nat} (hj : j < k) : pre f h k j = f j := by simp [pre, hj]
theorem pre_upd (f h : Nat → Int32) (k : Nat) : upd (pre f h k) k (f k) = pre f h (k + 1) := by
  funext j
  simp only [upd, pre]
  by_cases hj : j = k
  · subst hj; simp
  · rw [if_neg hj]
    by_cases hk : j < k
    · rw [if_pos hk, if_pos (by omega)]
    · rw [if_neg hk, if_neg (by omega)]
theorem upd_at (f : Nat → Int32) (k : Nat) (x : Int32) : upd f k x k = x := by simp [upd]
theorem upd_ne (f : Nat → Int32) {k j : Nat} (x : Int32) (h : j ≠ k) : upd f k x j = f j := by simp [upd, h]
theorem upd_upd (f : Nat → Int32) (k : Nat) (x y : Int32) : upd (upd f k x) k y = upd f k y := by
  funext j; simp only [upd]; by_cases hj : j = k <;> simp [hj]
/-- the cells of a table -/
def tW (G : GG) (a : Nat → Nat) (wo mi bi la ch : Int32) (ki se wd hu bt : Nat → Int32) : va_W :=
  [(a 0, .inr (3, [.int wo, .int mi, .int bi, .int la, .int ch, .ref (a 1), .ref (a 2), .ref (a 3), .ref (a 4), .ref (a 5)])), (a 1, .inl (G.2 0, 6, .inl ki)), (a 2, .inl (G.2 0, 6, .inl se)), (a 3, .inl (G.2 0, 6, .inl wd)), (a 4, .inl (G.2 0, 6, .inl hu)), (a 5, .inl (G.2 0, 6, .inl bt))]
def aW (G : GG) (a n : Nat) (f : Nat → Int32) : va_W := [(a, .inl (G.2 0, n, .inl f))]
/-! pure words of the class's table -/
def nxS (w : Int32) : Int32 := (w + 1) - (w + 1) / 8 * 8
def ahS (w : Int32) : Int32 := ((w + 8) - 1) - ((w + 8) - 1) / 8 * 8
def nrP (h t w : Int32) : Int32 := if 0 < (h + 3 * t) - w / 2 then (h + 3 * t) - w / 2 else 0
def nrT (p w : Int32) : Int32 := if 0 < p - w / 2 then p - w / 2 else 0
def nr (k h t w b l : Int32) : Int32 :=
  if k = 1 then nrP h t w + 4 else if k = 2 then nrT (nrP h t w) w else if k = 3 then nrP h t w + 3 * l else if k = 4 then (nrP h t w + 3 * l) + 2 * b else if k = 5 then nrT (nrP h t w) w / 2 else nrP h t w
/-- the first of r places from i on where f has w; none: -1 -/
def fi (f : Nat → Int32) (w : Int32) : Nat → Nat → Int32
  | 0, _ => -1
  | r + 1, i => if f i = w then nI i else fi f w r (i + 1)
theorem fi_step {f : Nat → Int32} {w : Int32} {n k : Nat} (h : k < n) : fi f w (n - k) k = if f k = w then nI k else fi f w (n - (k + 1)) (k + 1) := by
  rw [show n - k = (n - (k + 1)) + 1 by omega]; rfl
theorem fi_end {f : Nat → Int32} {w : Int32} {n k : Nat} (h : n ≤ k) : fi f w (n - k) k = -1 := by
  rw [show n - k = 0 by omega]; rfl
/-- seats taken, as bits -/
def tk (se : Nat → Int32) : Nat → Int32
  | 0 => 0
  | k + 1 => tk se k ||| ((1 : Int32) <<< (se k &&& 31))
def tgI (taken w : Int32) : Int32 := ((taken >>> (nxS w &&& 31)) &&& 1) + ((taken >>> (ahS w &&& 31)) &&& 1)
def whm (se : Nat → Int32) (n : Nat) (w : Int32) : Int32 := if fi se (nxS w) n 0 = -1 then fi se (ahS w) n 0 else fi se (nxS w) n 0
def gdd (wo w : Int32) : Bool := decide (w = wo) || (decide (w = nxS wo) || decide (w = ahS wo))
/-- does child i bite, by the seats taken -/
def bitesC (wo la : Int32) (ki se wd hu bt : Nat → Int32) (taken : Int32) (i : Nat) : Bool :=
  !decide (tgI taken (se i) ≤ 0) && (!gdd wo (se i) && !decide (nr (ki i) (hu i) (tgI taken (se i)) (wd i) (bt i) la < 12))
def btS (f : Nat → Bool) : Nat → Int32
  | 0 => 0
  | k + 1 => if f k then btS f k ||| ((1 : Int32) <<< (nI k &&& 31)) else btS f k
def bitr (wo la : Int32) (n : Nat) (ki se wd hu bt : Nat → Int32) : Int32 := btS (bitesC wo la ki se wd hu bt (tk se n)) n
def hasB (x : Int32) (i : Nat) : Bool := decide ((x >>> (nI i &&& 31)) &&& 1 = 1)
/-- how often i is bitten by the first k children -/
def tmS (se : Nat → Int32) (n : Nat) (set i : Int32) : Nat → Int32
  | 0 => 0
  | k + 1 => if hasB set k && decide (whm se n (se k) = i) then tmS se n set i k + 1 else tmS se n set i k
def fH (set : Int32) (hu : Nat → Int32) (j : Nat) : Int32 :=
  let h1 := if hasB set j then (if 0 < hu j - 8 then hu j - 8 else 0) else hu j
  if h1 + 1 < 30 then h1 + 1 else 30
def fB (se : Nat → Int32) (n : Nat) (set : Int32) (bt : Nat → Int32) (j : Nat) : Int32 := bt j + tmS se n set (nI j) n
/-- the library's count of bits -/
def bcI (x : Int32) : Int32 :=
  let a := x - (((x.toUInt32 >>> ((1 : Int32).toUInt32 &&& Int32.toUInt32 31)).toInt32) &&& 1431655765)
  let b := (a &&& 858993459) + (((a.toUInt32 >>> ((2 : Int32).toUInt32 &&& Int32.toUInt32 31)).toInt32) &&& 858993459)
  let d := (b + (b.toUInt32 >>> ((4 : Int32).toUInt32 &&& Int32.toUInt32 31)).toInt32) &&& 252645135
  let e := d + (d.toUInt32 >>> ((8 : Int32).toUInt32 &&& Int32.toUInt32 31)).toInt32
  let f := e + (e.toUInt32 >>> ((16 : Int32).toUInt32 &&& Int32.toUInt32 31)).toInt32
  f &&& 63

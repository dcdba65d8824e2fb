/-! the class's calls: pure words -/
theorem minI {x : Int32} {xx mn : Nat} (hx : x = nI xx) (hm : mn ≤ 999) (h6 : xx ≤ 60) : (if 999 - nI mn < x then 999 - nI mn else x) = nI (min xx (999 - mn)) := by
  subst hx
  rw [show (999 : Int32) = nI 999 from rfl, pk_sub hm]
  by_cases h : 999 - mn < xx
  · rw [if_pos ((nI_ltI (by omega) (by omega)).mpr h), Nat.min_eq_right (by omega)]
  · rw [if_neg (fun q => h ((nI_ltI (by omega) (by omega)).mp q)), Nat.min_eq_left (by omega)]
theorem c_X3_passM (l : Launch) (G : GG) (a : Nat → Nat) (x : Int32) (mm : Nat) (hv_x : x = nI mm) (wo : Int32) (mi : Int32) (bi : Int32) (la : Int32) (n : Nat) (ki : Nat → Int32) (se : Nat → Int32) (wd : Nat → Int32) (hu : Nat → Int32) (bt : Nat → Int32) (D : Dy) (hn : n ≤ 6) (hmm : mm < 2147483648) (hD : pmN wo n ki se wd mm (mi, bi, la, hu, bt) = D) :
    CT l G yX3_passMinutes cX3_passMinutes 4 (some .int) 5 109 [.ref (a 0), .int x] (tW G a wo mi bi la (nI n) ki se wd hu bt) (some (.int (D.2.1 - bi))) (tW G a wo D.1 D.2.1 D.2.2.1 (nI n) ki se wd D.2.2.2.1 D.2.2.2.2) := by
  subst hD
  exact c_X3_passMinutes l G a x mm hv_x wo mi bi la n ki se wd hu bt hn hmm
def qtC (wo : Int32) (n : Nat) (ki se wd : Nat → Int32) : Nat → Nat → Dy → Int32
  | 0, _, _ => -1
  | r + 1, k, d => if 0 < bcI (bitr wo d.2.2.1 n ki se wd d.2.2.2.1 d.2.2.2.2) then nI k else qtC wo n ki se wd r (k + 1) (pm1 wo n ki se wd d)
def stC (n : Nat) (ki se wd : Nat → Int32) (xx : Nat) (d : Dy) : Nat → Int32 × Int32
  | 0 => (6 * nI xx + 1, -1)
  | q + 1 => if (pmN (nI q) n ki se wd xx d).2.1 - d.2.1 < (stC n ki se wd xx d q).1 then ((pmN (nI q) n ki se wd xx d).2.1 - d.2.1, nI q) else stC n ki se wd xx d q
def bwC (wo : Int32) (n : Nat) (ki se wd : Nat → Int32) (d : Dy) (k w : Nat) : Int32 :=
  ((pmN wo n ki se wd w d).2.1 - d.2.1) + ((pmN wo n ki se wd (20 - w) ((pmN wo n ki se wd w d).1, (pmN wo n ki se wd w d).2.1, (pmN wo n ki se wd w d).2.2.1, upd (pmN wo n ki se wd w d).2.2.2.1 k (mx0 ((pmN wo n ki se wd w d).2.2.2.1 k - 10)), (pmN wo n ki se wd w d).2.2.2.2)).2.1 - (pmN wo n ki se wd w d).2.1)
def hpI (wo : Int32) (n : Nat) (ki se wd : Nat → Int32) (d : Dy) (k : Nat) : Nat → Int32 × Int32 → Int32 × Int32
  | 0, x => x
  | w + 1, x => if bwC wo n ki se wd d k w < (hpI wo n ki se wd d k w x).1 then (bwC wo n ki se wd d k w, 10 * nI k + nI w) else hpI wo n ki se wd d k w x
def hpO (wo : Int32) (n : Nat) (ki se wd : Nat → Int32) (d : Dy) : Nat → Int32 × Int32
  | 0 => ((pmN wo n ki se wd 20 d).2.1 - d.2.1, -1)
  | k + 1 => hpI wo n ki se wd d k 10 (hpO wo n ki se wd d k)
def syC (wo : Int32) (n : Nat) (ki se wd : Nat → Int32) (d : Dy) : Nat → Int32 × Int32
  | 0 => (121, -1)
  | k + 1 => if (pmN wo n ki se (upd wd k (wd k + 10)) 20 d).2.1 - d.2.1 < (syC wo n ki se wd d k).1 then ((pmN wo n ki se (upd wd k (wd k + 10)) 20 d).2.1 - d.2.1, nI k) else syC wo n ki se wd d k
def wdC (ki se wd hu bt : Nat → Int32) (la : Int32) (n k : Nat) : Nat → Nat → Int32
  | 0, _ => -1
  | r + 1, q => if nr (ki k) (hu k) (tgI (tk se n) (se k)) (wd k + nI q) (bt k) la < 12 then nI q else wdC ki se wd hu bt la n k r (q + 1)
def lkB (set h w : Int32) (l t : Nat) : Nat → Int32 × Int32 → Int32 × Int32
  | 0, x => x
  | b + 1, x => if alX set h (nI t) w (nI b) (nI l) 6 < (lkB set h w l t b x).1 then (alX set h (nI t) w (nI b) (nI l) 6, 100 * nI l + 10 * nI t + nI b) else lkB set h w l t b x
def lkT (set h w : Int32) (l : Nat) : Nat → Int32 × Int32 → Int32 × Int32
  | 0, x => x
  | t + 1, x => lkB set h w l t 3 (lkT set h w l t x)
def lkL (set h w : Int32) : Nat → Int32 × Int32
  | 0 => (7, -1)
  | l + 1 => lkT set h w l 3 (lkL set h w l)
def rnS (set pr xa xb : Int32) : Int32 :=
  if pr &&& 2 = 0 then (if pr &&& 1 = 0 then set &&& (((1 : Int32) <<< (xa &&& 31)) ^^^ -1) else set) &&& (((1 : Int32) <<< (xb &&& 31)) ^^^ -1)
  else (if pr &&& 1 = 0 then set &&& (((1 : Int32) <<< (xa &&& 31)) ^^^ -1) else set)
def rnC (set : Int32) (se : Nat → Int32) (n : Nat) (x pr xa xb : Int32) : Int32 :=
  (if (if x = xa then pr &&& 1 = 0 else pr &&& 2 = 0) then 0 else 1) - 2 * tmS se n (rnS set pr xa xb) x n
def rgB (set : Int32) (se : Nat → Int32) (n : Nat) (xa xb : Int32) (q : Nat) : Bool :=
  decide (rnC set se n xa (nI q ^^^ 1) xa xb ≤ rnC set se n xa (nI q) xa xb) && decide (rnC set se n xb (nI q ^^^ 2) xa xb ≤ rnC set se n xb (nI q) xa xb)
def eyC (t : Int32) : Nat → Nat
  | 0 => 0
  | q + 1 => if 1 < q + 1 ∧ (¬ t - t / nI (q + 1) * nI (q + 1) = 0 ∨ ¬ (10 : Int32) - 10 / nI (q + 1) * nI (q + 1) = 0) then eyC t q else q + 1
theorem eyC_eq {t : Int32} {q : Nat} (h : 1 ≤ q) : eyC t q = if 1 < q ∧ (¬ t - t / nI q * nI q = 0 ∨ ¬ (10 : Int32) - 10 / nI q * nI q = 0) then eyC t (q - 1) else q := by
  cases q with
  | zero => omega
  | succ q => rfl
theorem nI_nez {q : Nat} (h : 1 ≤ q) (h2 : q ≤ 1000) : nI q ≠ 0 := fun h9 => by
  have := (cv_eq (a := q) (b := 0) rfl rfl (by omega) (by omega)).mp h9
  omega
theorem nI_dec {q : Nat} (h : 1 ≤ q) : nI q + Int32.ofInt (-1) = nI (q - 1) := by
  rw [show Int32.ofInt (-1) = -1 by decide, ← Int32.sub_eq_add_neg]
  exact pk_sub (a := q) (b := 1) h

/-! a minute: the moving part of a table is (minute, bites, lately, hunger, bitten) -/
abbrev Dy : Type := Int32 × Int32 × Int32 × (Nat → Int32) × (Nat → Int32)
def pm1 (wo : Int32) (n : Nat) (ki se wd : Nat → Int32) (d : Dy) : Dy :=
  (d.1 + 1, d.2.1 + bcI (bitr wo d.2.2.1 n ki se wd d.2.2.2.1 d.2.2.2.2), bcI (bitr wo d.2.2.1 n ki se wd d.2.2.2.1 d.2.2.2.2),
    pre (fH (bitr wo d.2.2.1 n ki se wd d.2.2.2.1 d.2.2.2.2) d.2.2.2.1) d.2.2.2.1 n, pre (fB se n (bitr wo d.2.2.1 n ki se wd d.2.2.2.1 d.2.2.2.2) d.2.2.2.2) d.2.2.2.2 n)
def pmN (wo : Int32) (n : Nat) (ki se wd : Nat → Int32) : Nat → Dy → Dy
  | 0, d => d
  | k + 1, d => pm1 wo n ki se wd (pmN wo n ki se wd k d)
theorem fH_s1 {set : Int32} {hu hu' : Nat → Int32} {k : Nat} (hh : hu' = pre (fH set hu) hu k) (hb : hasB set k = true) : upd (upd hu' k (if 0 < hu' k - 8 then hu' k - 8 else 0)) k (if (upd hu' k (if 0 < hu' k - 8 then hu' k - 8 else 0)) k + 1 < 30 then (upd hu' k (if 0 < hu' k - 8 then hu' k - 8 else 0)) k + 1 else 30) = pre (fH set hu) hu (k + 1) := by
  subst hh
  rw [upd_at, upd_upd, ← pre_upd]
  congr 1
  simp only [fH, hb, pre_get, if_true]
theorem fH_s2 {set : Int32} {hu hu' : Nat → Int32} {k : Nat} (hh : hu' = pre (fH set hu) hu k) (hb : hasB set k = false) : upd hu' k (if hu' k + 1 < 30 then hu' k + 1 else 30) = pre (fH set hu) hu (k + 1) := by
  subst hh
  rw [← pre_upd]
  congr 1
  simp [fH, hb, pre_get]
theorem fB_s {se : Nat → Int32} {n : Nat} {set : Int32} {bt bt' : Nat → Int32} {k : Nat} (hh : bt' = pre (fB se n set bt) bt k) : upd bt' k (bt' k + tmS se n set (nI k) n) = pre (fB se n set bt) bt (k + 1) := by
  subst hh
  rw [← pre_upd]
  congr 1
  simp [fB, pre_get]
def mx0 (x : Int32) : Int32 := if 0 < x then x else 0

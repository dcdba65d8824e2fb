/-! blocks of cells of the class -/
abbrev Tb : Type := Int32 × Int32 × Int32 × Int32 × Int32 × (Nat → Int32) × (Nat → Int32) × (Nat → Int32) × (Nat → Int32) × (Nat → Int32)
def tB (G : GG) (a : Nat → Nat) (T : Tb) : va_W := tW G a T.1 T.2.1 T.2.2.1 T.2.2.2.1 T.2.2.2.2.1 T.2.2.2.2.2.1 T.2.2.2.2.2.2.1 T.2.2.2.2.2.2.2.1 T.2.2.2.2.2.2.2.2.1 T.2.2.2.2.2.2.2.2.2
def ta (a : Nat → Nat) (j : Nat) : Nat → Nat := fun i => a (10 + 10 * j + i)
def updT (T : Nat → Tb) (k : Nat) (x : Tb) : Nat → Tb := fun j => if j = k then x else T j
def nW (G : GG) (a : Nat → Nat) (np : Nat → Int32) (ns : Int32) : va_W := [(a 0, .inr (0, [.ref (a 1), .int ns])), (a 1, .inl (G.2 0, 42, .inl np))]
def poW (_ : GG) (a : Nat → Nat) (old sz : Int32) : va_W := [(a 0, .inr (1, [.ref (a 1), .int old, .int sz]))]
def paW (G : GG) (a : Nat → Nat) : va_W := [(a 1, .inl (G.2 3, 8, .inr (.inr (.inr (.inr (fun j => some (ta a j 0)))))))]
def pbs (G : GG) (a : Nat → Nat) (old sz : Int32) (T : Nat → Tb) : List va_W :=
  [poW G a old sz, paW G a, tB G (ta a 0) (T 0), tB G (ta a 1) (T 1), tB G (ta a 2) (T 2), tB G (ta a 3) (T 3), tB G (ta a 4) (T 4), tB G (ta a 5) (T 5), tB G (ta a 6) (T 6), tB G (ta a 7) (T 7)]
def pW (G : GG) (a : Nat → Nat) (old sz : Int32) (T : Nat → Tb) : va_W := (pbs G a old sz T).flatten
def oS (_ : GG) (s : Nat) (t p nn : Nat → Nat) : va_W := [(s, .inr (2, [.ref (t 0), .ref (p 0), .ref (nn 0)]))]
def zW (G : GG) (a n : Nat) (f : Nat → Int32) : va_W := [(a, .inl (G.2 2, n, .inl f))]
def gW (G : GG) (a : Nat) (si : Nat → Nat) : va_W := [(a, .inl (G.2 4, 2, .inr (.inr (.inr (.inr (fun j => some (si j)))))))]
def xT (G : GG) (a : Nat → Nat) (by_ : Nat → Int32) (len pl st tk vl : Int32) : va_W := [(a 0, .inr (4, [.ref (a 1), .int len, .int pl, .int st, .int tk, .int vl])), (a 1, .inl (G.2 1, 150, .inl by_))]
def xO (_ : GG) (x sc im kp : Nat) (tx tr : Nat → Nat) (sg rf : Nat) (abv blw : Int64) : va_W := [(x, .inr (5, [.ref sc, .ref im, .ref kp, .ref (tx 0), .ref (tr 0), .ref sg, .ref rf, .long abv, .long blw]))]
theorem flatP (bs cs : List va_W) : (bs.flatten :: cs).flatten = (bs ++ cs).flatten := by simp
theorem flatQ (bs ds cs : List va_W) : (bs.flatten :: ds.flatten :: cs).flatten = (bs ++ (ds ++ cs)).flatten := by simp
theorem CT.conv {l : Launch} {G : GG} {y : MethodName} {cc : ByteArray} {maxL : Nat} {ret : Option FieldType} {fr lo : Nat} {av : List Value} {w w' w2 w2' : va_W} {o : Option Value} (h : CT l G y cc maxL ret fr lo av w o w') (e1 : w2 = w) (e2 : w2' = w') : CT l G y cc maxL ret fr lo av w2 o w2' := by subst e1; subst e2; exact h
/-! pure words of the class -/
def kpO (o z : Nat) : Nat := if z < 8 then o else (o + 1) % 8
def kpZ (z : Nat) : Nat := if z < 8 then z + 1 else z
def ntC (np : Nat → Int32) (z : Nat) (x0 x1 x2 x3 x4 x5 x6 : Int32) : Nat → Int32 :=
  upd (upd (upd (upd (upd (upd (upd np (z * 7) x0) (z * 7 + 1) x1) (z * 7 + 2) x2) (z * 7 + 3) x3) (z * 7 + 4) x4) (z * 7 + 5) x5) (z * 7 + 6) x6
/-- kinds that are so near, as bits -/
def ksC (nv h t w b l : Int32) (k : Nat) : Int32 := btS (fun kd => decide (nr (nI kd) h t w b l = nv)) k
def koC (np : Nat → Int32) (x : Int32) : Nat → Int32
  | 0 => 63
  | j + 1 => if np (j * 7) = x then koC np x j &&& ksC (np (j * 7 + 6)) (np (j * 7 + 1)) (np (j * 7 + 2)) (np (j * 7 + 3)) (np (j * 7 + 4)) (np (j * 7 + 5)) 6 else koC np x j
def alX (set h t w b l : Int32) : Nat → Int32
  | 0 => 0
  | k + 1 => if hasB set k then (if alX set h t w b l k < bcI (set &&& ksC (nr (nI k) h t w b l) h t w b l 6) then bcI (set &&& ksC (nr (nI k) h t w b l) h t w b l 6) else alX set h t w b l k) else alX set h t w b l k

/-! the class's whole world -/
abbrev Sn : Type := Tb × (Int32 × Int32 × (Nat → Tb)) × ((Nat → Int32) × Int32)
abbrev Xt : Type := (Nat → Int32) × Int32 × Int32 × Int32 × Int32 × Int32
/-- scene, two images, images kept, text, trial table, seating, refused, above, below -/
abbrev XS : Type := Sn × Sn × Sn × (Nat → Int32) × Xt × Tb × (Nat → Int32) × (Nat → Int32) × Int64 × Int64
abbrev Ad : Type := Nat → Nat → Nat
def sB (G : GG) (s : Nat) (t p n : Nat → Nat) (X : Sn) : List va_W := [oS G s t p n, tB G t X.1, pW G p X.2.1.1 X.2.1.2.1 X.2.1.2.2, nW G n X.2.2.1 X.2.2.2]
def xB (G : GG) (x : Nat) (ad : Ad) (X : XS) : List va_W :=
  [xO G x (ad 11 0) (ad 11 1) (ad 11 2) (ad 9) (ad 10) (ad 11 3) (ad 11 4) X.2.2.2.2.2.2.2.2.1 X.2.2.2.2.2.2.2.2.2,
   oS G (ad 11 0) (ad 0) (ad 1) (ad 2), tB G (ad 0) X.1.1, pW G (ad 1) X.1.2.1.1 X.1.2.1.2.1 X.1.2.1.2.2, nW G (ad 2) X.1.2.2.1 X.1.2.2.2,
   gW G (ad 11 1) (fun j => ad 11 (5 + j)),
   oS G (ad 11 5) (ad 3) (ad 4) (ad 5), tB G (ad 3) X.2.1.1, pW G (ad 4) X.2.1.2.1.1 X.2.1.2.1.2.1 X.2.1.2.1.2.2, nW G (ad 5) X.2.1.2.2.1 X.2.1.2.2.2,
   oS G (ad 11 6) (ad 6) (ad 7) (ad 8), tB G (ad 6) X.2.2.1.1, pW G (ad 7) X.2.2.1.2.1.1 X.2.2.1.2.1.2.1 X.2.2.1.2.1.2.2, nW G (ad 8) X.2.2.1.2.2.1 X.2.2.1.2.2.2,
   zW G (ad 11 2) 2 X.2.2.2.1, xT G (ad 9) X.2.2.2.2.1.1 X.2.2.2.2.1.2.1 X.2.2.2.2.1.2.2.1 X.2.2.2.2.1.2.2.2.1 X.2.2.2.2.1.2.2.2.2.1 X.2.2.2.2.1.2.2.2.2.2, tB G (ad 10) X.2.2.2.2.2.1, aW G (ad 11 3) 6 X.2.2.2.2.2.2.1, aW G (ad 11 4) 3 X.2.2.2.2.2.2.2.1]
theorem flatX (x g k t r q f : va_W) (s i j : List va_W) : [x, s.flatten, g, i.flatten, j.flatten, k, t, r, q, f].flatten = (x :: (s ++ (g :: (i ++ (j ++ [k, t, r, q, f]))))).flatten := by simp
def Sn0 : Sn := (Tb0, (0, 0, fun _ => Tb0), (z0, 0))
def X0_ : XS := (Sn0, Sn0, Sn0, z0, (z0, 0, 0, 0, 0, 0), Tb0, z0, z0, 0, 1)
def adX (s g k q f s1 s2 : Nat) (t p n t1 p1 n1 t2 p2 n2 x r : Nat → Nat) : Ad := fun i => match i with
  | 0 => t | 1 => p | 2 => n | 3 => t1 | 4 => p1 | 5 => n1 | 6 => t2 | 7 => p2 | 8 => n2 | 9 => x | 10 => r
  | _ => fun j => match j with | 0 => s | 1 => g | 2 => k | 3 => q | 4 => f | 5 => s1 | _ => s2

def eyU (t : Nat → Int32) (n : Nat) (x : Int32) : Nat := (bitsV (bitrM t n)).toNatClampNeg * (10 - x.toNatClampNeg)

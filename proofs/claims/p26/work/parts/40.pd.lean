/-! THE TEXT AND THE DIGEST: what they answer -/
section PD
/-! the digest -/
def mixh (h : Int64) (v : Int32) : Int64 := 31 * h + v.toInt64
def mixN (h : Int64) (f : Nat → Int32) : Nat → Int64
  | 0 => h
  | n + 1 => mixh (mixN h f n) (f n)
def dgC (S : Sx) (h : Int64) : Nat → Int64
  | 0 => h
  | c + 1 => mixN (dgC S h c) (fun w => crS S c w) 6
def dgL (S : Sx) (p : Nat) (h : Int64) : Nat → Int64
  | 0 => h
  | c + 1 => mixh (mixh (dgL S p h c) (sP S p (8 + c))) (sP S p (14 + c))
def dgP (S : Sx) (h : Int64) : Nat → Int64
  | 0 => h
  | p + 1 => dgL S p (mixN (dgP S h p) (fun w => paS S p w) 9) (cn S)
def dg1 (Z : Zs) : Int64 := mixN (mixh 3313 (nI Z.2.2.2.1)) (valS Z.1) 11
def dgst (Z : Zs) : Int64 := mixh (dgP Z.1 (dgC Z.1 (dg1 Z) (cn Z.1)) (pn Z.1)) (nI Z.2.1)
/-! how far: bounds -/
end PD

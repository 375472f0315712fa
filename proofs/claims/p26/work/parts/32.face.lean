/-! THE FACE: what each call answers and does, on the state (row, saved rows, text) -/
section FA
abbrev Zs : Type := Sx × Nat × (Nat → Sx) × Nat × (Nat → Int32)
def phN (n : Nat) : Nat := if n = 4 then 4 else n + 1
def phH (n : Nat) (H : Nat → Sx) (S0 : Sx) : Nat → Sx := fun i => if n = 4 then (if i = 3 then S0 else H (i + 1)) else if i = n then S0 else H i
/-- saved, and then S' -/
def phZ (Z : Zs) (S' : Sx) : Zs := (S', phN Z.2.1, phH Z.2.1 Z.2.2.1 Z.1, Z.2.2.2.1, Z.2.2.2.2)
def okN (x a b : Int32) : Bool := decide (a ≤ x) && decide (x ≤ b)
def isCr (S : Sx) (c : Int32) : Bool := okN c 0 (S 2 - 1)
def isPc (S : Sx) (p : Int32) : Bool := okN p 0 (S 3 - 1)
def inSt (S : Sx) (q : Int32) : Nat → Int32
  | 0 => 0
  | p + 1 => inSt S q p + (if sP S p 4 = q then 1 else 0)
def zrP (S : Sx) (p : Nat) : Nat → Sx
  | 0 => S
  | w + 1 => uP (zrP S p w) p w 0
def comS (S : Sx) (o g k t : Int32) : Sx := upd (uP (uP (uP (uP (uP (uP (zrP S (pn S) 20) (pn S) 0 o) (pn S) 1 g) (pn S) 2 k) (pn S) 3 t) (pn S) 5 o) (pn S) 6 (-1)) 3 (S 3 + 1)
def addS (S : Sx) (ar z : Int32) : Sx := upd (frS (uC (uC (uC S (cn S) 0 ar) (cn S) 1 z) (cn S) 2 0) (cn S)) 2 (S 2 + 1)
def drS (S : Sx) (c : Nat) : Sx := frS (if sC S c 3 = 2 then uP S (sC S c 4).toNatClampNeg 4 0 else S) c
def lgC (S : Sx) (c : Nat) : Nat → Int32
  | 0 => 0
  | p + 1 => lgC S c p + sP S p (8 + c)
def valS (S : Sx) (w : Nat) : Int32 := if w = 0 then S 0 else if w = 1 then S 2 else if w = 2 then S 3 else if w = 3 then S 1 else if w = 8 then S 6 else if w = 9 then S 4 else if w = 10 then S 5 else inSt S (nI (w - 4)) (pn S)
def crS (S : Sx) (c w : Nat) : Int32 := if w < 5 then sC S c w else lgC S c (pn S)
def paS (S : Sx) (p w : Nat) : Int32 := if w < 8 then sP S p w else lsum S p 6
def aprt (a b : Int32) : Int32 := if a < b then b - a else a - b
def div4 (x : Int32) : Int32 := x / 4
def dist (f t : Int32) : Int32 := aprt (rem4 f) (rem4 t) + aprt (div4 f) (div4 t)
def suS (S : Sx) (p : Nat) : Nat → Int32
  | 0 => 0
  | c + 1 => suS S p c ||| (if suit S p c = true then (1 : Int32) <<< (nI c &&& 31) else 0)
def sus (S : Sx) (p : Nat) : Int32 := if sP S p 4 < 2 then suS S p (cn S) else 0
/-- as far as a courier carries: n steps at most -/
def rchN (S : Sx) (c : Nat) (t : Int32) : Nat → Int32 → Int32
  | 0, z => z
  | n + 1, z => if z ≠ t ∧ hs (sC S c 0) z = true ∧ hs (sC S c 0) (nxz z t) = true then rchN S c t n (nxz z t) else z
def rch (S : Sx) (c : Nat) (f t : Int32) : Int32 := rchN S c t 16 f
def rlB (S : Sx) (z t : Int32) : Nat → Int32
  | 0 => z
  | c + 1 => if dist (rch S c z t) t < dist (rlB S z t c) t then rch S c z t else rlB S z t c
def rlN (S : Sx) (t : Int32) : Nat → Int32 → Int32 → Int32
  | 0, _, _ => -1
  | n + 1, z, k => if z = t then k else if rlB S z t (cn S) = z then -1 else rlN S t n (rlB S z t (cn S)) (k + 1)
def rel (S : Sx) (p : Nat) : Int32 := rlN S (sP S p 1) 16 (sP S p 0) 0
def endN (S : Sx) : Nat → Int32
  | 0 => 0
  | p + 1 => endN S p + (if sP S p 4 < 2 then 0 else 1)
def gdN (S : Sx) : Nat → Int32
  | 0 => 0
  | p + 1 => gdN S p + (if sP S p 4 = 2 ∧ sP S p 6 ≤ sP S p 2 then 1 else 0)
def punS (S : Sx) : UInt64 := if endN S (pn S) = 0 then FP.dconst1 else FP.ddiv (FP.i2d (gdN S (pn S))) (FP.i2d (endN S (pn S)))
def payN (S : Sx) (n : Nat) : Int32 := tkN S n 6 - S 6
def wdS (S : Sx) (c z : Nat) : Sx := uC S c 0 (sC S c 0 ||| (1 : Int32) <<< (nI z &&& 31))
def bzL (S : Sx) (c n : Nat) : Nat → Int32 × Int32
  | 0 => (-1, payN S n)
  | z + 1 => if hs (sC S c 0) (nI z) = true then bzL S c n z else if (bzL S c n z).2 < payN (wdS S c z) n then (nI z, payN (wdS S c z) n) else bzL S c n z
def rtS (S : Sx) (c : Nat) : Sx := uC (drS S c) c 0 0
def dnB (S : Sx) : Bool := decide (inSt S 0 (pn S) + inSt S 1 (pn S) = 0)
def dnF (S : Sx) : Nat → Nat → Int32
  | 0, i => if dnB (tkN S i) = true then nI i else -1
  | r + 1, i => if dnB (tkN S i) = true then nI i else dnF S r (i + 1)
abbrev Op : Type := Zs → Nat × Int32 × Zs
def opAdd (ar z : Int32) : Op := fun Z => if (okN ar 0 65535 && okN z 0 15) = true then (if Z.1 2 = 6 then (2, 0, Z) else (0, Z.1 2, phZ Z (addS Z.1 ar z))) else (1, 0, Z)
def opArea (c ar : Int32) : Op := fun Z => if isCr Z.1 c = true then (if okN ar 0 65535 = true then (0, sC Z.1 c.toNatClampNeg 0, phZ Z (uC Z.1 c.toNatClampNeg 0 ar)) else (2, 0, Z)) else (1, 0, Z)
def opGive (o g k t : Int32) : Op := fun Z => if (okN o 0 15 && okN g 0 15 && okN k 1 999 && okN t 0 1000 && decide (o ≠ g)) = true then (if Z.1 3 = 24 then (2, 0, Z) else (0, Z.1 3, phZ Z (comS Z.1 o g k t))) else (1, 0, Z)
def opGrace (g : Int32) : Op := fun Z => if okN g 0 100 = true then (0, Z.1 1, phZ Z (upd Z.1 1 g)) else (1, 0, Z)
def opDrop (c : Int32) : Op := fun Z => if isCr Z.1 c = true then (0, sC Z.1 c.toNatClampNeg 4, phZ Z (drS Z.1 c.toNatClampNeg)) else (1, 0, Z)
def opRun (n : Int32) : Op := fun Z => if okN n 0 200 = true then (if 2000 < Z.1 0 + n then (2, 0, Z) else (0, inSt (tkN Z.1 n.toNatClampNeg) 2 (pn Z.1) - inSt Z.1 2 (pn Z.1), phZ Z (tkN Z.1 n.toNatClampNeg))) else (1, 0, Z)
def opValue (w : Int32) : Op := fun Z => if okN w 0 10 = true then (0, valS Z.1 w.toNatClampNeg, Z) else (1, 0, Z)
def opCourier (c w : Int32) : Op := fun Z => if isCr Z.1 c = true then (if okN w 0 5 = true then (0, crS Z.1 c.toNatClampNeg w.toNatClampNeg, Z) else (2, 0, Z)) else (1, 0, Z)
def opParcel (p w : Int32) : Op := fun Z => if isPc Z.1 p = true then (if okN w 0 8 = true then (0, paS Z.1 p.toNatClampNeg w.toNatClampNeg, Z) else (2, 0, Z)) else (1, 0, Z)
def opLegs (p c s : Int32) : Op := fun Z => if (isPc Z.1 p && isCr Z.1 c) = true then (0, sP Z.1 p.toNatClampNeg ((if s = 0 then 8 else 14) + c.toNatClampNeg), Z) else (1, 0, Z)
def opDist (f t : Int32) : Op := fun Z => if (okN f 0 15 && okN t 0 15) = true then (0, dist f t, Z) else (1, 0, Z)
def opSuited (p : Int32) : Op := fun Z => if isPc Z.1 p = true then (0, sus Z.1 p.toNatClampNeg, Z) else (1, 0, Z)
def opRelay (p : Int32) : Op := fun Z => if isPc Z.1 p = true then (0, rel Z.1 p.toNatClampNeg, Z) else (1, 0, Z)
def opPaid (n : Int32) : Op := fun Z => if okN n 0 200 = true then (0, payN Z.1 n.toNatClampNeg, Z) else (1, 0, Z)
def opBest (c n : Int32) : Op := fun Z => if isCr Z.1 c = true then (if okN n 0 200 = true then (0, (bzL Z.1 c.toNatClampNeg n.toNatClampNeg 16).1, Z) else (2, 0, Z)) else (1, 0, Z)
def opWorth (c n : Int32) : Op := fun Z => if isCr Z.1 c = true then (if okN n 0 200 = true then (0, payN Z.1 n.toNatClampNeg - payN (rtS Z.1 c.toNatClampNeg) n.toNatClampNeg, Z) else (2, 0, Z)) else (1, 0, Z)
def opDone : Op := fun Z => (0, dnF Z.1 1200 0, Z)
def opAppend (v : Int32) : Op := fun Z => if okN v 0 127 = true then (if Z.2.2.2.1 = 150 then (2, 0, Z) else (0, nI (Z.2.2.2.1 + 1), (Z.1, Z.2.1, Z.2.2.1, Z.2.2.2.1 + 1, upd Z.2.2.2.2 Z.2.2.2.1 v))) else (1, 0, Z)
def opClear : Op := fun Z => (0, nI Z.2.2.2.1, (Z.1, Z.2.1, Z.2.2.1, 0, Z.2.2.2.2))
def opUndo : Op := fun Z => if Z.2.1 = 0 then (1, 0, Z) else (0, nI (Z.2.1 - 1), (Z.2.2.1 (Z.2.1 - 1), Z.2.1 - 1, Z.2.2.1, Z.2.2.2.1, Z.2.2.2.2))
/-! the text -/
/-- how many digits stand from a on, d at most -/
def dgN (tl : Nat) (tx : Nat → Int32) (a : Nat) : Nat → Nat
  | 0 => 0
  | d + 1 => if a < tl ∧ okN (tx a) 48 57 = true then dgN tl tx (a + 1) d + 1 else 0
/-- the number of n digits from a on -/
def nbN (tx : Nat → Int32) (a : Nat) : Nat → Int32
  | 0 => 0
  | n + 1 => 10 * nbN tx a n + tx (a + n) - 48
/-- a number in its range and a sign behind it: whether, and where it goes on or is wrong -/
def numb (tl : Nat) (tx : Nat → Int32) (a d : Nat) (lo hi no sg : Int32) : Bool × Nat :=
  if dgN tl tx a d = 0 then (false, a)
  else if a + dgN tl tx a d < tl ∧ okN (tx (a + dgN tl tx a d)) 48 57 = true then (false, a + dgN tl tx a d)
  else if (okN (nbN tx a (dgN tl tx a d)) lo hi) = false ∨ nbN tx a (dgN tl tx a d) = no then (false, a)
  else if a + dgN tl tx a d < tl ∧ tx (a + dgN tl tx a d) = sg then (true, a + dgN tl tx a d + 1)
  else (false, a + dgN tl tx a d)
end FA

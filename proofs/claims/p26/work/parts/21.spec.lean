/-! WHAT A STATE IS, AND WHAT IS DONE TO IT: one row of 517 ints (time, grace, couriers, parcels, handovers, moves, paid; six couriers of five; 24 parcels of twenty), as the reference holds it -/
section SP
abbrev Sx : Type := Nat → Int32
def sC (S : Sx) (c w : Nat) : Int32 := S (7 + 5 * c + w)
def sP (S : Sx) (p w : Nat) : Int32 := S (37 + 20 * p + w)
def uC (S : Sx) (c w : Nat) (v : Int32) : Sx := upd S (7 + 5 * c + w) v
def uP (S : Sx) (p w : Nat) (v : Int32) : Sx := upd S (37 + 20 * p + w) v
def cn (S : Sx) : Nat := (S 2).toNatClampNeg
def pn (S : Sx) : Nat := (S 3).toNatClampNeg
def rem4 (x : Int32) : Int32 := x - x / 4 * 4
def nxz (f t : Int32) : Int32 := if rem4 f = rem4 t then (if f < t then f + 4 else if t < f then f - 4 else f) else if rem4 f < rem4 t then f + 1 else f - 1
def hs (a z : Int32) : Bool := decide ((a >>> (z &&& 31)) &&& 1 = 1)
def frS (S : Sx) (c : Nat) : Sx := uC (uC S c 3 0) c 4 (-1)
def suit (S : Sx) (p c : Nat) : Bool := hs (sC S c 0) (sP S p 5) && hs (sC S c 0) (nxz (sP S p 5) (sP S p 1))
def lsum (S : Sx) (p : Nat) : Nat → Int32
  | 0 => 0
  | c + 1 => lsum S p c + sP S p (8 + c)
/-- the share by division, what is left by it, who comes before, what remains after the shares of the first ones -/
def shq (S : Sx) (p : Nat) (paid : Int32) (c : Nat) : Int32 := paid * sP S p (8 + c) / lsum S p 6
def shr (S : Sx) (p : Nat) (paid : Int32) (c : Nat) : Int32 := paid * sP S p (8 + c) - paid * sP S p (8 + c) / lsum S p 6 * lsum S p 6
def rnk (S : Sx) (p : Nat) (paid : Int32) (c : Nat) : Nat → Nat
  | 0 => 0
  | d + 1 => rnk S p paid c d + (if shr S p paid c < shr S p paid d ∨ (shr S p paid d = shr S p paid c ∧ d < c) then 1 else 0)
def rst (S : Sx) (p : Nat) (paid : Int32) : Nat → Int32
  | 0 => paid
  | c + 1 => rst S p paid c - shq S p paid c
def fsh (S : Sx) (p : Nat) (paid : Int32) (c : Nat) : Int32 := if nI (rnk S p paid c 6) < rst S p paid 6 then shq S p paid c + 1 else shq S p paid c
def shW (S : Sx) (p : Nat) (paid : Int32) : Nat → Sx
  | 0 => S
  | c + 1 => uP (shW S p paid c) p (14 + c) (fsh S p paid c)
def tipW (S : Sx) (p : Nat) : Nat → Sx
  | 0 => S
  | c + 1 => uC (tipW S p c) c 2 (sC (tipW S p c) c 2 + sP (tipW S p c) p (14 + c))
def shareS (S : Sx) (p : Nat) (paid : Int32) : Sx := tipW (shW S p paid 6) p (cn S)
def payS (S : Sx) (p : Nat) : Int32 := if S 0 ≤ sP S p 2 then sP S p 3 else sP S p 3 / 2
def delS (S : Sx) (c p : Nat) : Sx :=
  frS (shareS (upd (uP (uP (uP S p 4 2) p 6 (S 0)) p 7 (payS S p)) 6 (S 6 + payS S p)) p (payS S p)) c
/-- a leg: the courier and the parcel move on -/
def legS (S : Sx) (c p : Nat) (z : Int32) : Sx := uP (uP (upd (uC S c 1 z) 5 (S 5 + 1)) p 5 z) p (8 + c) (sP S p (8 + c) + 1)
def carS (S : Sx) (c p : Nat) : Sx :=
  if hs (sC S c 0) (nxz (sC S c 1) (sP S p 1)) = true then
    (if nxz (sC S c 1) (sP S p 1) = sP S p 1 then delS (legS S c p (nxz (sC S c 1) (sP S p 1))) c p else legS S c p (nxz (sC S c 1) (sP S p 1)))
  else frS (upd (uP S p 4 0) 4 (S 4 + 1)) c
def goS (S : Sx) (c p : Nat) : Sx :=
  if sC S c 1 = sP S p 5 then uP (uC S c 3 2) p 4 1 else upd (uC S c 1 (nxz (sC S c 1) (sP S p 5))) 5 (S 5 + 1)
def asked (S : Sx) (p c : Nat) : Nat → Bool
  | 0 => false
  | o + 1 => asked S p c o || (decide (o ≠ c) && decide (sC S o 3 = 1) && decide (sC S o 4 = nI p))
def may (S : Sx) (c p : Nat) : Bool := decide (sP S p 4 = 0) && suit S p c && !(asked S p c (cn S))
def chB (S : Sx) (c : Nat) : Nat → Int32
  | 0 => -1
  | p + 1 => if may S c p = true ∧ (chB S c p = -1 ∨ sP S p 2 < sP S (chB S c p).toNatClampNeg 2) then nI p else chB S c p
def chS (S : Sx) (c : Nat) : Sx := uC (uC S c 3 (if chB S c (pn S) = -1 then 0 else 1)) c 4 (chB S c (pn S))
def frW (S : Sx) (p : Nat) : Nat → Sx
  | 0 => S
  | c + 1 => if sC (frW S p c) c 4 = nI p then frS (frW S p c) c else frW S p c
def faiS (S : Sx) (p : Nat) : Sx := frW (uP S p 4 3) p (cn S)
def actS (S : Sx) (c : Nat) : Sx :=
  if sC S c 3 = 2 then carS S c (sC S c 4).toNatClampNeg
  else if sC S c 3 = 1 ∧ sP S (sC S c 4).toNatClampNeg 4 = 0 then goS S c (sC S c 4).toNatClampNeg
  else chS S c
def actW (S : Sx) : Nat → Sx
  | 0 => S
  | c + 1 => actS (actW S c) c
def flW (S : Sx) : Nat → Sx
  | 0 => S
  | p + 1 => if sP (flW S p) p 4 < 2 ∧ sP (flW S p) p 2 + (flW S p) 1 < (flW S p) 0 then faiS (flW S p) p else flW S p
def tkA (S : Sx) : Sx := actW (upd S 0 (S 0 + 1)) (cn S)
def tickS (S : Sx) : Sx := flW (tkA S) (pn S)
def tkN (S : Sx) : Nat → Sx
  | 0 => S
  | n + 1 => tickS (tkN S n)
/-- what holds of every state: the counts, the couriers, who carries what, the parcels; t: a bound of the legs -/
def WFc (S : Sx) (c : Nat) : Prop := (∃ z, z < 16 ∧ sC S c 1 = nI z) ∧ ((sC S c 3 = 0 ∧ sC S c 4 = -1) ∨ ∃ p, p < pn S ∧ sC S c 4 = nI p ∧ (sC S c 3 = 1 ∨ (sC S c 3 = 2 ∧ sP S p 4 = 1)))
def WFp (t : Nat) (S : Sx) (p : Nat) : Prop := (∃ o d, o < 16 ∧ d < 16 ∧ o ≠ d ∧ sP S p 0 = nI o ∧ sP S p 1 = nI d) ∧ (∃ k, 1 ≤ k ∧ k ≤ 999 ∧ sP S p 2 = nI k) ∧ (∃ k, k ≤ 1000 ∧ sP S p 3 = nI k) ∧ (∃ k, k ≤ 3 ∧ sP S p 4 = nI k) ∧ (∃ z, z < 16 ∧ sP S p 5 = nI z) ∧ ∀ c, c < 6 → ∃ k, k ≤ t ∧ sP S p (8 + c) = nI k
def WF (t : Nat) (S : Sx) : Prop := S 2 = nI (cn S) ∧ cn S ≤ 6 ∧ S 3 = nI (pn S) ∧ pn S ≤ 24 ∧ (∀ c, c < cn S → WFc S c) ∧ (∀ c d, c < cn S → d < cn S → sC S c 3 = 2 → sC S d 3 = 2 → sC S c 4 = sC S d 4 → c = d) ∧ ∀ p, p < pn S → WFp t S p
end SP

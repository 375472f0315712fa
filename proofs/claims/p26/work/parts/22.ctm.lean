/-! WHAT THE REFERENCE'S METHODS DO (to the tick) -/
section CM
/-- the legs of a parcel as numbers: bounded, and some -/
def LG (S : Sx) (p : Nat) : Prop := ∃ L : Nat → Nat, (∀ c, c < 6 → L c ≤ 100000 ∧ sP S p (8 + c) = nI (L c)) ∧ ∃ c, c < 6 ∧ 0 < L c
end CM

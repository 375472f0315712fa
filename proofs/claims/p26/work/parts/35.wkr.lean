/-! THE REFERENCE'S METHODS WALKED: the rest, 1 -/
section WR
theorem zrP_lo {S : Sx} {p k : Nat} (h : k < 37) : ∀ w, zrP S p w k = S k := by
  intro w
  induction w with
  | zero => rfl
  | succ w ih => unfold zrP; rw [uP_lo h, ih]
end WR

/-! THE REFERENCE'S METHODS WALKED: loops -/
section WO
theorem chB_ok (S : Sx) (c : Nat) : ∀ p, chB S c p = -1 ∨ ∃ b, b < p ∧ chB S c p = nI b := by
  intro p
  induction p with
  | zero => exact Or.inl rfl
  | succ p ih =>
    unfold chB
    split
    · exact Or.inr ⟨p, by omega, rfl⟩
    · rcases ih with h | ⟨b, hb, h⟩
      · exact Or.inl h
      · exact Or.inr ⟨b, by omega, h⟩
theorem nI_m1 {b : Nat} (h : b < 2 ^ 31) : nI b ≠ -1 := by
  intro e
  have := congrArg Int32.toInt e
  rw [nI_toInt h] at this
  have e2 : ((-1 : Int32)).toInt = -1 := by decide
  omega
end WO

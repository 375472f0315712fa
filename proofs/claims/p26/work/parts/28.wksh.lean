/-! THE REFERENCE'S shares, walked -/
section WS
theorem uC_lo {S : Sx} {c w k : Nat} {v : Int32} (h : k < 7) : uC S c w v k = S k := upd_n (by omega)
theorem uP_lo {S : Sx} {p w k : Nat} {v : Int32} (h : k < 37) : uP S p w v k = S k := upd_n (by omega)
theorem frS_lo {S : Sx} {c k : Nat} (h : k < 7) : frS S c k = S k := by unfold frS; rw [uC_lo h, uC_lo h]
theorem tipW_lo {S : Sx} {p k : Nat} (h : k < 7) : ∀ i, tipW S p i k = S k := by
  intro i
  induction i with
  | zero => rfl
  | succ i ih => unfold tipW; rw [uC_lo h, ih]
theorem shW_lo {S : Sx} {p k : Nat} {m : Int32} (h : k < 37) : ∀ i, shW S p m i k = S k := by
  intro i
  induction i with
  | zero => rfl
  | succ i ih => unfold shW; rw [uP_lo h, ih]
end WS

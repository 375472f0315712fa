/-! THE TEXT OF PARCELS: what its methods do -/
section PT
/-- the text that has been appended -/
def TS (B : Nat) (M : fw_M) (tl : Nat) (tx : Nat → Int32) : Prop := M.1 (B + 489) 2 = nI tl ∧ tl ≤ 150 ∧ ∀ i, i < tl → M.1 (B + 490) i = tx i
/-- nothing changed but what reading changes -/
def FT (B : Nat) (M M' : fw_M) : Prop := (∀ b, b ≠ B + 489 → b ≠ B + 491 → M'.1 b = M.1 b) ∧ (∀ k, k < 3 → M'.1 (B + 489) k = M.1 (B + 489) k) ∧ M'.2 = M.2
theorem TS_fr {B tl : Nat} {M M' : fw_M} {tx : Nat → Int32} (h : TS B M tl tx) (f : FT B M M') : TS B M' tl tx :=
  ⟨(f.2.1 2 (by decide)).trans h.1, h.2.1, fun i hi => by rw [f.1 (B + 490) (by omega) (by omega)]; exact h.2.2 i hi⟩
/-! the cases of a number -/
/-! the fields of an item -/
end PT

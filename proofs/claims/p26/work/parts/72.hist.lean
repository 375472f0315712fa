/-! THE SAVED STATES: a ring -/
section HI2
def pl (B k : Nat) : Nat := B + 165 + 81 * k
/-- the ring holds n states, the oldest first -/
def HS (B : Nat) (M : fw_M) (n : Nat) (H : Nat → Sx) : Prop := ∃ o, o < 4 ∧ M.1 (B + 163) 1 = nI o ∧ M.1 (B + 163) 2 = nI n ∧ n ≤ 4 ∧ ∀ i, i < n → Rep M.1 (pl B ((o + i) % 4)) (H i)
theorem EX_pl {B k : Nat} (h : k < 4) : EX B (pl B k) := by
  unfold pl
  rcases (show k = 0 ∨ k = 1 ∨ k = 2 ∨ k = 3 by omega) with y | y | y | y <;> subst y
  · exact ⟨165, by decide, rfl⟩
  · exact ⟨246, by decide, rfl⟩
  · exact ⟨327, by decide, rfl⟩
  · exact ⟨408, by decide, rfl⟩
theorem EX_now {B : Nat} : EX B (B + 1) := ⟨1, by decide, rfl⟩
def ct_X2_stateAt (B : Nat) : fw_CTX := fun as M Q _ => match as with
  | [.ref a, .int v] => a = B + 163 ∧ ∃ o i, o < 4 ∧ i < 4 ∧ M.1 (B + 163) 1 = nI o ∧ v = nI i ∧ Q (some (.ref (pl B ((o + i) % 4)))) M
  | _ => False
def ct_X2_save (B : Nat) : fw_CTX := fun as M Q _ => match as with
  | [.ref a, .ref x] => a = B + 163 ∧ x = B + 1 ∧ ∃ b S n H, HS B M n H ∧ XS B M (B + 1) b S ∧ ∀ M', HS B M' (phN n) (phH n H S) → (∀ c, c < B + 163 ∨ B + 489 ≤ c → M'.1 c = M.1 c) → M'.2 = M.2 → Q none M'
  | _ => False
end HI2

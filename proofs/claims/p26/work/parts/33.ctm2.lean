/-! WHAT THE REFERENCE'S METHODS DO (the rest) -/
section CN
def GS (S : Sx) : Prop := ∃ t, t ≤ 2000 ∧ S 0 = nI t ∧ WF (6 * t) S ∧ ∀ k, 517 ≤ k → S k = 0
def GZ (Z : Zs) : Prop := GS Z.1 ∧ ∀ i, i < Z.2.1 → GS (Z.2.2.1 i)
theorem st_s {M : fw_M} {a k : Nat} {v : Int32} : (fw_st M a k v).1 a k = v := by rw [st_row, row_1, upd_s]
theorem st_n {M : fw_M} {a k j : Nat} {v : Int32} (h : j ≠ k) : (fw_st M a k v).1 a j = M.1 a j := by rw [st_row, row_1, upd_n h]
theorem st_o {M : fw_M} {a b k : Nat} {v : Int32} (h : b ≠ a) : (fw_st M a k v).1 b = M.1 b := by rw [st_row, row_n h]
theorem GZ_wf {Z : Zs} (h : GZ Z) : ∃ t, t ≤ 2000 ∧ Z.1 0 = nI t ∧ WF (6 * t) Z.1 := by
  obtain ⟨t, h1, h2, h3, -⟩ := h.1
  exact ⟨t, h1, h2, h3⟩
end CN

/-! THE REFERENCE'S METHODS WALKED: the small ones -/
section WM
theorem wk_X6_thrown (B : Nat) : fw_Wk B fl_X6 (cal_X6_thrown B) [] cst_X6 (some .int) kX6_thrown 1 (ct_X6_thrown B) := by
  intro as M Q QX h
  unfold ct_X6_thrown at h
  split at h
  · obtain ⟨rfl, h⟩ := h
    exact ⟨rfl, [], ⟨20, And.intro kd_492 h⟩, nofun⟩
  · exact h.elim
theorem wk_X6_in (B : Nat) : fw_Wk B fl_X6 (cal_X6_in B) [] cst_X6 (some .boolean) kX6_in 3 (ct_X6_in B) := by
  intro as M Q QX h
  unfold ct_X6_in at h
  split at h
  · rename_i v x y
    refine ⟨rfl, [], ⟨30, And.intro (fun h1 => And.intro (Or.inl rfl) ?_) (fun h1 => And.intro (fun h2 => And.intro (Or.inl rfl) ?_) (fun h2 => And.intro (Or.inr rfl) ?_))⟩, nofun⟩
    · rw [decide_eq_false (Int32.not_le.mpr h1)] at h
      exact h
    · rw [decide_eq_false (Int32.not_le.mpr h2), Bool.and_false] at h
      exact h
    · rw [decide_eq_true (Int32.not_lt.mp h1), decide_eq_true (Int32.not_lt.mp h2)] at h
      exact h
  · exact h.elim
theorem wk_X6_fails (B : Nat) : fw_Wk B fl_X6 (cal_X6_fails B) [] cst_X6 (some .int) kX6_fails 2 (ct_X6_fails B) := by
  intro as M Q QX h
  unfold ct_X6_fails at h
  split at h
  · obtain ⟨rfl, h⟩ := h
    exact ⟨rfl, [], ⟨20, And.intro kd_492 h⟩, nofun⟩
  · exact h.elim
theorem wk_X6_tells (B : Nat) : fw_Wk B fl_X6 (cal_X6_tells B) [] cst_X6 (some .int) kX6_tells 2 (ct_X6_tells B) := by
  intro as M Q QX h
  unfold ct_X6_tells at h
  split at h
  · obtain ⟨rfl, h⟩ := h
    exact ⟨rfl, [], ⟨20, And.intro kd_492 h⟩, nofun⟩
  · exact h.elim
theorem wk_X6_of (B : Nat) : fw_Wk B fl_X6 (cal_X6_of B) [] cst_X6 (some .int) kX6_of 3 (ct_X6_of B) := by
  intro as M Q QX h
  unfold ct_X6_of at h
  split at h
  · obtain ⟨rfl, h1, h⟩ := h
    exact ⟨rfl, [], ⟨20, And.intro kd_492 (And.intro kd_493 (And.intro (by rw [show B + 492 + 1 = B + 493 from rfl, ln_493]; exact h1) h))⟩, nofun⟩
  · exact h.elim
theorem wk_X6_its (B : Nat) : fw_Wk B fl_X6 (cal_X6_its B) [] cst_X6 (some .int) kX6_its 3 (ct_X6_its B) := by
  intro as M Q QX h
  unfold ct_X6_its at h
  split at h
  · obtain ⟨rfl, h1, h⟩ := h
    exact ⟨rfl, [], ⟨20, And.intro kd_492 (And.intro kd_493 (And.intro (by rw [show B + 492 + 1 = B + 493 from rfl, ln_493]; exact h1) h))⟩, nofun⟩
  · exact h.elim
theorem wk_X6_sets (B : Nat) : fw_Wk B fl_X6 (cal_X6_sets B) [] cst_X6 none kX6_sets 4 (ct_X6_sets B) := by
  intro as M Q QX h
  unfold ct_X6_sets at h
  split at h
  · obtain ⟨rfl, h1, h⟩ := h
    exact ⟨rfl, [], ⟨20, And.intro kd_492 (And.intro kd_493 (And.intro (by rw [show B + 492 + 1 = B + 493 from rfl, ln_493]; exact h1) h))⟩, nofun⟩
  · exact h.elim
theorem wk_X6_puts (B : Nat) : fw_Wk B fl_X6 (cal_X6_puts B) [] cst_X6 none kX6_puts 4 (ct_X6_puts B) := by
  intro as M Q QX h
  unfold ct_X6_puts at h
  split at h
  · obtain ⟨rfl, h1, h⟩ := h
    exact ⟨rfl, [], ⟨20, And.intro kd_492 (And.intro kd_493 (And.intro (by rw [show B + 492 + 1 = B + 493 from rfl, ln_493]; exact h1) h))⟩, nofun⟩
  · exact h.elim
end WM

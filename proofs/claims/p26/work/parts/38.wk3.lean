/-! THE REFERENCE'S METHODS WALKED: the face -/
section WR3
theorem ok_n {x : Int32} {a b : Nat} (ha : a ≤ b) (hb : b < 2 ^ 31) (h : okN x (nI a) (nI b) = true) : ∃ k, a ≤ k ∧ k ≤ b ∧ x = nI k ∧ x.toNatClampNeg = k := by
  unfold okN at h
  simp only [Bool.and_eq_true, decide_eq_true_eq] at h
  obtain ⟨h1, h2⟩ := h
  have h0 : (0 : Int32) ≤ x := by
    rw [Int32.le_iff_toInt_le] at h1 ⊢
    rw [nI_toInt (by omega)] at h1
    have : (0 : Int32).toInt = 0 := by decide
    omega
  obtain ⟨k, hl, rfl⟩ := nI_of (Int32.not_lt.mpr h0)
  rw [n_ge (by omega) hl] at h1
  rw [n_ge hl hb] at h2
  exact ⟨k, h1, h2, rfl, n_cl hl⟩
theorem ok_m {x : Int32} {n : Nat} (hn : n < 2 ^ 31) (h : okN x 0 (nI n - 1) = true) : ∃ k, k < n ∧ x = nI k ∧ x.toNatClampNeg = k := by
  cases n with
  | zero =>
    exfalso
    unfold okN at h
    simp only [Bool.and_eq_true, decide_eq_true_eq] at h
    exact absurd (Int32.le_trans h.1 h.2) (by decide)
  | succ n =>
    have e : nI (n + 1) - 1 = nI n := by rw [show (1 : Int32) = nI 1 from rfl, pk_sub (by omega), Nat.add_sub_cancel]
    rw [e] at h
    obtain ⟨k, -, h2, h3, h4⟩ := ok_n (a := 0) (by omega) (by omega) h
    exact ⟨k, by omega, h3, h4⟩
theorem isCr_n {b : Nat} {S : Sx} {c : Int32} (h : WF b S) (hc : isCr S c = true) : ∃ k, k < cn S ∧ c = nI k ∧ c.toNatClampNeg = k := by
  have hn := h.2.1
  unfold isCr at hc
  rw [h.1] at hc
  exact ok_m (by omega) hc
theorem isPc_n {b : Nat} {S : Sx} {p : Int32} (h : WF b S) (hp : isPc S p = true) : ∃ k, k < pn S ∧ p = nI k ∧ p.toNatClampNeg = k := by
  have hn := h.2.2.2.1
  unfold isPc at hp
  rw [h.2.2.1] at hp
  exact ok_m (by omega) hp
end WR3

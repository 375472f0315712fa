/-! THE RING WALKED -/
section WH
theorem ring_n : ∀ o, o < 4 → ∀ i, i < 4 → nI o + nI i - (nI o + nI i) / 4 * 4 = nI ((o + i) % 4) := by decide +kernel
theorem k163 {B : Nat} : fw_kd B (B + 163) = 2 := kd_at (by decide)
theorem k164 {B : Nat} : fw_kd B (B + 164) = 9 := kd_at (by decide)
set_option maxRecDepth 100000 in
theorem wk_X2_stateAt (B : Nat) : fw_Wk B fl_X2 (cal_X2_stateAt B) [] cst_X2 (some (.object RX1)) kX2_stateAt 3 (ct_X2_stateAt B) := by
  intro as M Q QX h
  unfold ct_X2_stateAt at h
  split at h
  · obtain ⟨rfl, o, i, ho, hi, e1, rfl, h⟩ := h
    have el : Int32.ofNat (fw_aln B (B + 164)) = nI 4 := by unfold fw_aln; rw [k164]; rfl
    have k8 : 8 ≤ fw_kd B (B + 164) ∧ fw_kd B (B + 164) ≤ 10 := by rw [k164]; decide
    have k7 : 7 ≤ fw_kd B (B + 164) := by rw [k164]; decide
    have hr : (o + i) % 4 < 4 := Nat.mod_lt _ (by decide)
    have ev : M.1 (B + 163) 1 + nI i - (M.1 (B + 163) 1 + nI i) / 4 * 4 = nI ((o + i) % 4) := by rw [e1]; exact ring_n o ho i hi
    refine ⟨rfl, [], ⟨60, And.intro k163 (And.intro n4s (And.intro (fun h1 => ?_) (fun h1 => And.intro k163 (And.intro k7 (And.intro k8.2 (And.intro (fun h3 => ?_) (fun h3 => ?_)))))))⟩, nofun⟩
    · have h1 : M.1 (B + 163) 1 + nI i - (M.1 (B + 163) 1 + nI i) / 4 * 4 < nI 0 := h1
      rw [ev, n_lt (by omega) (by decide)] at h1
      omega
    · refine And.intro k163 (And.intro k8.1 (And.intro k8.2 (And.intro ?_ ?_)))
      · show fw_sd (vp_in (M.1 (B + 163) 1 + nI i - (M.1 (B + 163) 1 + nI i) / 4 * 4) (fw_al (fw_kd B (B + 164))))
        rw [ev, k164]; exact vn_i (by show (o + i) % 4 < 4; exact hr) (by decide)
      · show Q (some (.ref (fw_el (fw_kd B (B + 164)) (B + 164) (M.1 (B + 163) 1 + nI i - (M.1 (B + 163) 1 + nI i) / 4 * 4).toNatClampNeg))) M
        rw [ev, k164, n_cl (by omega)]
        exact h
    · have h3 : ¬ M.1 (B + 163) 1 + nI i - (M.1 (B + 163) 1 + nI i) / 4 * 4 < Int32.ofNat (fw_aln B (B + 164)) := h3
      rw [ev, el, n_lt (by omega) (by decide)] at h3
      omega
  · exact h.elim
end WH

/-! A PARCEL'S METHODS WALKED -/
section WPk
theorem pB_o {M : fw_M} {a b : Nat} {o g k t : Int32} (h : b ≠ a) : (pB M a o g k t).1 b = M.1 b := by
  unfold pB
  rw [st_o h, st_o h, st_o h, st_o h, st_o h, st_o h, st_o h, st_o h]
theorem pC_o {M : fw_M} {a b c : Nat} (h : c ≠ a) : (pC M a b).1 c = M.1 c := by
  unfold pC
  rw [st_o h, st_o h, st_o h, st_o h, st_o h, st_o h, st_o h, st_o h]
set_option maxRecDepth 100000 in
theorem wk_X3_begin (B : Nat) : fw_Wk B fl_X3 (cal_X3_begin B) [] cst_X3 none kX3_begin 6 (ct_X3_begin B) := by
  intro as M Q QX h
  unfold ct_X3_begin at h
  split at h
  · rename_i a o g k t
    obtain ⟨⟨k3, k1, k2, l1, l2⟩, h⟩ := h
    refine ⟨rfl, [
      (44, [true, true, true, true, true, true], fun n ls st M' => ∃ i, n = 100 + (6 - i) ∧ i ≤ 6 ∧ ls = [some (.ref a), some (.int o), some (.int g), some (.int k), some (.int t), some (.int (nI i))] ∧ st = [] ∧ M' = fw_row (pB M a o g k t) (a + 1) (cpN i (fun _ => 0) (M.1 (a + 1)))),
      (71, [true, true, true, true, true, true], fun n ls st M' => ∃ i, n = 6 - i ∧ i ≤ 6 ∧ ls = [some (.ref a), some (.int o), some (.int g), some (.int k), some (.int t), some (.int (nI i))] ∧ st = [] ∧ M' = fw_row (fw_row (pB M a o g k t) (a + 1) (cpN 6 (fun _ => 0) (M.1 (a + 1)))) (a + 2) (cpN i (fun _ => 0) (M.1 (a + 2))))], ⟨100, ?_⟩, ?_⟩
    · refine And.intro k3 (And.intro k3 (And.intro k3 (And.intro k3 (And.intro k3 (And.intro k3 (And.intro k3 (And.intro k3 ?_)))))))
      refine Exists.intro 106 (Exists.intro 0 ⟨rfl, by omega, rfl, rfl, ?_⟩)
      rw [cpN_0, ← pB_o (M := M) (a := a) (b := a + 1) (o := o) (g := g) (k := k) (t := t) (by omega), row_self]
      rfl
    · intro q hq n ls st M' hi
      simp only [List.mem_cons, List.not_mem_nil, or_false] at hq
      rcases hq with rfl | rfl
      · obtain ⟨i, rfl, hi, rfl, rfl, rfl⟩ := hi
        refine ⟨60, And.intro k3 (And.intro (kd_7 k1).1 (And.intro (kd_7 k1).2 (And.intro (fun h1 => ?_) (fun h1 => ?_))))⟩
        · have h1 : Int32.ofNat (fw_aln B (a + 1)) ≤ nI i := h1
          rw [aln7 k1 l1, n_ge (by decide) (by omega)] at h1
          have e6 : i = 6 := by omega
          subst e6
          refine Exists.intro 6 (And.intro (by omega) (Exists.intro 0 ⟨rfl, by omega, rfl, rfl, ?_⟩))
          rw [cpN_0, show M.1 (a + 2) = (fw_row (pB M a o g k t) (a + 1) (cpN 6 (fun _ => 0) (M.1 (a + 1)))).1 (a + 2) from by rw [row_n (by omega), pB_o (by omega)], row_self]
        · have h1 : ¬ Int32.ofNat (fw_aln B (a + 1)) ≤ nI i := h1
          rw [aln7 k1 l1, n_ge (by decide) (by omega)] at h1
          refine And.intro k3 (And.intro k1 (And.intro ?_ ?_))
          · show fw_sd (vp_in (nI i) (fw_len B (a + 1)))
            rw [l1]; exact vn_i (by omega) (by decide)
          refine Exists.intro (100 + (6 - (i + 1))) (And.intro (by omega) (Exists.intro (i + 1) ⟨rfl, by omega, ?_, rfl, ?_⟩))
          · show [some (Value.ref a), some (Value.int o), some (Value.int g), some (Value.int k), some (Value.int t), some (Value.int (nI i + 1))] = _
            rw [nI_1]
          · show fw_st (fw_row _ (a + 1) _) (a + 1) (nI i).toNatClampNeg 0 = _
            rw [n_cl (by omega), st_row, row_1, row_row]
            exact congrArg (fw_row _ (a + 1)) (cpN_s (f := fun _ => (0 : Int32)))
      · obtain ⟨i, rfl, hi, rfl, rfl, rfl⟩ := hi
        refine ⟨60, And.intro k3 (And.intro (kd_7 k2).1 (And.intro (kd_7 k2).2 (And.intro (fun h1 => ?_) (fun h1 => ?_))))⟩
        · have h1 : Int32.ofNat (fw_aln B (a + 2)) ≤ nI i := h1
          rw [aln7 k2 l2, n_ge (by decide) (by omega)] at h1
          have e6 : i = 6 := by omega
          subst e6
          exact h
        · have h1 : ¬ Int32.ofNat (fw_aln B (a + 2)) ≤ nI i := h1
          rw [aln7 k2 l2, n_ge (by decide) (by omega)] at h1
          refine And.intro k3 (And.intro k2 (And.intro ?_ ?_))
          · show fw_sd (vp_in (nI i) (fw_len B (a + 2)))
            rw [l2]; exact vn_i (by omega) (by decide)
          refine Exists.intro (6 - (i + 1)) (And.intro (by omega) (Exists.intro (i + 1) ⟨rfl, by omega, ?_, rfl, ?_⟩))
          · show [some (Value.ref a), some (Value.int o), some (Value.int g), some (Value.int k), some (Value.int t), some (Value.int (nI i + 1))] = _
            rw [nI_1]
          · show fw_st (fw_row _ (a + 2) _) (a + 2) (nI i).toNatClampNeg 0 = _
            rw [n_cl (by omega), st_row, row_1, row_row]
            exact congrArg (fw_row _ (a + 2)) (cpN_s (f := fun _ => (0 : Int32)))
  · exact h.elim
theorem dj_ne {a b : Nat} (h : b + 2 < a ∨ a + 2 < b) : b ≠ a ∧ b + 1 ≠ a ∧ b + 2 ≠ a ∧ b + 2 ≠ a + 1 ∧ a + 1 ≠ a ∧ a + 2 ≠ a ∧ a + 2 ≠ a + 1 := by omega
set_option maxRecDepth 100000 in
theorem wk_X3_become (B : Nat) : fw_Wk B fl_X3 (cal_X3_become B) [] cst_X3 none kX3_become 2 (ct_X3_become B) := by
  intro as M Q QX h
  unfold ct_X3_become at h
  split at h
  · rename_i a b
    obtain ⟨⟨k, k1, k2, l1, l2⟩, ⟨kb, kb1, kb2, lb1, lb2⟩, hd, h⟩ := h
    obtain ⟨hne, n1, n2, n3, n4, n5, n6⟩ := dj_ne hd
    refine ⟨rfl, [], ⟨120, And.intro kb (And.intro k (And.intro kb (And.intro k (And.intro kb (And.intro k (And.intro kb (And.intro k (And.intro kb (And.intro k (And.intro kb (And.intro k (And.intro kb (And.intro k (And.intro kb (And.intro k ?_)))))))))))))))⟩, nofun⟩
    refine And.intro kb (And.intro k (And.intro kb1 (And.intro k1 (And.intro lb1 (And.intro l1 (And.intro kb (And.intro k (And.intro kb2 (And.intro k2 (And.intro lb2 (And.intro l2 ?_)))))))))))
    have e1 : fw_st (fw_st (fw_st (fw_st (fw_st (fw_st (fw_st (fw_st M a 0 (M.1 b 0)) a 1 ((fw_st M a 0 (M.1 b 0)).1 b 1)) a 2 (M.1 b 2)) a 3 (M.1 b 3)) a 4 (M.1 b 4)) a 5 (M.1 b 5)) a 6 (M.1 b 6)) a 7 (M.1 b 7) = pC M a b := by rw [st_o hne]; rfl
    conv => whnf
    simp only [fw_fv, fw_fw, fw_fc, st_o hne]
    show Q none (fw_row (fw_row (pC M a b) (a + 1) (cpN 6 ((pC M a b).1 (b + 1)) ((pC M a b).1 (a + 1)))) (a + 2) (cpN 6 ((fw_row (pC M a b) (a + 1) (cpN 6 ((pC M a b).1 (b + 1)) ((pC M a b).1 (a + 1)))).1 (b + 2)) ((fw_row (pC M a b) (a + 1) (cpN 6 ((pC M a b).1 (b + 1)) ((pC M a b).1 (a + 1)))).1 (a + 2))))
    rw [row_n n3, row_n n6, pC_o n1, pC_o n4, pC_o n2, pC_o n5]
    exact h
  · exact h.elim
set_option maxRecDepth 100000 in
theorem wk_X3_isOpen (B : Nat) : fw_Wk B fl_X3 (cal_X3_isOpen B) [] cst_X3 (some .boolean) kX3_isOpen 1 (ct_X3_isOpen B) := by
  intro as M Q QX h
  unfold ct_X3_isOpen at h
  split at h
  · rename_i a
    obtain ⟨k, h⟩ := h
    refine ⟨rfl, [], ⟨60, And.intro k (And.intro (fun h1 => ?_) (fun h1 => And.intro k (And.intro (fun h2 => ?_) (fun h2 => ?_))))⟩, nofun⟩
    · have h1 : M.1 a 4 = 0 := h1
      rw [decide_eq_true h1] at h
      exact And.intro (Or.inr rfl) h
    · have h1 : ¬ M.1 a 4 = 0 := h1
      have h2 : ¬ M.1 a 4 = 1 := h2
      rw [decide_eq_false h1, decide_eq_false h2] at h
      exact And.intro (Or.inl rfl) h
    · have h2 : M.1 a 4 = 1 := h2
      rw [decide_eq_true h2, Bool.or_true] at h
      exact And.intro (Or.inr rfl) h
  · exact h.elim
set_option maxRecDepth 100000 in
theorem wk_X3_suits (B : Nat) : fw_Wk B fl_X3 (cal_X3_suits B) [] cst_X3 (some .boolean) kX3_suits 2 (ct_X3_suits B) := by
  intro as M Q QX h
  unfold ct_X3_suits at h
  split at h
  · rename_i a ar
    obtain ⟨k, z, d, hz, hd, ez, ed, h⟩ := h
    refine ⟨rfl, [], ⟨80, And.intro k (And.intro (fun h1 => ?_) (fun h1 => And.intro k (And.intro k (Exists.intro z (Exists.intro d (And.intro hz (And.intro hd (And.intro ez (And.intro ed (And.intro (fun h2 => ?_) (fun h2 => ?_))))))))))) ⟩, nofun⟩
    · have h1 : hs ar (M.1 a 5) = false := bi_0.mp h1
      rw [h1] at h
      exact And.intro (Or.inl rfl) h
    · have h1 : hs ar (M.1 a 5) = true := bi_n0.mp h1
      have h2 : hs ar (nxz (M.1 a 5) (M.1 a 1)) = false := bi_0.mp h2
      rw [h1, h2] at h
      exact And.intro (Or.inl rfl) h
    · have h1 : hs ar (M.1 a 5) = true := bi_n0.mp h1
      have h2 : hs ar (nxz (M.1 a 5) (M.1 a 1)) = true := bi_n0.mp h2
      rw [h1, h2] at h
      exact And.intro (Or.inr rfl) h
  · exact h.elim
set_option maxRecDepth 100000 in
theorem wk_X3_legsOf (B : Nat) : fw_Wk B fl_X3 (cal_X3_legsOf B) [] cst_X3 (some .int) kX3_legsOf 2 (ct_X3_legsOf B) := by
  intro as M Q QX h
  unfold ct_X3_legsOf at h
  split at h
  · obtain ⟨⟨k, k1, k2, l1, l2⟩, c, hc, rfl, h⟩ := h
    exact ⟨rfl, [], ⟨40, And.intro k (And.intro k1 (Exists.intro c (And.intro (by rw [l1]; exact hc) (And.intro (by omega) (And.intro rfl h)))))⟩, nofun⟩
  · exact h.elim
set_option maxRecDepth 100000 in
theorem wk_X3_shareOf (B : Nat) : fw_Wk B fl_X3 (cal_X3_shareOf B) [] cst_X3 (some .int) kX3_shareOf 2 (ct_X3_shareOf B) := by
  intro as M Q QX h
  unfold ct_X3_shareOf at h
  split at h
  · obtain ⟨⟨k, k1, k2, l1, l2⟩, c, hc, rfl, h⟩ := h
    exact ⟨rfl, [], ⟨40, And.intro k (And.intro k2 (Exists.intro c (And.intro (by rw [l2]; exact hc) (And.intro (by omega) (And.intro rfl h)))))⟩, nofun⟩
  · exact h.elim
set_option maxRecDepth 100000 in
theorem wk_X3_addLeg (B : Nat) : fw_Wk B fl_X3 (cal_X3_addLeg B) [] cst_X3 none kX3_addLeg 2 (ct_X3_addLeg B) := by
  intro as M Q QX h
  unfold ct_X3_addLeg at h
  split at h
  · rename_i a x
    obtain ⟨⟨k, k1, k2, l1, l2⟩, c, hc, rfl, h⟩ := h
    refine ⟨rfl, [], ⟨60, And.intro (fun h1 => ?_) (fun h1 => And.intro k (And.intro (kd_7 k1).1 (And.intro (kd_7 k1).2 (And.intro (fun h2 => ?_) (fun h2 => ?_)))))⟩, nofun⟩
    · have h1 : nI c < nI 0 := h1
      rw [n_lt (by omega) (by decide)] at h1
      omega
    · have h2 : Int32.ofNat (fw_aln B (a + 1)) ≤ nI c := h2
      rw [aln7 k1 l1, n_ge (by decide) (by omega)] at h2
      omega
    · refine And.intro k (And.intro k1 (And.intro ?_ (And.intro k1 (And.intro ?_ ?_))))
      · show fw_sd (vp_in (nI c) (fw_len B (a + 1)))
        rw [l1]; exact vn_i hc (by decide)
      · show fw_sd (vp_in (nI c) (fw_len B (a + 1)))
        rw [l1]; exact vn_i hc (by decide)
      · show Q none (fw_st M (a + 1) (nI c).toNatClampNeg (M.1 (a + 1) (nI c).toNatClampNeg + 1))
        rw [n_cl (by omega)]
        exact h
  · exact h.elim
end WPk

/-! THE CLASS'S LEAVES WALKED -/
section WC
theorem ok_lt {v a b : Int32} (h : v < a) : okN v a b = false := by
  unfold okN; rw [decide_eq_false (Int32.not_le.mpr h), Bool.false_and]
theorem ok_gt {v a b : Int32} (h : b < v) : okN v a b = false := by
  unfold okN; rw [decide_eq_false (Int32.not_le.mpr h), Bool.and_false]
theorem ok_in {v a b : Int32} (h1 : ¬ v < a) (h2 : ¬ b < v) : okN v a b = true := by
  unfold okN; rw [decide_eq_true (Int32.not_lt.mp h1), decide_eq_true (Int32.not_lt.mp h2)]; rfl
theorem le16 {v : Int32} : (16 : Int32) ≤ v ↔ (15 : Int32) < v := by
  rw [Int32.le_iff_toInt_le, Int32.lt_iff_toInt_lt, show (16 : Int32).toInt = 16 by decide, show (15 : Int32).toInt = 15 by decide]
  omega
set_option maxRecDepth 100000 in
theorem wk_X5_isZone (B : Nat) : fw_Wk B fl_X5 (cal_X5_isZone B) [] cst_X5 (some .boolean) kX5_isZone 1 (ct_X5_isZone B) := by
  intro as M Q QX h
  unfold ct_X5_isZone at h
  split at h
  · refine ⟨rfl, [], ⟨40, And.intro (fun h1 => ?_) (fun h1 => And.intro (fun h2 => ?_) (fun h2 => ?_))⟩, nofun⟩
    · rw [ok_lt h1] at h; exact And.intro (Or.inl rfl) h
    · rw [ok_gt (le16.mp h2)] at h; exact And.intro (Or.inl rfl) h
    · rw [ok_in h1 (fun z => h2 (le16.mpr z))] at h; exact And.intro (Or.inr rfl) h
  · exact h.elim
set_option maxRecDepth 100000 in
theorem wk_X5_isArea (B : Nat) : fw_Wk B fl_X5 (cal_X5_isArea B) [] cst_X5 (some .boolean) kX5_isArea 1 (ct_X5_isArea B) := by
  intro as M Q QX h
  unfold ct_X5_isArea at h
  split at h
  · refine ⟨rfl, [], ⟨40, And.intro (fun h1 => ?_) (fun h1 => And.intro (fun h2 => ?_) (fun h2 => ?_))⟩, nofun⟩
    · rw [ok_lt h1] at h; exact And.intro (Or.inl rfl) h
    · rw [ok_gt h2] at h; exact And.intro (Or.inl rfl) h
    · rw [ok_in h1 h2] at h; exact And.intro (Or.inr rfl) h
  · exact h.elim
set_option maxRecDepth 100000 in
theorem wk_X5_isTip (B : Nat) : fw_Wk B fl_X5 (cal_X5_isTip B) [] cst_X5 (some .boolean) kX5_isTip 1 (ct_X5_isTip B) := by
  intro as M Q QX h
  unfold ct_X5_isTip at h
  split at h
  · refine ⟨rfl, [], ⟨40, And.intro (fun h1 => ?_) (fun h1 => And.intro (fun h2 => ?_) (fun h2 => ?_))⟩, nofun⟩
    · rw [ok_lt h1] at h; exact And.intro (Or.inl rfl) h
    · rw [ok_gt h2] at h; exact And.intro (Or.inl rfl) h
    · rw [ok_in h1 h2] at h; exact And.intro (Or.inr rfl) h
  · exact h.elim
set_option maxRecDepth 100000 in
theorem wk_X5_isTicks (B : Nat) : fw_Wk B fl_X5 (cal_X5_isTicks B) [] cst_X5 (some .boolean) kX5_isTicks 1 (ct_X5_isTicks B) := by
  intro as M Q QX h
  unfold ct_X5_isTicks at h
  split at h
  · refine ⟨rfl, [], ⟨40, And.intro (fun h1 => ?_) (fun h1 => And.intro (fun h2 => ?_) (fun h2 => ?_))⟩, nofun⟩
    · rw [ok_lt h1] at h; exact And.intro (Or.inl rfl) h
    · rw [ok_gt h2] at h; exact And.intro (Or.inl rfl) h
    · rw [ok_in h1 h2] at h; exact And.intro (Or.inr rfl) h
  · exact h.elim
set_option maxRecDepth 100000 in
theorem wk_X5_isCutOff (B : Nat) : fw_Wk B fl_X5 (cal_X5_isCutOff B) [] cst_X5 (some .boolean) kX5_isCutOff 1 (ct_X5_isCutOff B) := by
  intro as M Q QX h
  unfold ct_X5_isCutOff at h
  split at h
  · refine ⟨rfl, [], ⟨40, And.intro (fun h1 => ?_) (fun h1 => And.intro (fun h2 => ?_) (fun h2 => ?_))⟩, nofun⟩
    · rw [ok_lt h1] at h; exact And.intro (Or.inl rfl) h
    · rw [ok_gt h2] at h; exact And.intro (Or.inl rfl) h
    · rw [ok_in h1 h2] at h; exact And.intro (Or.inr rfl) h
  · exact h.elim
set_option maxRecDepth 100000 in
theorem wk_X5_holds (B : Nat) : fw_Wk B fl_X5 (cal_X5_holds B) [] cst_X5 (some .boolean) kX5_holds 2 (ct_X5_holds B) := by
  intro as M Q QX h
  unfold ct_X5_holds at h
  split at h
  · rename_i a z
    unfold hs at h
    refine ⟨rfl, [], ⟨40, And.intro (fun h1 => ?_) (fun h1 => ?_)⟩, nofun⟩
    · have h1 : ¬ (a >>> (z &&& 31)) &&& 1 = 1 := h1
      rw [decide_eq_false h1] at h; exact And.intro (Or.inl rfl) h
    · have h1 : (a >>> (z &&& 31)) &&& 1 = 1 := h1
      rw [decide_eq_true h1] at h; exact And.intro (Or.inr rfl) h
  · exact h.elim
theorem nz_c1 : ∀ i, i < 16 → ∀ j, j < 16 → rem4 (nI j) - rem4 (nI i) = 0 → nI j / 4 - nI i / 4 = 0 → nxz (nI i) (nI j) = nI i := by decide +kernel
theorem nz_c2 : ∀ i, i < 16 → ∀ j, j < 16 → rem4 (nI j) - rem4 (nI i) = 0 → ¬ nI j / 4 - nI i / 4 = 0 → nI j / 4 - nI i / 4 ≤ 0 → nxz (nI i) (nI j) = nI i - 4 := by decide +kernel
theorem nz_c3 : ∀ i, i < 16 → ∀ j, j < 16 → rem4 (nI j) - rem4 (nI i) = 0 → ¬ nI j / 4 - nI i / 4 = 0 → ¬ nI j / 4 - nI i / 4 ≤ 0 → nxz (nI i) (nI j) = nI i + 4 := by decide +kernel
theorem nz_c4 : ∀ i, i < 16 → ∀ j, j < 16 → ¬ rem4 (nI j) - rem4 (nI i) = 0 → rem4 (nI j) - rem4 (nI i) ≤ 0 → nxz (nI i) (nI j) = nI i - 1 := by decide +kernel
theorem nz_c5 : ∀ i, i < 16 → ∀ j, j < 16 → ¬ rem4 (nI j) - rem4 (nI i) = 0 → ¬ rem4 (nI j) - rem4 (nI i) ≤ 0 → nxz (nI i) (nI j) = nI i + 1 := by decide +kernel
set_option maxRecDepth 100000 in
theorem wk_X5_nextZone (B : Nat) : fw_Wk B fl_X5 (cal_X5_nextZone B) [] cst_X5 (some .int) kX5_nextZone 4 (ct_X5_nextZone B) := by
  intro as M Q QX h
  unfold ct_X5_nextZone at h
  split at h
  · obtain ⟨i, j, hi, hj, rfl, rfl, h⟩ := h
    refine ⟨rfl, [], ⟨80, And.intro n4s (And.intro n4s (And.intro (fun h1 => And.intro n4s (And.intro n4s (And.intro (fun h2 => ?_) (fun h2 => And.intro (fun h3 => ?_) (fun h3 => ?_))))) (fun h1 => And.intro (fun h2 => ?_) (fun h2 => ?_))))⟩, nofun⟩
    · rw [nz_c1 i hi j hj h1 h2] at h; exact h
    · rw [nz_c2 i hi j hj h1 h2 h3] at h; exact h
    · rw [nz_c3 i hi j hj h1 h2 h3] at h; exact h
    · rw [nz_c4 i hi j hj h1 h2] at h; exact h
    · rw [nz_c5 i hi j hj h1 h2] at h; exact h
  · exact h.elim
theorem aln7 {B a n : Nat} (h : fw_kd B a = 7) (hl : fw_len B a = n) : Int32.ofNat (fw_aln B a) = nI n := by
  unfold fw_aln; rw [if_pos h, hl]; rfl
theorem kd_7 {B a : Nat} (h : fw_kd B a = 7) : 7 ≤ fw_kd B a ∧ fw_kd B a ≤ 10 := by omega
set_option maxRecDepth 100000 in
theorem wk_X5_at (B : Nat) : fw_Wk B fl_X5 (cal_X5_at B) [] cst_X5 (some .int) kX5_at 2 (ct_X5_at B) := by
  intro as M Q QX h
  unfold ct_X5_at at h
  split at h
  · rename_i a x
    obtain ⟨hk7, k, hk, hk2, rfl, h⟩ := h
    have hL : fw_len B a < 2 ^ 31 := by
      unfold fw_len fw_lo
      split
      · decide
      · split
        · decide
        · split
          · decide
          · split
            · decide
            · split
              · decide
              · split
                · decide
                · (repeat' split) <;> decide
    refine ⟨rfl, [], ⟨40, And.intro (fun h1 => ?_) (fun h1 => And.intro (kd_7 hk7).1 (And.intro (kd_7 hk7).2 (And.intro (fun h2 => ?_) (fun h2 => ?_))))⟩, nofun⟩
    · have h1 : nI k < nI 0 := h1
      rw [n_lt (by omega) (by decide)] at h1
      omega
    · have h2 : Int32.ofNat (fw_aln B a) ≤ nI k := h2
      rw [aln7 hk7 rfl, n_ge hL (by omega)] at h2
      omega
    · refine And.intro hk7 (And.intro (vn_i hk hL) ?_)
      conv => whnf
      rw [n_cl (by omega)]
      exact h
  · exact h.elim
set_option maxRecDepth 100000 in
theorem wk_X5_sum (B : Nat) : fw_Wk B fl_X5 (cal_X5_sum B) [] cst_X5 (some .int) kX5_sum 3 (ct_X5_sum B) := by
  intro as M Q QX h
  unfold ct_X5_sum at h
  split at h
  · rename_i a
    obtain ⟨hk7, hL, h⟩ := h
    refine ⟨rfl, [(4, [true, true, true], fun n ls st M' => ∃ i, n = 6 - i ∧ i ≤ 6 ∧ ls = [some (.ref a), some (.int (rsum (M.1 a) i)), some (.int (nI i))] ∧ st = [] ∧ M' = M)], ⟨20, ?_⟩, ?_⟩
    · exact Exists.intro 6 (Exists.intro 0 ⟨rfl, by omega, rfl, rfl, rfl⟩)
    · intro q hq n ls st M' hi
      cases List.mem_singleton.mp hq
      obtain ⟨i, rfl, hi, rfl, rfl, rfl⟩ := hi
      refine ⟨60, And.intro (kd_7 hk7).1 (And.intro (kd_7 hk7).2 (And.intro (fun h1 => ?_) (fun h1 => ?_)))⟩
      · have h1 : Int32.ofNat (fw_aln B a) ≤ nI i := h1
        rw [aln7 hk7 hL, n_ge (by decide) (by omega)] at h1
        rw [show i = 6 by omega]
        exact h
      · have h1 : ¬ Int32.ofNat (fw_aln B a) ≤ nI i := h1
        rw [aln7 hk7 hL, n_ge (by decide) (by omega)] at h1
        refine And.intro hk7 (And.intro ?_ ?_)
        · rw [hL]; exact vn_i (by omega) (by decide)
        refine Exists.intro (6 - (i + 1)) (And.intro (by omega) (Exists.intro (i + 1) ⟨rfl, by omega, ?_, rfl, rfl⟩))
        show [some (Value.ref a), some (Value.int (rsum (M'.1 a) i + M'.1 a (nI i).toNatClampNeg)), some (Value.int (nI i + 1))] = _
        rw [n_cl (by omega), nI_1]
        rfl
  · exact h.elim
theorem cpy_6 {f g : Nat → Int32} : va_cpy f g 0 0 6 = cpN 6 f g := by
  funext k
  unfold va_cpy cpN
  by_cases h : k < 6
  · rw [if_pos h, if_pos ⟨Nat.zero_le k, by omega⟩]
    simp
  · rw [if_neg h, if_neg (by omega)]
set_option maxRecDepth 100000 in
theorem wk_X5_copyRow (B : Nat) : fw_Wk B fl_X5 (cal_X5_copyRow B) [] cst_X5 none kX5_copyRow 2 (ct_X5_copyRow B) := by
  intro as M Q QX h
  unfold ct_X5_copyRow at h
  split at h
  · rename_i a b
    obtain ⟨ka, kb, la, lb, h⟩ := h
    refine ⟨rfl, [], ⟨60, And.intro (kd_7 ka).1 (And.intro (kd_7 ka).2 (And.intro (kd_7 kb).1 (And.intro (kd_7 kb).2 ?_)))⟩, nofun⟩
    have eN : (if Int32.ofNat (fw_aln B b) < Int32.ofNat (fw_aln B a) then Int32.ofNat (fw_aln B b) else Int32.ofNat (fw_aln B a)) = nI 6 := by
      split
      · exact aln7 kb lb
      · exact aln7 ka la
    have key : ¬ nI 6 < 0 ∧ (nI 6).toNatClampNeg ≤ fw_len B a ∧ (nI 6).toNatClampNeg ≤ fw_len B b ∧ Q none (fw_row M b (va_cpy (M.1 a) (M.1 b) 0 0 (nI 6).toNatClampNeg)) := by
      rw [n_cl (by decide), la, lb, cpy_6]
      exact ⟨by decide, Nat.le_refl 6, Nat.le_refl 6, h⟩
    rw [← eN] at key
    exact And.intro ka (And.intro kb (And.intro rfl (And.intro rfl key)))
  · exact h.elim
set_option maxRecDepth 100000 in
theorem wk_X0_setFree (B : Nat) : fw_Wk B fl_X0 (cal_X0_setFree B) [] cst_X0 none kX0_setFree 1 (ct_X0_setFree B) := by
  intro as M Q QX h
  unfold ct_X0_setFree at h
  split at h
  · obtain ⟨k, h⟩ := h
    exact ⟨rfl, [], ⟨40, And.intro k (And.intro k h)⟩, nofun⟩
  · exact h.elim
set_option maxRecDepth 100000 in
theorem wk_X0_begin (B : Nat) : fw_Wk B fl_X0 (cal_X0_begin B) [] cst_X0 none kX0_begin 3 (ct_X0_begin B) := by
  intro as M Q QX h
  unfold ct_X0_begin at h
  split at h
  · obtain ⟨k, h⟩ := h
    exact ⟨rfl, [], ⟨60, And.intro k (And.intro k (And.intro k (And.intro k (And.intro k h))))⟩, nofun⟩
  · exact h.elim
set_option maxRecDepth 100000 in
theorem wk_X0_become (B : Nat) : fw_Wk B fl_X0 (cal_X0_become B) [] cst_X0 none kX0_become 2 (ct_X0_become B) := by
  intro as M Q QX h
  unfold ct_X0_become at h
  split at h
  · obtain ⟨k, kb, hne, h⟩ := h
    refine ⟨rfl, [], ⟨80, And.intro kb (And.intro k (And.intro kb (And.intro k (And.intro kb (And.intro k (And.intro kb (And.intro k (And.intro kb (And.intro k ?_)))))))))⟩, nofun⟩
    conv => whnf
    simp only [fw_fv, fw_fw, fw_fc, fw_st, fw_up_ne hne] at h ⊢
    exact h
  · exact h.elim
end WC

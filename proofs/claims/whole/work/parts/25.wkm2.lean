/-! THE REFERENCE'S METHODS WALKED: couriers and parcels -/
section WN
set_option maxRecDepth 100000 in
theorem wk_X6_isCourier (B : Nat) : fw_Wk B fl_X6 (cal_X6_isCourier B) [] cst_X6 (some .boolean) kX6_isCourier 2 (ct_X6_isCourier B) := by
  intro as M Q QX h
  unfold ct_X6_isCourier at h
  split at h
  · obtain ⟨rfl, h⟩ := h
    refine ⟨rfl, [], ⟨200, ?_⟩, nofun⟩
    repeat' first
      | refine And.intro ?_ ?_
      | intro _
      | exact kd_492
      | exact kd_493
      | exact rfl
      | exact bi_01
      | exact vnl_493 (by decide)
      | (simp (disch := omega) only [cx0, cx1, cx2, cx3, cx4, px0, px1, px2, px3, px4, px5, px6, px7, pxL, pxS, n_cl, cl0, cl1, cl2, cl3, cl4, cl5, cl6, b493, b494, b495, b496, b497]; exact vn_i (by omega) (by decide))
      | exact Or.inl rfl
      | exact Or.inr rfl
    exact h
  · exact h.elim
set_option maxRecDepth 100000 in
theorem wk_X6_isParcel (B : Nat) : fw_Wk B fl_X6 (cal_X6_isParcel B) [] cst_X6 (some .boolean) kX6_isParcel 2 (ct_X6_isParcel B) := by
  intro as M Q QX h
  unfold ct_X6_isParcel at h
  split at h
  · obtain ⟨rfl, h⟩ := h
    refine ⟨rfl, [], ⟨200, ?_⟩, nofun⟩
    repeat' first
      | refine And.intro ?_ ?_
      | intro _
      | exact kd_492
      | exact kd_493
      | exact rfl
      | exact bi_01
      | exact vnl_493 (by decide)
      | (simp (disch := omega) only [cx0, cx1, cx2, cx3, cx4, px0, px1, px2, px3, px4, px5, px6, px7, pxL, pxS, n_cl, cl0, cl1, cl2, cl3, cl4, cl5, cl6, b493, b494, b495, b496, b497]; exact vn_i (by omega) (by decide))
      | exact Or.inl rfl
      | exact Or.inr rfl
    exact h
  · exact h.elim
set_option maxRecDepth 100000 in
theorem wk_X6_isZone (B : Nat) : fw_Wk B fl_X6 (cal_X6_isZone B) [] cst_X6 (some .boolean) kX6_isZone 1 (ct_X6_isZone B) := by
  intro as M Q QX h
  unfold ct_X6_isZone at h
  split at h
  · refine ⟨rfl, [], ⟨200, ?_⟩, nofun⟩
    repeat' first
      | refine And.intro ?_ ?_
      | intro _
      | exact kd_492
      | exact kd_493
      | exact rfl
      | exact bi_01
      | exact vnl_493 (by decide)
      | (simp (disch := omega) only [cx0, cx1, cx2, cx3, cx4, px0, px1, px2, px3, px4, px5, px6, px7, pxL, pxS, n_cl, cl0, cl1, cl2, cl3, cl4, cl5, cl6, b493, b494, b495, b496, b497]; exact vn_i (by omega) (by decide))
      | exact Or.inl rfl
      | exact Or.inr rfl
    exact h
  · exact h.elim
set_option maxRecDepth 100000 in
theorem wk_X6_isArea (B : Nat) : fw_Wk B fl_X6 (cal_X6_isArea B) [] cst_X6 (some .boolean) kX6_isArea 1 (ct_X6_isArea B) := by
  intro as M Q QX h
  unfold ct_X6_isArea at h
  split at h
  · refine ⟨rfl, [], ⟨200, ?_⟩, nofun⟩
    repeat' first
      | refine And.intro ?_ ?_
      | intro _
      | exact kd_492
      | exact kd_493
      | exact rfl
      | exact bi_01
      | exact vnl_493 (by decide)
      | (simp (disch := omega) only [cx0, cx1, cx2, cx3, cx4, px0, px1, px2, px3, px4, px5, px6, px7, pxL, pxS, n_cl, cl0, cl1, cl2, cl3, cl4, cl5, cl6, b493, b494, b495, b496, b497]; exact vn_i (by omega) (by decide))
      | exact Or.inl rfl
      | exact Or.inr rfl
    exact h
  · exact h.elim
set_option maxRecDepth 100000 in
theorem wk_X6_isMany (B : Nat) : fw_Wk B fl_X6 (cal_X6_isMany B) [] cst_X6 (some .boolean) kX6_isMany 1 (ct_X6_isMany B) := by
  intro as M Q QX h
  unfold ct_X6_isMany at h
  split at h
  · refine ⟨rfl, [], ⟨200, ?_⟩, nofun⟩
    repeat' first
      | refine And.intro ?_ ?_
      | intro _
      | exact kd_492
      | exact kd_493
      | exact rfl
      | exact bi_01
      | exact vnl_493 (by decide)
      | (simp (disch := omega) only [cx0, cx1, cx2, cx3, cx4, px0, px1, px2, px3, px4, px5, px6, px7, pxL, pxS, n_cl, cl0, cl1, cl2, cl3, cl4, cl5, cl6, b493, b494, b495, b496, b497]; exact vn_i (by omega) (by decide))
      | exact Or.inl rfl
      | exact Or.inr rfl
    exact h
  · exact h.elim
set_option maxRecDepth 100000 in
theorem wk_X6_hold (B : Nat) : fw_Wk B fl_X6 (cal_X6_hold B) [] cst_X6 none kX6_hold 1 (ct_X6_hold B) := by
  intro as M Q QX h
  unfold ct_X6_hold at h
  split at h
  · obtain ⟨rfl, h⟩ := h
    refine ⟨rfl, [], ⟨20, And.intro kd_492 (And.intro kd_492 (And.intro kd_495 (And.intro kd_493 (And.intro ln_495 (And.intro ln_493 (And.intro ?_ h))))))⟩, nofun⟩
    show B + 495 ≠ B + 493
    omega
  · exact h.elim
set_option maxRecDepth 100000 in
theorem wk_X6_isIn (B : Nat) : fw_Wk B fl_X6 (cal_X6_isIn B) [] cst_X6 (some .boolean) kX6_isIn 3 (ct_X6_isIn B) := by
  intro as M Q QX h
  unfold ct_X6_isIn at h
  split at h
  · obtain ⟨rfl, c, hc, rfl, h⟩ := h
    refine ⟨rfl, [], ⟨200, ?_⟩, nofun⟩
    repeat' first
      | refine And.intro ?_ ?_
      | intro _
      | exact kd_492
      | exact kd_493
      | exact rfl
      | exact bi_01
      | exact vnl_493 (by decide)
      | (simp (disch := omega) only [cx0, cx1, cx2, cx3, cx4, px0, px1, px2, px3, px4, px5, px6, px7, pxL, pxS, n_cl, cl0, cl1, cl2, cl3, cl4, cl5, cl6, b493, b494, b495, b496, b497]; exact vn_i (by omega) (by decide))
      | exact Or.inl rfl
      | exact Or.inr rfl
    · rename_i z h1
      simp (disch := omega) only [cx0, cx1, cx2, cx3, cx4, px0, px1, px2, px3, px4, px5, px6, px7, pxL, pxS, n_cl, cl0, cl1, cl2, cl3, cl4, cl5, cl6, b493, b494, b495, b496, b497] at h1
      unfold hs sC at h
      rw [decide_eq_false h1] at h
      exact h
    · rename_i z h1
      simp (disch := omega) only [cx0, cx1, cx2, cx3, cx4, px0, px1, px2, px3, px4, px5, px6, px7, pxL, pxS, n_cl, cl0, cl1, cl2, cl3, cl4, cl5, cl6, b493, b494, b495, b496, b497] at h1
      unfold hs sC at h
      rw [decide_eq_true h1] at h
      exact h
  · exact h.elim
set_option maxRecDepth 100000 in
theorem wk_X6_next (B : Nat) : fw_Wk B fl_X6 (cal_X6_next B) [] cst_X6 (some .int) kX6_next 2 (ct_X6_next B) := by
  intro as M Q QX h
  unfold ct_X6_next at h
  split at h
  · rename_i f t
    have n4 : fw_sd (¬ (4 : Int32) = 0) := fw_sd_i (by decide)
    refine ⟨rfl, [], ⟨200, ?_⟩, nofun⟩
    unfold nxz rem4 at h
    refine And.intro n4 (And.intro n4 (And.intro (fun h1 => ?_) (fun h1 => And.intro n4 (And.intro n4 (And.intro (fun h2 => ?_) (fun h2 => ?_))))))
    · have h1 : f - f / 4 * 4 = t - t / 4 * 4 := h1
      rw [if_pos h1] at h
      refine And.intro (fun h2 => And.intro (fun h3 => ?_) (fun h3 => ?_)) (fun h2 => ?_)
      · rw [if_neg (Int32.not_lt.mpr h2), if_neg (Int32.not_lt.mpr h3)] at h
        exact h
      · rw [if_neg (Int32.not_lt.mpr h2), if_pos (Int32.not_le.mp h3)] at h
        exact h
      · rw [if_pos (Int32.not_le.mp h2)] at h
        exact h
    · have h1 : ¬ f - f / 4 * 4 = t - t / 4 * 4 := h1
      rw [if_neg h1, if_neg (Int32.not_lt.mpr h2)] at h
      exact h
    · have h1 : ¬ f - f / 4 * 4 = t - t / 4 * 4 := h1
      rw [if_neg h1, if_pos (Int32.not_le.mp h2)] at h
      exact h
  · exact h.elim
set_option maxRecDepth 100000 in
theorem wk_X6_frees (B : Nat) : fw_Wk B fl_X6 (cal_X6_frees B) [] cst_X6 none kX6_frees 2 (ct_X6_frees B) := by
  intro as M Q QX h
  unfold ct_X6_frees at h
  split at h
  · obtain ⟨rfl, c, hc, rfl, h⟩ := h
    refine ⟨rfl, [], ⟨200, ?_⟩, nofun⟩
    repeat' first
      | refine And.intro ?_ ?_
      | intro _
      | exact kd_492
      | exact kd_493
      | exact rfl
      | exact bi_01
      | exact vnl_493 (by decide)
      | (simp (disch := omega) only [cx0, cx1, cx2, cx3, cx4, px0, px1, px2, px3, px4, px5, px6, px7, pxL, pxS, n_cl, cl0, cl1, cl2, cl3, cl4, cl5, cl6, b493, b494, b495, b496, b497]; exact vn_i (by omega) (by decide))
      | exact Or.inl rfl
      | exact Or.inr rfl
    conv => whnf
    simp (disch := omega) only [cx0, cx1, cx2, cx3, cx4, px0, px1, px2, px3, px4, px5, px6, px7, pxL, pxS, n_cl, cl0, cl1, cl2, cl3, cl4, cl5, cl6, b493, b494, b495, b496, b497, row_1, row_row, st_row, upd_s, upd_n]
    exact h
  · exact h.elim
set_option maxRecDepth 100000 in
theorem wk_X6_suits (B : Nat) : fw_Wk B fl_X6 (cal_X6_suits B) [] cst_X6 (some .boolean) kX6_suits 3 (ct_X6_suits B) := by
  intro as M Q QX h
  unfold ct_X6_suits at h
  split at h
  · obtain ⟨rfl, p, c, hp, hc, rfl, rfl, h⟩ := h
    refine ⟨rfl, [], ⟨200, ?_⟩, nofun⟩
    refine And.intro kd_492 (And.intro rfl (And.intro (vP5 hp) (And.intro kd_492 (And.intro rfl (Exists.intro c (And.intro hc (And.intro rfl (And.intro (fun h1 => And.intro (Or.inl rfl) ?_) (fun h1 => ?_)))))))))
    · have h1 := bi_0.mp h1
      simp (disch := omega) only [cx0, cx1, cx2, cx3, cx4, px0, px1, px2, px3, px4, px5, px6, px7, pxL, pxS, n_cl, cl0, cl1, cl2, cl3, cl4, cl5, cl6, b493, b494, b495, b496, b497] at h1
      unfold suit at h
      rw [show hs (sC (mS B M) c 0) (sP (mS B M) p 5) = false from h1] at h
      exact h
    · have h1 := bi_n0.mp h1
      simp (disch := omega) only [cx0, cx1, cx2, cx3, cx4, px0, px1, px2, px3, px4, px5, px6, px7, pxL, pxS, n_cl, cl0, cl1, cl2, cl3, cl4, cl5, cl6, b493, b494, b495, b496, b497] at h1
      unfold suit at h
      rw [show hs (sC (mS B M) c 0) (sP (mS B M) p 5) = true from h1, Bool.true_and] at h
      refine And.intro kd_492 (And.intro rfl (And.intro (vP5 hp) (And.intro kd_492 (And.intro rfl (And.intro (vP1 hp) (And.intro kd_492 (And.intro rfl (Exists.intro c (And.intro hc (And.intro rfl (And.intro (fun h2 => And.intro (Or.inl rfl) ?_) (fun h2 => And.intro (Or.inr rfl) ?_))))))))))))
      · have h2 := bi_0.mp h2
        simp (disch := omega) only [cx0, cx1, cx2, cx3, cx4, px0, px1, px2, px3, px4, px5, px6, px7, pxL, pxS, n_cl, cl0, cl1, cl2, cl3, cl4, cl5, cl6, b493, b494, b495, b496, b497] at h2
        rw [show hs (sC (mS B M) c 0) (nxz (sP (mS B M) p 5) (sP (mS B M) p 1)) = false from h2] at h
        exact h
      · have h2 := bi_n0.mp h2
        simp (disch := omega) only [cx0, cx1, cx2, cx3, cx4, px0, px1, px2, px3, px4, px5, px6, px7, pxL, pxS, n_cl, cl0, cl1, cl2, cl3, cl4, cl5, cl6, b493, b494, b495, b496, b497] at h2
        rw [show hs (sC (mS B M) c 0) (nxz (sP (mS B M) p 5) (sP (mS B M) p 1)) = true from h2] at h
        exact h
  · exact h.elim
set_option maxRecDepth 100000 in
theorem wk_X6_goes (B : Nat) : fw_Wk B fl_X6 (cal_X6_goes B) [] cst_X6 none kX6_goes 3 (ct_X6_goes B) := by
  intro as M Q QX h
  unfold ct_X6_goes at h
  split at h
  · obtain ⟨rfl, c, p, hc, hp, rfl, rfl, h⟩ := h
    refine ⟨rfl, [], ⟨200, ?_⟩, nofun⟩
    repeat' first
      | refine And.intro ?_ ?_
      | intro _
      | exact kd_492
      | exact kd_493
      | exact rfl
      | exact bi_01
      | exact vnl_493 (by decide)
      | (simp (disch := omega) only [cx0, cx1, cx2, cx3, cx4, px0, px1, px2, px3, px4, px5, px6, px7, pxL, pxS, n_cl, cl0, cl1, cl2, cl3, cl4, cl5, cl6, b493, b494, b495, b496, b497]; exact vn_i (by omega) (by decide))
      | exact Or.inl rfl
      | exact Or.inr rfl
    · rename_i h1
      conv => whnf
      simp (disch := omega) only [cx0, cx1, cx2, cx3, cx4, px0, px1, px2, px3, px4, px5, px6, px7, pxL, pxS, n_cl, cl0, cl1, cl2, cl3, cl4, cl5, cl6, b493, b494, b495, b496, b497, row_1, row_row, st_row, upd_s, upd_n] at h1 ⊢
      unfold goS at h
      rw [if_neg (show ¬ sC (mS B M) c 1 = sP (mS B M) p 5 from h1)] at h
      exact h
    · rename_i h1
      conv => whnf
      simp (disch := omega) only [cx0, cx1, cx2, cx3, cx4, px0, px1, px2, px3, px4, px5, px6, px7, pxL, pxS, n_cl, cl0, cl1, cl2, cl3, cl4, cl5, cl6, b493, b494, b495, b496, b497, row_1, row_row, st_row, upd_s, upd_n] at h1 ⊢
      unfold goS at h
      rw [if_pos (show sC (mS B M) c 1 = sP (mS B M) p 5 from h1)] at h
      exact h
  · exact h.elim
end WN

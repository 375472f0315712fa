/-! THE FACE WALKED: the calls that act -/
section WF1
abbrev thA : Nat × String := (40, "java/lang/IllegalArgumentException")
abbrev thS : Nat × String := (47, "java/lang/IllegalStateException")
abbrev thI : Nat × String := (62, "java/lang/IndexOutOfBoundsException")
set_option maxRecDepth 100000 in
theorem wk_X5_addCourier (B : Nat) : fw_Wk B fl_X5 (cal_X5_addCourier B) [thA, thS] cst_X5 (some .int) kX5_addCourier 3 (ct_X5_addCourier B) := by
  intro as M Q QX h
  unfold ct_X5_addCourier at h
  split at h
  · rename_i a ar z
    obtain ⟨rfl, ⟨S, n, H, tl, tx⟩, hR, hG, hJ, hq, hx⟩ := h
    obtain ⟨t, ht, ht0, hW⟩ := GZ_wf hG
    have hW : WF (6 * t) S := hW
    have ht0 : S 0 = nI t := ht0
    have hXS : XS a M (a + 1) (6 * t) S := ⟨EX_now, hR.1, hW⟩
    have hn6 : cn S ≤ 6 := hW.2.1
    have hm24 : pn S ≤ 24 := hW.2.2.2.1
    have e2 : M.1 (a + 1) 2 = nI (cn S) := (r2 hR.1).trans hW.1
    have e3 : M.1 (a + 1) 3 = nI (pn S) := (r3 hR.1).trans hW.2.2.1
    have k5 := kB (B := a)
    have k1 := kX (EX_now (B := a))
    have k2 := k163 (B := a)
    have hJ0 : J S := hJ.1
    have n6 : S 2 = 6 ↔ cn S = 6 := by rw [hW.1, show (6 : Int32) = nI 6 from rfl, nI_eq (by omega) (by decide)]
    refine ⟨rfl, [], ⟨100, And.intro (fun h1 => ?_) (fun h1 => And.intro (fun h2 => ?_) (fun h2 => ?_))⟩, nofun⟩
    · have h1 : okN ar 0 65535 = false := bi_0.mp h1
      have z := cF_thr (k := 1) (by unfold opAdd; rw [h1, Bool.false_and, if_neg (by decide)]) (by decide) hx
      exact z
    · have h1 : okN ar 0 65535 = true := bi_n0.mp h1
      have h2 : okN z 0 15 = true := bi_n0.mp h2
      refine And.intro k5 (And.intro k1 (And.intro (fun h3 => ?_) (fun h3 => ?_)))
      · have h3 : M.1 (a + 1) 2 < nI 6 := h3
        rw [e2, n_lt (by omega) (by decide)] at h3
        refine And.intro k5 (And.intro k5 (And.intro k2 (And.intro rfl (And.intro rfl (Exists.intro (6 * t) (Exists.intro S (Exists.intro n (Exists.intro H (And.intro hR.2.1 (And.intro hXS ?_))))))))))
        intro M1 g1 g2 g3
        have hR1 := RC_save hR g1 g2
        refine And.intro k5 (And.intro k1 (Exists.intro (6 * t) (Exists.intro S (And.intro ⟨EX_now, hR1.1, hW⟩ (And.intro h3 ?_)))))
        intro M2 f1 f2
        have z := cF_act (op := opAdd ar z) (r := S 2) (by unfold opAdd; rw [h1, h2, if_pos (show (true && true) = true from rfl), if_neg (by rw [n6]; omega)]) hR g1 g2 g3 f1 f2 hq
        exact z
      · have h3 : ¬ M.1 (a + 1) 2 < nI 6 := h3
        rw [e2, n_lt (by omega) (by decide)] at h3
        have z := cF_thr (k := 2) (by unfold opAdd; rw [h1, h2, if_pos (show (true && true) = true from rfl), if_pos (n6.mpr (by omega))]) (by decide) hx
        exact z
    · have h1 : okN ar 0 65535 = true := bi_n0.mp h1
      have h2 : okN z 0 15 = false := bi_0.mp h2
      have z := cF_thr (k := 1) (by unfold opAdd; rw [h1, h2, Bool.true_and, if_neg (by decide)]) (by decide) hx
      exact z
  · exact h.elim
set_option maxRecDepth 100000 in
theorem wk_X5_setArea (B : Nat) : fw_Wk B fl_X5 (cal_X5_setArea B) [thI, thA] cst_X5 (some .int) kX5_setArea 5 (ct_X5_setArea B) := by
  intro as M Q QX h
  unfold ct_X5_setArea at h
  split at h
  · rename_i a c ar
    obtain ⟨rfl, ⟨S, n, H, tl, tx⟩, hR, hG, hJ, hq, hx⟩ := h
    obtain ⟨t, ht, ht0, hW⟩ := GZ_wf hG
    have hW : WF (6 * t) S := hW
    have ht0 : S 0 = nI t := ht0
    have hXS : XS a M (a + 1) (6 * t) S := ⟨EX_now, hR.1, hW⟩
    have hn6 : cn S ≤ 6 := hW.2.1
    have hm24 : pn S ≤ 24 := hW.2.2.2.1
    have e2 : M.1 (a + 1) 2 = nI (cn S) := (r2 hR.1).trans hW.1
    have e3 : M.1 (a + 1) 3 = nI (pn S) := (r3 hR.1).trans hW.2.2.1
    have k5 := kB (B := a)
    have k1 := kX (EX_now (B := a))
    have k2 := k163 (B := a)
    have hJ0 : J S := hJ.1
    rcases cr_dec hW c with ⟨k, hk, rfl, hc, ec⟩ | ⟨hc, hno⟩
    · have kc := kC (EX_now (B := a)) (show k < 6 by omega)
      refine ⟨rfl, [], ⟨100, And.intro k5 (And.intro k1 (And.intro EX_now (Exists.intro (cn S) (And.intro hn6 (And.intro e2 (Or.inl (Exists.intro k (And.intro hk (And.intro rfl ?_)))))))))⟩, nofun⟩
      refine And.intro (fun h1 => ?_) (fun h1 => ?_)
      · have h1 : okN ar 0 65535 = true := bi_n0.mp h1
        refine And.intro k5 (And.intro k5 (And.intro k2 (And.intro rfl (And.intro rfl (Exists.intro (6 * t) (Exists.intro S (Exists.intro n (Exists.intro H (And.intro hR.2.1 (And.intro hXS ?_))))))))))
        intro M1 g1 g2 g3
        have hR1 := RC_save hR g1 g2
        have ev : M1.1 (a + 1 + 3 + k) 0 = sC S k 0 := by rw [g2 _ (Or.inl (by omega))]; exact rC hR.1 hk (by decide)
        have z := cF_act (op := opArea (nI k) ar) (r := sC S k 0) (S' := uC S k 0 ar) (M2 := fw_st M1 (a + 1 + 3 + k) 0 ar) (by unfold opArea; rw [if_pos hc, if_pos h1, ec]) hR g1 g2 g3 (Rep_C hR1.1 (by omega) (by decide)) (FX_st (by omega) (by omega)) hq
        rw [← ev] at z
        exact And.intro kc (And.intro kc z)
      · have h1 : okN ar 0 65535 = false := bi_0.mp h1
        have z := cF_thr (k := 2) (by unfold opArea; rw [if_pos hc, h1, if_neg (by decide)]) (by decide) hx
        exact z
    · refine ⟨rfl, [], ⟨100, And.intro k5 (And.intro k1 (And.intro EX_now (Exists.intro (cn S) (And.intro hn6 (And.intro e2 (Or.inr (And.intro hno ?_)))))))⟩, nofun⟩
      have z := cF_thr (k := 1) (by unfold opArea; rw [hc, if_neg (by decide)]) (by decide) hx
      exact z
  · exact h.elim
set_option maxRecDepth 100000 in
theorem wk_X5_give (B : Nat) : fw_Wk B fl_X5 (cal_X5_give B) [thA, thS] cst_X5 (some .int) kX5_give 5 (ct_X5_give B) := by
  intro as M Q QX h
  unfold ct_X5_give at h
  split at h
  · rename_i a o g k y
    obtain ⟨rfl, ⟨S, n, H, tl, tx⟩, hR, hG, hJ, hq, hx⟩ := h
    obtain ⟨t, ht, ht0, hW⟩ := GZ_wf hG
    have hW : WF (6 * t) S := hW
    have ht0 : S 0 = nI t := ht0
    have hXS : XS a M (a + 1) (6 * t) S := ⟨EX_now, hR.1, hW⟩
    have hn6 : cn S ≤ 6 := hW.2.1
    have hm24 : pn S ≤ 24 := hW.2.2.2.1
    have e2 : M.1 (a + 1) 2 = nI (cn S) := (r2 hR.1).trans hW.1
    have e3 : M.1 (a + 1) 3 = nI (pn S) := (r3 hR.1).trans hW.2.2.1
    have k5 := kB (B := a)
    have k1 := kX (EX_now (B := a))
    have k2 := k163 (B := a)
    have hJ0 : J S := hJ.1
    have n24 : S 3 = 24 ↔ pn S = 24 := by rw [hW.2.2.1, show (24 : Int32) = nI 24 from rfl, nI_eq (by omega) (by decide)]
    have no : (okN o 0 15 && okN g 0 15 && okN k 1 999 && okN y 0 1000 && decide (o ≠ g)) = false → QX "java/lang/IllegalArgumentException" M := fun w =>
      cF_thr (k := 1) (ex := exA) (by unfold opGive; rw [w, if_neg (by decide)]) (by decide) hx
    refine ⟨rfl, [], ⟨100, And.intro (fun h1 => ?_) (fun h1 => And.intro (fun h2 => ?_) (fun h2 => And.intro (fun h3 => ?_) (fun h3 => And.intro (fun h4 => ?_) (fun h4 => And.intro (fun h5 => ?_) (fun h5 => ?_)))))⟩, nofun⟩
    · have h1 : okN o 0 15 = false := bi_0.mp h1
      exact no (by rw [h1]; rfl)
    · have h2 : okN g 0 15 = false := bi_0.mp h2
      exact no (by rw [h2, Bool.and_false]; rfl)
    · have h3 : o = g := h3
      exact no (by rw [decide_eq_false (fun w => w h3), Bool.and_false])
    · have h4 : okN k 1 999 = false := bi_0.mp h4
      exact no (by rw [h4, Bool.and_false]; rfl)
    · have h1 : okN o 0 15 = true := bi_n0.mp h1
      have h2 : okN g 0 15 = true := bi_n0.mp h2
      have h3 : ¬ o = g := h3
      have h4 : okN k 1 999 = true := bi_n0.mp h4
      have h5 : okN y 0 1000 = true := bi_n0.mp h5
      have ok : (okN o 0 15 && okN g 0 15 && okN k 1 999 && okN y 0 1000 && decide (o ≠ g)) = true := by rw [h1, h2, h4, h5, decide_eq_true h3]; rfl
      refine And.intro k5 (And.intro k1 (And.intro (fun h6 => ?_) (fun h6 => ?_)))
      · have h6 : M.1 (a + 1) 3 < nI 24 := h6
        rw [e3, n_lt (by omega) (by decide)] at h6
        refine And.intro k5 (And.intro k5 (And.intro k2 (And.intro rfl (And.intro rfl (Exists.intro (6 * t) (Exists.intro S (Exists.intro n (Exists.intro H (And.intro hR.2.1 (And.intro hXS ?_))))))))))
        intro M1 g1 g2 g3
        have hR1 := RC_save hR g1 g2
        refine And.intro k5 (And.intro k1 (Exists.intro (6 * t) (Exists.intro S (And.intro ⟨EX_now, hR1.1, hW⟩ (And.intro h6 ?_)))))
        intro M2 f1 f2
        have z := cF_act (op := opGive o g k y) (r := S 3) (by unfold opGive; rw [if_pos ok, if_neg (by rw [n24]; omega)]) hR g1 g2 g3 f1 f2 hq
        exact z
      · have h6 : ¬ M.1 (a + 1) 3 < nI 24 := h6
        rw [e3, n_lt (by omega) (by decide)] at h6
        have z := cF_thr (k := 2) (by unfold opGive; rw [if_pos ok, if_pos (n24.mpr (by omega))]) (by decide) hx
        exact z
    · have h5 : okN y 0 1000 = false := bi_0.mp h5
      exact no (by rw [h5, Bool.and_false]; rfl)
  · exact h.elim
set_option maxRecDepth 100000 in
theorem wk_X5_setGrace (B : Nat) : fw_Wk B fl_X5 (cal_X5_setGrace B) [thA] cst_X5 (some .int) kX5_setGrace 3 (ct_X5_setGrace B) := by
  intro as M Q QX h
  unfold ct_X5_setGrace at h
  split at h
  · rename_i a x
    obtain ⟨rfl, ⟨S, n, H, tl, tx⟩, hR, hG, hJ, hq, hx⟩ := h
    obtain ⟨t, ht, ht0, hW⟩ := GZ_wf hG
    have hW : WF (6 * t) S := hW
    have ht0 : S 0 = nI t := ht0
    have hXS : XS a M (a + 1) (6 * t) S := ⟨EX_now, hR.1, hW⟩
    have hn6 : cn S ≤ 6 := hW.2.1
    have hm24 : pn S ≤ 24 := hW.2.2.2.1
    have e2 : M.1 (a + 1) 2 = nI (cn S) := (r2 hR.1).trans hW.1
    have e3 : M.1 (a + 1) 3 = nI (pn S) := (r3 hR.1).trans hW.2.2.1
    have k5 := kB (B := a)
    have k1 := kX (EX_now (B := a))
    have k2 := k163 (B := a)
    have hJ0 : J S := hJ.1
    have no : okN x 0 100 = false → QX "java/lang/IllegalArgumentException" M := fun w =>
      cF_thr (k := 1) (ex := exA) (by unfold opGrace; rw [w, if_neg (by decide)]) (by decide) hx
    refine ⟨rfl, [], ⟨100, And.intro (fun h1 => ?_) (fun h1 => And.intro (fun h2 => ?_) (fun h2 => ?_))⟩, nofun⟩
    · exact no (ok_lt h1)
    · have ok : okN x 0 100 = true := ok_in h1 (Int32.not_lt.mpr h2)
      refine And.intro k5 (And.intro k5 (And.intro k2 (And.intro rfl (And.intro rfl (Exists.intro (6 * t) (Exists.intro S (Exists.intro n (Exists.intro H (And.intro hR.2.1 (And.intro hXS ?_))))))))))
      intro M1 g1 g2 g3
      have hR1 := RC_save hR g1 g2
      have ev : M1.1 (a + 1) 1 = S 1 := r1 hR1.1
      have z := cF_act (op := opGrace x) (r := S 1) (S' := upd S 1 x) (M2 := fw_st M1 (a + 1) 1 x) (by unfold opGrace; rw [if_pos ok]) hR g1 g2 g3 (Rep_1 hR1.1) (FX_st (by omega) (by omega)) hq
      rw [← ev] at z
      exact And.intro k5 (And.intro k1 (And.intro k5 (And.intro k1 z)))
    · exact no (ok_gt (Int32.not_le.mp h2))
  · exact h.elim
set_option maxRecDepth 100000 in
theorem wk_X5_drop (B : Nat) : fw_Wk B fl_X5 (cal_X5_drop B) [thI] cst_X5 (some .int) kX5_drop 4 (ct_X5_drop B) := by
  intro as M Q QX h
  unfold ct_X5_drop at h
  split at h
  · rename_i a c
    obtain ⟨rfl, ⟨S, n, H, tl, tx⟩, hR, hG, hJ, hq, hx⟩ := h
    obtain ⟨t, ht, ht0, hW⟩ := GZ_wf hG
    have hW : WF (6 * t) S := hW
    have ht0 : S 0 = nI t := ht0
    have hXS : XS a M (a + 1) (6 * t) S := ⟨EX_now, hR.1, hW⟩
    have hn6 : cn S ≤ 6 := hW.2.1
    have hm24 : pn S ≤ 24 := hW.2.2.2.1
    have e2 : M.1 (a + 1) 2 = nI (cn S) := (r2 hR.1).trans hW.1
    have e3 : M.1 (a + 1) 3 = nI (pn S) := (r3 hR.1).trans hW.2.2.1
    have k5 := kB (B := a)
    have k1 := kX (EX_now (B := a))
    have k2 := k163 (B := a)
    have hJ0 : J S := hJ.1
    rcases cr_dec hW c with ⟨k, hk, rfl, hc, ec⟩ | ⟨hc, hno⟩
    · have kc := kC (EX_now (B := a)) (show k < 6 by omega)
      refine ⟨rfl, [], ⟨100, And.intro k5 (And.intro k1 (And.intro EX_now (Exists.intro (cn S) (And.intro hn6 (And.intro e2 (Or.inl (Exists.intro k (And.intro hk (And.intro rfl ?_)))))))))⟩, nofun⟩
      refine And.intro k5 (And.intro k5 (And.intro k2 (And.intro rfl (And.intro rfl (Exists.intro (6 * t) (Exists.intro S (Exists.intro n (Exists.intro H (And.intro hR.2.1 (And.intro hXS ?_))))))))))
      intro M1 g1 g2 g3
      have hR1 := RC_save hR g1 g2
      have ev : M1.1 (a + 1 + 3 + k) 4 = sC S k 4 := by rw [g2 _ (Or.inl (by omega))]; exact rC hR.1 hk (by decide)
      refine And.intro kc (And.intro k5 (And.intro k1 (Exists.intro (6 * t) (Exists.intro S (Exists.intro k (And.intro ⟨EX_now, hR1.1, hW⟩ (And.intro hJ0 (And.intro hk (And.intro rfl ?_)))))))))
      intro M2 f1 f2
      have z := cF_act (op := opDrop (nI k)) (r := sC S k 4) (by unfold opDrop; rw [if_pos hc, ec]) hR g1 g2 g3 f1 f2 hq
      rw [← ev] at z
      exact z
    · refine ⟨rfl, [], ⟨100, And.intro k5 (And.intro k1 (And.intro EX_now (Exists.intro (cn S) (And.intro hn6 (And.intro e2 (Or.inr (And.intro hno ?_)))))))⟩, nofun⟩
      have z := cF_thr (k := 1) (by unfold opDrop; rw [hc, if_neg (by decide)]) (by decide) hx
      exact z
  · exact h.elim
set_option maxRecDepth 100000 in
theorem wk_X5_run (B : Nat) : fw_Wk B fl_X5 (cal_X5_run B) [thA, thS] cst_X5 (some .int) kX5_run 3 (ct_X5_run B) := by
  intro as M Q QX h
  unfold ct_X5_run at h
  split at h
  · rename_i a x
    obtain ⟨rfl, ⟨S, n, H, tl, tx⟩, hR, hG, hJ, hq, hx⟩ := h
    obtain ⟨t, ht, ht0, hW⟩ := GZ_wf hG
    have hW : WF (6 * t) S := hW
    have ht0 : S 0 = nI t := ht0
    have hXS : XS a M (a + 1) (6 * t) S := ⟨EX_now, hR.1, hW⟩
    have hn6 : cn S ≤ 6 := hW.2.1
    have hm24 : pn S ≤ 24 := hW.2.2.2.1
    have e2 : M.1 (a + 1) 2 = nI (cn S) := (r2 hR.1).trans hW.1
    have e3 : M.1 (a + 1) 3 = nI (pn S) := (r3 hR.1).trans hW.2.2.1
    have k5 := kB (B := a)
    have k1 := kX (EX_now (B := a))
    have k2 := k163 (B := a)
    have hJ0 : J S := hJ.1
    refine ⟨rfl, [], ⟨100, And.intro (fun h1 => ?_) (fun h1 => ?_)⟩, nofun⟩
    · have h1 : okN x 0 200 = true := bi_n0.mp h1
      obtain ⟨i, -, hi, rfl, ei⟩ := ok_n (a := 0) (b := 200) (by decide) (by decide) h1
      have e0 : M.1 (a + 1) 0 + nI i = nI (t + i) := by rw [r0 hR.1]; show S 0 + nI i = _; rw [ht0, n_add]
      refine And.intro k5 (And.intro k1 (And.intro (fun h2 => ?_) (fun h2 => ?_)))
      · have h2 : M.1 (a + 1) 0 + nI i ≤ nI 2000 := h2
        rw [e0, n_ge (by omega) (by decide)] at h2
        have hc2 : ¬ (2000 : Int32) < S 0 + nI i := by rw [ht0, n_add, show (2000 : Int32) = nI 2000 from rfl, n_lt (by decide) (by omega)]; omega
        refine And.intro k5 (And.intro k5 (And.intro k2 (And.intro rfl (And.intro rfl (Exists.intro (6 * t) (Exists.intro S (Exists.intro n (Exists.intro H (And.intro hR.2.1 (And.intro hXS ?_))))))))))
        intro M1 g1 g2 g3
        have hR1 := RC_save hR g1 g2
        obtain ⟨-, -, hz⟩ : True ∧ True ∧ ∀ k, 517 ≤ k → S k = 0 := ⟨trivial, trivial, by obtain ⟨_, -, -, -, z⟩ := hG.1; exact z⟩
        obtain ⟨t2, ht2, hW2⟩ := GS_wf (GS_tkN (n := i) hW ht0 hz h2)
        have en : pn (tkN S i) = pn S := pn_eq (tkN_lo (by decide) (by decide) i)
        refine And.intro k5 (And.intro k1 (Exists.intro (6 * t) (Exists.intro S (And.intro ⟨EX_now, hR1.1, hW⟩ (And.intro k5 (And.intro k1 (Exists.intro (6 * t) (Exists.intro S (Exists.intro i (And.intro (by omega) (And.intro rfl (And.intro ⟨EX_now, hR1.1, hW⟩ (And.intro hJ0 ?_)))))))))))))
        intro M2 f1 f2
        refine And.intro k5 (And.intro k1 (Exists.intro (6 * t2) (Exists.intro (tkN S i) (And.intro ⟨EX_now, f1, hW2⟩ ?_))))
        have z := cF_act (op := opRun (nI i)) (r := inSt (tkN S i) 2 (pn (tkN S i)) - inSt S 2 (pn S)) (by unfold opRun; rw [if_pos h1, if_neg (show ¬ (2000 : Int32) < (S, n, H, tl, tx).1 0 + nI i from hc2), ei, en]) hR g1 g2 g3 f1 f2 hq
        exact z
      · have h2 : ¬ M.1 (a + 1) 0 + nI i ≤ nI 2000 := h2
        rw [e0, n_ge (by omega) (by decide)] at h2
        have hc2 : (2000 : Int32) < S 0 + nI i := by rw [ht0, n_add, show (2000 : Int32) = nI 2000 from rfl, n_lt (by decide) (by omega)]; omega
        have z := cF_thr (k := 2) (by unfold opRun; rw [if_pos h1, if_pos (show (2000 : Int32) < (S, n, H, tl, tx).1 0 + nI i from hc2)]) (by decide) hx
        exact z
    · have h1 : okN x 0 200 = false := bi_0.mp h1
      have z := cF_thr (k := 1) (by unfold opRun; rw [h1, if_neg (by decide)]) (by decide) hx
      exact z
  · exact h.elim
end WF1

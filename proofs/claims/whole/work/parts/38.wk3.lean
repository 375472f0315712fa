/-! THE REFERENCE'S METHODS WALKED: the face -/
section WR3
theorem ok_n {x : Int32} {a b : Nat} (ha : a ≤ b) (hb : b < 2 ^ 31) (h : okN x (nI a) (nI b) = true) : ∃ k, a ≤ k ∧ k ≤ b ∧ x = nI k ∧ x.toNatClampNeg = k := by
  unfold okN at h
  simp only [Bool.and_eq_true, decide_eq_true_eq] at h
  obtain ⟨h1, h2⟩ := h
  have h0 : (0 : Int32) ≤ x := by
    rw [Int32.le_iff_toInt_le] at h1 ⊢
    rw [nI_toInt (by omega)] at h1
    have : (0 : Int32).toInt = 0 := by decide
    omega
  obtain ⟨k, hl, rfl⟩ := nI_of (Int32.not_lt.mpr h0)
  rw [n_ge (by omega) hl] at h1
  rw [n_ge hl hb] at h2
  exact ⟨k, h1, h2, rfl, n_cl hl⟩
theorem ok_m {x : Int32} {n : Nat} (hn : n < 2 ^ 31) (h : okN x 0 (nI n - 1) = true) : ∃ k, k < n ∧ x = nI k ∧ x.toNatClampNeg = k := by
  cases n with
  | zero =>
    exfalso
    unfold okN at h
    simp only [Bool.and_eq_true, decide_eq_true_eq] at h
    exact absurd (Int32.le_trans h.1 h.2) (by decide)
  | succ n =>
    have e : nI (n + 1) - 1 = nI n := by rw [show (1 : Int32) = nI 1 from rfl, pk_sub (by omega), Nat.add_sub_cancel]
    rw [e] at h
    obtain ⟨k, -, h2, h3, h4⟩ := ok_n (a := 0) (by omega) (by omega) h
    exact ⟨k, by omega, h3, h4⟩
theorem isCr_n {b : Nat} {S : Sx} {c : Int32} (h : WF b S) (hc : isCr S c = true) : ∃ k, k < cn S ∧ c = nI k ∧ c.toNatClampNeg = k := by
  have hn := h.2.1
  unfold isCr at hc
  rw [h.1] at hc
  exact ok_m (by omega) hc
theorem isPc_n {b : Nat} {S : Sx} {p : Int32} (h : WF b S) (hp : isPc S p = true) : ∃ k, k < pn S ∧ p = nI k ∧ p.toNatClampNeg = k := by
  have hn := h.2.2.2.1
  unfold isPc at hp
  rw [h.2.2.1] at hp
  exact ok_m (by omega) hp
theorem ctM_no {B k : Nat} {op : Op} {Z : Zs} {M : fw_M} {Q : Option Value → fw_M → Prop} {v : Int32} (e : op Z = (k, 0, Z)) (hv : v = nI k) (hR : RM B M Z)
    (h : ∀ r M', ((op Z).1 = 0 → r = (op Z).2.1) → RM B M' (op Z).2.2 → M'.1 (B + 492) 7 = nI (op Z).1 → Fr B M M' → Q (some (.int r)) M') : Q (some (.int 0)) (fw_st M (B + 492) 7 v) := by
  rw [e] at h
  exact h 0 _ (fun _ => rfl) (RM_st hR ⟨by decide, by decide⟩) (by rw [st_s]; exact hv) Fr_st
theorem ctM_yes {B : Nat} {op : Op} {Z Z' : Zs} {M M1 : fw_M} {Q : Option Value → fw_M → Prop} {r : Int32} (e : op Z = (0, r, Z')) (hR : RM B M1 Z') (hF : Fr B M M1)
    (h : ∀ r M', ((op Z).1 = 0 → r = (op Z).2.1) → RM B M' (op Z).2.2 → M'.1 (B + 492) 7 = nI (op Z).1 → Fr B M M' → Q (some (.int r)) M') : Q (some (.int r)) (fw_st M1 (B + 492) 7 0) := by
  rw [e] at h
  exact h r _ (fun _ => rfl) (RM_st hR ⟨by decide, by decide⟩) (by rw [st_s]; rfl) (Fr_tr hF Fr_st)
/-- after hold and changes of the row: the end of a call that acts -/
theorem ctM_end {B : Nat} {op : Op} {n tl : Nat} {S S' : Sx} {H : Nat → Sx} {tx : Nat → Int32} {M : fw_M} {Q : Option Value → fw_M → Prop} {QX} {r r' : Int32} {M1 : fw_M}
    (e : op (S, n, H, tl, tx) = (0, r, phZ (S, n, H, tl, tx) S')) (hR : RM B M (S, n, H, tl, tx))
    (er : r' = r) (e1 : M1 = mK B (fw_row M (B + 495) (cpN 517 S (M.1 (B + 495)))) S')
    (h : ∀ r M', ((op (S, n, H, tl, tx)).1 = 0 → r = (op (S, n, H, tl, tx)).2.1) → RM B M' (op (S, n, H, tl, tx)).2.2 → M'.1 (B + 492) 7 = nI (op (S, n, H, tl, tx)).1 → Fr B M M' → Q (some (.int r)) M') :
    ct_X6_ends B [.ref (B + 492), .int r'] M1 Q QX := by
  subst e1; subst er
  rw [e] at h
  have h1 := RM_K (S := S') (RM_row (f := cpN 517 S (M.1 (B + 495))) hR (Or.inl rfl))
  refine ⟨rfl, (S', n, H, tl, tx), S, h1, fun k hk => ?_, fun M' a1 a2 a3 => h r' M' (fun _ => rfl) a1 a2 (Fr_tr (Fr_tr (Fr_row (by decide) (by decide)) Fr_K) a3)⟩
  rw [row_n (by omega), row_1]
  unfold cpN
  rw [if_pos hk]
theorem hold_i {B : Nat} {M : fw_M} {Q : Option Value → fw_M → Prop} {QX} (h : Q none (fw_row M (B + 495) (cpN 517 (mS B M) (M.1 (B + 495))))) : ct_X6_hold B [.ref (B + 492)] M Q QX := ⟨rfl, h⟩
set_option maxRecDepth 100000 in
theorem wk_X6_setGrace (B : Nat) : fw_Wk B fl_X6 (cal_X6_setGrace B) [] cst_X6 (some .int) kX6_setGrace 3 (ct_X6_setGrace B) := by
  intro as M Q QX h
  unfold ct_X6_setGrace at h
  split at h
  · rename_i a x
    obtain ⟨rfl, ⟨S, n, H, tl, tx⟩, hR, hG, h⟩ := h
    have eS : mS B M = S := hR.1
    subst eS
    obtain ⟨t, ht, hW⟩ := GS_wf hG.1
    have hW : WF (6 * t) (mS B M) := hW
    have hn : mS B M 2 = nI (cn (mS B M)) := hW.1
    have hn6 : cn (mS B M) ≤ 6 := hW.2.1
    have hm : mS B M 3 = nI (pn (mS B M)) := hW.2.2.1
    have hm24 : pn (mS B M) ≤ 24 := hW.2.2.2.1
    refine ⟨rfl, [], ⟨80, And.intro (fun h1 => ?_) (fun h1 => ?_)⟩, nofun⟩
    · have h1 : okN x 0 100 = true := bi_n0.mp h1
      have e : opGrace x (mS B M, n, H, tl, tx) = (0, mS B M 1, phZ (mS B M, n, H, tl, tx) (upd (mS B M) 1 x)) := by unfold opGrace; rw [if_pos h1]
      refine And.intro kd_492 (And.intro rfl (And.intro kd_492 (And.intro kd_493 (And.intro (vn_493 (i := 1) (by decide)) (And.intro kd_492 (And.intro kd_493 (And.intro (vn_493 (i := 1) (by decide)) (And.intro kd_492 ?_))))))))
      refine ctM_end (QX := QX) e hR ?_ ?_ h
      · simp (disch := omega) only [cx0, cx1, cx2, cx3, cx4, px0, px1, px2, px3, px4, px5, px6, px7, pxL, pxS, n_cl, cl0, cl1, cl2, cl3, cl4, cl5, cl6, b493, b494, b495, b496, b497, row_1, row_row, st_row, upd_s, upd_n, row_n]
      · simp (disch := omega) only [cx0, cx1, cx2, cx3, cx4, px0, px1, px2, px3, px4, px5, px6, px7, pxL, pxS, n_cl, cl0, cl1, cl2, cl3, cl4, cl5, cl6, b493, b494, b495, b496, b497, row_1, row_row, st_row, upd_s, upd_n, mS_K, mK_K, row_n]
    · have h1 : okN x 0 100 = false := bi_0.mp h1
      exact And.intro kd_492 (And.intro rfl (ctM_no (by unfold opGrace; rw [if_neg (by rw [h1]; decide)]) rfl hR h))
  · exact h.elim
set_option maxRecDepth 100000 in
theorem wk_X6_setArea (B : Nat) : fw_Wk B fl_X6 (cal_X6_setArea B) [] cst_X6 (some .int) kX6_setArea 4 (ct_X6_setArea B) := by
  intro as M Q QX h
  unfold ct_X6_setArea at h
  split at h
  · rename_i a x y
    obtain ⟨rfl, ⟨S, n, H, tl, tx⟩, hR, hG, h⟩ := h
    have eS : mS B M = S := hR.1
    subst eS
    obtain ⟨t, ht, hW⟩ := GS_wf hG.1
    have hW : WF (6 * t) (mS B M) := hW
    have hn : mS B M 2 = nI (cn (mS B M)) := hW.1
    have hn6 : cn (mS B M) ≤ 6 := hW.2.1
    have hm : mS B M 3 = nI (pn (mS B M)) := hW.2.2.1
    have hm24 : pn (mS B M) ≤ 24 := hW.2.2.2.1
    refine ⟨rfl, [], ⟨80, And.intro kd_492 (And.intro rfl (And.intro (fun h1 => ?_) (fun h1 => ?_)))⟩, nofun⟩
    · have h1 : isCr (mS B M) x = true := bi_n0.mp h1
      obtain ⟨c, hc, rfl, ec⟩ := isCr_n hW h1
      refine And.intro (fun h2 => ?_) (fun h2 => ?_)
      · have h2 : okN y 0 65535 = true := bi_n0.mp h2
        have e : opArea (nI c) y (mS B M, n, H, tl, tx) = (0, sC (mS B M) c 0, phZ (mS B M, n, H, tl, tx) (uC (mS B M) c 0 y)) := by unfold opArea; rw [if_pos h1, if_pos h2, ec]
        refine And.intro kd_492 (And.intro rfl (And.intro kd_492 (And.intro rfl (And.intro (vC0 (by omega)) (And.intro kd_492 (And.intro rfl (And.intro (vC0 (by omega)) (And.intro kd_492 ?_))))))))
        refine ctM_end (QX := QX) e hR ?_ ?_ h
        · simp (disch := omega) only [cx0, cx1, cx2, cx3, cx4, px0, px1, px2, px3, px4, px5, px6, px7, pxL, pxS, n_cl, cl0, cl1, cl2, cl3, cl4, cl5, cl6, b493, b494, b495, b496, b497, row_1, row_row, st_row, upd_s, upd_n, mS_K, mK_K, row_n]
          rfl
        · simp (disch := omega) only [cx0, cx1, cx2, cx3, cx4, px0, px1, px2, px3, px4, px5, px6, px7, pxL, pxS, n_cl, cl0, cl1, cl2, cl3, cl4, cl5, cl6, b493, b494, b495, b496, b497, row_1, row_row, st_row, upd_s, upd_n, mS_K, mK_K, row_n]
          rfl
      · have h2 : okN y 0 65535 = false := bi_0.mp h2
        exact And.intro kd_492 (And.intro rfl (ctM_no (by unfold opArea; rw [if_pos h1, if_neg (by rw [h2]; decide)]) rfl hR h))
    · have h1 : isCr (mS B M) x = false := bi_0.mp h1
      exact And.intro kd_492 (And.intro rfl (ctM_no (by unfold opArea; rw [if_neg (by rw [show isCr (mS B M, n, H, tl, tx).1 x = false from h1]; decide)]) rfl hR h))
  · exact h.elim
set_option maxRecDepth 100000 in
theorem wk_X6_addCourier (B : Nat) : fw_Wk B fl_X6 (cal_X6_addCourier B) [] cst_X6 (some .int) kX6_addCourier 4 (ct_X6_addCourier B) := by
  intro as M Q QX h
  unfold ct_X6_addCourier at h
  split at h
  · rename_i a x y
    obtain ⟨rfl, ⟨S, n, H, tl, tx⟩, hR, hG, h⟩ := h
    have eS : mS B M = S := hR.1
    subst eS
    obtain ⟨t, ht, hW⟩ := GS_wf hG.1
    have hW : WF (6 * t) (mS B M) := hW
    have hn : mS B M 2 = nI (cn (mS B M)) := hW.1
    have hn6 : cn (mS B M) ≤ 6 := hW.2.1
    have hm : mS B M 3 = nI (pn (mS B M)) := hW.2.2.1
    have hm24 : pn (mS B M) ≤ 24 := hW.2.2.2.1
    have bad : ¬ (okN x 0 65535 && okN y 0 15) = true → Q (some (.int 0)) (fw_st M (B + 492) 7 1) := fun e => ctM_no (by unfold opAdd; rw [if_neg e]) rfl hR h
    refine ⟨rfl, [], ⟨120, And.intro (fun h1 => ?_) (fun h1 => And.intro (fun h2 => ?_) (fun h2 => ?_))⟩, nofun⟩
    · have h1 : okN x 0 65535 = false := bi_0.mp h1
      exact And.intro kd_492 (And.intro rfl (bad (by simp [h1])))
    · have h1 : okN x 0 65535 = true := bi_n0.mp h1
      have h2 : okN y 0 15 = true := bi_n0.mp h2
      have h12 : (okN x 0 65535 && okN y 0 15) = true := by rw [h1, h2]; rfl
      obtain ⟨z, -, hz, rfl, -⟩ := ok_n (a := 0) (b := 15) (by decide) (by decide) h2
      refine And.intro kd_492 (And.intro kd_493 (And.intro (vn_493 (i := 2) (by decide)) (And.intro (fun h3 => ?_) (fun h3 => ?_))))
      · have h3 : ¬ mS B M 2 = 6 := h3
        have e : opAdd x (nI z) (mS B M, n, H, tl, tx) = (0, mS B M 2, phZ (mS B M, n, H, tl, tx) (addS (mS B M) x (nI z))) := by unfold opAdd; rw [if_pos h12, if_neg h3]
        have hc : cn (mS B M) < 6 := by
          rcases Nat.lt_or_ge (cn (mS B M)) 6 with z | z
          · exact z
          · exact absurd (by rw [hn, show cn (mS B M) = 6 by omega]; rfl) h3
        have eN : nI (cn (mS B M)) = mS B M 2 := hn.symm
        refine And.intro kd_492 (And.intro rfl (And.intro kd_492 (And.intro kd_493 (And.intro (vn_493 (i := 2) (by decide)) ?_))))
        have e1 : mS B (fw_row M (B + 495) (cpN 517 (mS B M) (M.1 (B + 495)))) = mS B M := row_n (by omega)
        have e2 : (fw_row M (B + 495) (cpN 517 (mS B M) (M.1 (B + 495)))).1 (B + 492 + 1) ((2 : Int32)).toNatClampNeg = nI (cn (mS B M)) := by rw [← hn]; exact congrFun e1 2
        refine And.intro kd_492 (And.intro rfl (And.intro ?_ (And.intro kd_492 (And.intro rfl (And.intro ?_ (And.intro kd_492 (And.intro rfl (And.intro ?_ (And.intro kd_492 (And.intro rfl (Exists.intro (cn (mS B M)) (And.intro hc (And.intro e2 ?_)))))))))))))
        · show fw_sd (vp_in ((7 : Int32) + 5 * (fw_row M (B + 495) (cpN 517 (mS B M) (M.1 (B + 495)))).1 (B + 492 + 1) ((2 : Int32)).toNatClampNeg + 0) 517)
          rw [e2]; exact vC0 hc
        · show fw_sd (vp_in ((7 : Int32) + 5 * (fw_row M (B + 495) (cpN 517 (mS B M) (M.1 (B + 495)))).1 (B + 492 + 1) ((2 : Int32)).toNatClampNeg + 1) 517)
          rw [e2]; exact vC1 hc
        · show fw_sd (vp_in ((7 : Int32) + 5 * (fw_row M (B + 495) (cpN 517 (mS B M) (M.1 (B + 495)))).1 (B + 492 + 1) ((2 : Int32)).toNatClampNeg + 2) 517)
          rw [e2]; exact vC2 hc
        refine And.intro kd_492 (And.intro kd_493 (And.intro (vn_493 (i := 2) (by decide)) (And.intro kd_493 (And.intro (vn_493 (i := 2) (by decide)) (And.intro kd_492 ?_)))))
        refine ctM_end (QX := QX) e hR ?_ ?_ h
        · exact e2.trans hn.symm
        · have e3 : ∀ w, mS B (fw_row M (B + 495) (cpN 517 (mS B M) (M.1 (B + 495)))) w = mS B M w := fun w => congrFun e1 w
          simp (disch := omega) only [cx0, cx1, cx2, cx3, cx4, px0, px1, px2, px3, px4, px5, px6, px7, pxL, pxS, n_cl, cl0, cl1, cl2, cl3, cl4, cl5, cl6, b493, b494, b495, b496, b497, row_1, row_row, st_row, upd_s, upd_n, mS_K, mK_K, row_n, e2, hn]
          unfold addS
          refine congrArg (fun f => fw_row (fw_row M (B + 495) (cpN 517 (mS B M) (M.1 (B + 495)))) (B + 493) (upd _ 2 f)) ?_
          rw [frS_lo (by decide), upd_n (by omega), upd_n (by omega), upd_n (by omega)]
      · have h3 : mS B M 2 = 6 := h3
        exact And.intro kd_492 (And.intro rfl (ctM_no (by unfold opAdd; rw [if_pos h12, if_pos h3]) rfl hR h))
    · have h2 : okN y 0 15 = false := bi_0.mp h2
      exact And.intro kd_492 (And.intro rfl (bad (by simp [h2])))
  · exact h.elim
set_option maxRecDepth 100000 in
theorem wk_X6_drop (B : Nat) : fw_Wk B fl_X6 (cal_X6_drop B) [] cst_X6 (some .int) kX6_drop 2 (ct_X6_drop B) := by
  intro as M Q QX h
  unfold ct_X6_drop at h
  split at h
  · rename_i a x
    obtain ⟨rfl, ⟨S, n, H, tl, tx⟩, hR, hG, h⟩ := h
    have eS : mS B M = S := hR.1
    subst eS
    obtain ⟨t, ht, hW⟩ := GS_wf hG.1
    have hW : WF (6 * t) (mS B M) := hW
    have hn : mS B M 2 = nI (cn (mS B M)) := hW.1
    have hn6 : cn (mS B M) ≤ 6 := hW.2.1
    have hm : mS B M 3 = nI (pn (mS B M)) := hW.2.2.1
    have hm24 : pn (mS B M) ≤ 24 := hW.2.2.2.1
    refine ⟨rfl, [], ⟨80, And.intro kd_492 (And.intro rfl (And.intro (fun h1 => ?_) (fun h1 => ?_)))⟩, nofun⟩
    · have h1 : isCr (mS B M) x = true := bi_n0.mp h1
      obtain ⟨c, hc, rfl, ec⟩ := isCr_n hW h1
      have e : opDrop (nI c) (mS B M, n, H, tl, tx) = (0, sC (mS B M) c 4, phZ (mS B M, n, H, tl, tx) (drS (mS B M) c)) := by unfold opDrop; rw [if_pos h1, ec]
      have e1 : mS B (fw_row M (B + 495) (cpN 517 (mS B M) (M.1 (B + 495)))) = mS B M := row_n (by omega)
      refine And.intro kd_492 (And.intro rfl (And.intro kd_492 (And.intro rfl (Exists.intro (6 * t) (Exists.intro c (And.intro (by rw [e1]; exact hW) (And.intro (by rw [e1]; exact hc) (And.intro rfl (And.intro kd_492 ?_)))))))))
      refine ctM_end (QX := QX) e hR ?_ ?_ h
      · rw [e1]
      · rw [e1]
    · have h1 : isCr (mS B M) x = false := bi_0.mp h1
      exact And.intro kd_492 (And.intro rfl (ctM_no (by unfold opDrop; rw [if_neg (by rw [show isCr (mS B M, n, H, tl, tx).1 x = false from h1]; decide)]) rfl hR h))
  · exact h.elim
set_option maxRecDepth 100000 in
theorem wk_X6_run (B : Nat) : fw_Wk B fl_X6 (cal_X6_run B) [] cst_X6 (some .int) kX6_run 3 (ct_X6_run B) := by
  intro as M Q QX h
  unfold ct_X6_run at h
  split at h
  · rename_i a x
    obtain ⟨rfl, ⟨S, n, H, tl, tx⟩, hR, hG, h⟩ := h
    have eS : mS B M = S := hR.1
    subst eS
    obtain ⟨t, ht, hW⟩ := GS_wf hG.1
    have hW : WF (6 * t) (mS B M) := hW
    have hn : mS B M 2 = nI (cn (mS B M)) := hW.1
    have hn6 : cn (mS B M) ≤ 6 := hW.2.1
    have hm : mS B M 3 = nI (pn (mS B M)) := hW.2.2.1
    have hm24 : pn (mS B M) ≤ 24 := hW.2.2.2.1
    obtain ⟨t0, ht0, h0, hW0, hz0⟩ := hG.1
    have h0 : mS B M 0 = nI t0 := h0
    refine ⟨rfl, [], ⟨120, And.intro (fun h1 => ?_) (fun h1 => ?_)⟩, nofun⟩
    · have h1 : okN x 0 200 = true := bi_n0.mp h1
      obtain ⟨k, -, hk, rfl, ek⟩ := ok_n (a := 0) (b := 200) (by decide) (by decide) h1
      refine And.intro kd_492 (And.intro kd_493 (And.intro (vn_493 (i := 0) (by decide)) (And.intro (fun h2 => ?_) (fun h2 => ?_))))
      · have h2 : mS B M 0 + nI k ≤ 2000 := h2
        have e : opRun (nI k) (mS B M, n, H, tl, tx) = (0, inSt (tkN (mS B M) k) 2 (pn (mS B M)) - inSt (mS B M) 2 (pn (mS B M)), phZ (mS B M, n, H, tl, tx) (tkN (mS B M) k)) := by unfold opRun; rw [if_pos h1, if_neg (Int32.not_lt.mpr h2), ek]
        have e1 : mS B (fw_row M (B + 495) (cpN 517 (mS B M) (M.1 (B + 495)))) = mS B M := row_n (by omega)
        have e3 : tkN (mS B M) k 3 = mS B M 3 := tkN_lo (by decide) (by decide) k
        have ep : pn (tkN (mS B M) k) = pn (mS B M) := pn_eq e3
        refine And.intro kd_492 (And.intro rfl (And.intro kd_492 (And.intro rfl (And.intro (by rw [e1]; exact hm) (And.intro (by rw [e1]; exact hm24) (And.intro kd_492 (And.intro rfl ?_)))))))
        refine Exists.intro (6 * t0) (Exists.intro k (And.intro (by omega) (And.intro rfl (And.intro (by rw [e1]; exact hW0) ?_))))
        refine And.intro kd_492 (And.intro rfl (And.intro ?_ (And.intro ?_ (And.intro kd_492 ?_))))
        · rw [mS_K, e1, ep, e3]; exact hm
        · rw [mS_K, e1, ep]; exact hm24
        refine ctM_end (QX := QX) e hR ?_ ?_ h
        · show inSt (mS B (mK B _ _)) 2 (pn (mS B (mK B _ _))) - inSt (mS B _) 2 (pn (mS B _)) = _
          rw [mS_K, e1, ep]
        · rw [e1]
      · have h2 : ¬ mS B M 0 + nI k ≤ 2000 := h2
        exact And.intro kd_492 (And.intro rfl (ctM_no (by unfold opRun; rw [if_pos h1, if_pos (Int32.not_le.mp h2)]) rfl hR h))
    · have h1 : okN x 0 200 = false := bi_0.mp h1
      exact And.intro kd_492 (And.intro rfl (ctM_no (by unfold opRun; rw [if_neg (by rw [h1]; decide)]) rfl hR h))
  · exact h.elim
set_option maxRecDepth 100000 in
theorem wk_X6_give (B : Nat) : fw_Wk B fl_X6 (cal_X6_give B) [] cst_X6 (some .int) kX6_give 5 (ct_X6_give B) := by
  intro as M Q QX h
  unfold ct_X6_give at h
  split at h
  · rename_i a x y z u
    obtain ⟨rfl, ⟨S, n, H, tl, tx⟩, hR, hG, h⟩ := h
    have eS : mS B M = S := hR.1
    subst eS
    obtain ⟨t, ht, hW⟩ := GS_wf hG.1
    have hW : WF (6 * t) (mS B M) := hW
    have hn : mS B M 2 = nI (cn (mS B M)) := hW.1
    have hn6 : cn (mS B M) ≤ 6 := hW.2.1
    have hm : mS B M 3 = nI (pn (mS B M)) := hW.2.2.1
    have hm24 : pn (mS B M) ≤ 24 := hW.2.2.2.1
    have bad : ¬ (okN x 0 15 && okN y 0 15 && okN z 1 999 && okN u 0 1000 && decide (x ≠ y)) = true → Q (some (.int 0)) (fw_st M (B + 492) 7 1) := fun e => ctM_no (by unfold opGive; rw [if_neg e]) rfl hR h
    refine ⟨rfl, [], ⟨120, And.intro (fun h1 => ?_) (fun h1 => And.intro (fun h2 => ?_) (fun h2 => And.intro (fun h3 => ?_) (fun h3 => And.intro (fun h4 => ?_) (fun h4 => And.intro (fun h5 => ?_) (fun h5 => ?_)))))⟩, nofun⟩
    · have h1 : okN x 0 15 = false := bi_0.mp h1
      exact And.intro kd_492 (And.intro rfl (bad (by simp [h1])))
    · have h2 : okN y 0 15 = false := bi_0.mp h2
      exact And.intro kd_492 (And.intro rfl (bad (by simp [h2])))
    · have h3 : okN z 1 999 = false := bi_0.mp h3
      exact And.intro kd_492 (And.intro rfl (bad (by simp [h3])))
    · have h4 : okN u 0 1000 = false := bi_0.mp h4
      exact And.intro kd_492 (And.intro rfl (bad (by simp [h4])))
    · have h1 : okN x 0 15 = true := bi_n0.mp h1
      have h2 : okN y 0 15 = true := bi_n0.mp h2
      have h3 : okN z 1 999 = true := bi_n0.mp h3
      have h4 : okN u 0 1000 = true := bi_n0.mp h4
      have h5 : ¬ x = y := h5
      have hA : (okN x 0 15 && okN y 0 15 && okN z 1 999 && okN u 0 1000 && decide (x ≠ y)) = true := by simp [h1, h2, h3, h4, h5]
      refine And.intro kd_492 (And.intro kd_493 (And.intro (vn_493 (i := 3) (by decide)) (And.intro (fun h6 => ?_) (fun h6 => ?_))))
      · have h6 : ¬ mS B M 3 = 24 := h6
        have e : opGive x y z u (mS B M, n, H, tl, tx) = (0, mS B M 3, phZ (mS B M, n, H, tl, tx) (comS (mS B M) x y z u)) := by unfold opGive; rw [if_pos hA, if_neg h6]
        have hp : pn (mS B M) < 24 := by
          rcases Nat.lt_or_ge (pn (mS B M)) 24 with z | z
          · exact z
          · exact absurd (by rw [hm, show pn (mS B M) = 24 by omega]; rfl) h6
        have e1 : mS B (fw_row M (B + 495) (cpN 517 (mS B M) (M.1 (B + 495)))) = mS B M := row_n (by omega)
        refine And.intro kd_492 (And.intro rfl (And.intro kd_492 (And.intro rfl (And.intro (by rw [e1]; exact hm) (And.intro (by rw [e1]; exact hp) (And.intro kd_492 (And.intro kd_493 (And.intro (vn_493 (i := 3) (by decide)) (And.intro kd_492 ?_)))))))))
        refine ctM_end (QX := QX) e hR ?_ ?_ h
        · rw [e1]
          show mS B (mK B _ (comS (mS B M) x y z u)) 3 - 1 = _
          rw [mS_K]
          unfold comS
          rw [upd_s, Int32.add_sub_cancel]
        · rw [e1]
      · have h6 : mS B M 3 = 24 := h6
        exact And.intro kd_492 (And.intro rfl (ctM_no (by unfold opGive; rw [if_pos hA, if_pos h6]) rfl hR h))
    · have h5 : x = y := h5
      exact And.intro kd_492 (And.intro rfl (bad (by simp [h5])))
  · exact h.elim
set_option maxRecDepth 100000 in
theorem wk_X6_value (B : Nat) : fw_Wk B fl_X6 (cal_X6_value B) [] cst_X6 (some .int) kX6_value 2 (ct_X6_value B) := by
  intro as M Q QX h
  unfold ct_X6_value at h
  split at h
  · rename_i a x
    obtain ⟨rfl, ⟨S, n, H, tl, tx⟩, hR, hG, h⟩ := h
    have eS : mS B M = S := hR.1
    subst eS
    obtain ⟨t, ht, hW⟩ := GS_wf hG.1
    have hW : WF (6 * t) (mS B M) := hW
    have hn : mS B M 2 = nI (cn (mS B M)) := hW.1
    have hn6 : cn (mS B M) ≤ 6 := hW.2.1
    have hm : mS B M 3 = nI (pn (mS B M)) := hW.2.2.1
    have hm24 : pn (mS B M) ≤ 24 := hW.2.2.2.1
    refine ⟨rfl, [], ⟨120, And.intro (fun h1 => ?_) (fun h1 => ?_)⟩, nofun⟩
    · have h1 : okN x 0 10 = false := bi_0.mp h1
      exact And.intro kd_492 (And.intro rfl (ctM_no (by unfold opValue; rw [if_neg (by rw [h1]; decide)]) rfl hR h))
    · have h1 : okN x 0 10 = true := bi_n0.mp h1
      obtain ⟨w, -, hw, rfl, ew⟩ := ok_n (a := 0) (b := 10) (by decide) (by decide) h1
      exact And.intro kd_492 (And.intro rfl (And.intro hm (And.intro hm24 (Exists.intro w (And.intro hw (And.intro rfl (And.intro kd_492 (And.intro rfl (ctM_yes (by unfold opValue; rw [if_pos h1, ew]) hR Fr_id h)))))))))
  · exact h.elim
set_option maxRecDepth 100000 in
theorem wk_X6_courier (B : Nat) : fw_Wk B fl_X6 (cal_X6_courier B) [] cst_X6 (some .int) kX6_courier 3 (ct_X6_courier B) := by
  intro as M Q QX h
  unfold ct_X6_courier at h
  split at h
  · rename_i a x y
    obtain ⟨rfl, ⟨S, n, H, tl, tx⟩, hR, hG, h⟩ := h
    have eS : mS B M = S := hR.1
    subst eS
    obtain ⟨t, ht, hW⟩ := GS_wf hG.1
    have hW : WF (6 * t) (mS B M) := hW
    have hn : mS B M 2 = nI (cn (mS B M)) := hW.1
    have hn6 : cn (mS B M) ≤ 6 := hW.2.1
    have hm : mS B M 3 = nI (pn (mS B M)) := hW.2.2.1
    have hm24 : pn (mS B M) ≤ 24 := hW.2.2.2.1
    refine ⟨rfl, [], ⟨120, And.intro kd_492 (And.intro rfl (And.intro (fun h1 => ?_) (fun h1 => ?_)))⟩, nofun⟩
    · have h1 : isCr (mS B M) x = true := bi_n0.mp h1
      obtain ⟨c, hc, rfl, ec⟩ := isCr_n hW h1
      refine And.intro (fun h2 => ?_) (fun h2 => ?_)
      · have h2 : okN y 0 5 = false := bi_0.mp h2
        exact And.intro kd_492 (And.intro rfl (ctM_no (by unfold opCourier; rw [if_pos h1, if_neg (by rw [h2]; decide)]) rfl hR h))
      · have h2 : okN y 0 5 = true := bi_n0.mp h2
        obtain ⟨w, -, hw, rfl, ew⟩ := ok_n (a := 0) (b := 5) (by decide) (by decide) h2
        exact And.intro kd_492 (And.intro rfl (And.intro hm (And.intro hm24 (Exists.intro c (Exists.intro w (And.intro (by omega) (And.intro hw (And.intro rfl (And.intro rfl (And.intro kd_492 (And.intro rfl (ctM_yes (by unfold opCourier; rw [if_pos h1, if_pos h2, ec, ew]) hR Fr_id h))))))))))))
    · have h1 : isCr (mS B M) x = false := bi_0.mp h1
      exact And.intro kd_492 (And.intro rfl (ctM_no (by unfold opCourier; rw [if_neg (by rw [show isCr (mS B M, n, H, tl, tx).1 x = false from h1]; decide)]) rfl hR h))
  · exact h.elim
set_option maxRecDepth 100000 in
theorem wk_X6_parcel (B : Nat) : fw_Wk B fl_X6 (cal_X6_parcel B) [] cst_X6 (some .int) kX6_parcel 3 (ct_X6_parcel B) := by
  intro as M Q QX h
  unfold ct_X6_parcel at h
  split at h
  · rename_i a x y
    obtain ⟨rfl, ⟨S, n, H, tl, tx⟩, hR, hG, h⟩ := h
    have eS : mS B M = S := hR.1
    subst eS
    obtain ⟨t, ht, hW⟩ := GS_wf hG.1
    have hW : WF (6 * t) (mS B M) := hW
    have hn : mS B M 2 = nI (cn (mS B M)) := hW.1
    have hn6 : cn (mS B M) ≤ 6 := hW.2.1
    have hm : mS B M 3 = nI (pn (mS B M)) := hW.2.2.1
    have hm24 : pn (mS B M) ≤ 24 := hW.2.2.2.1
    refine ⟨rfl, [], ⟨120, And.intro kd_492 (And.intro rfl (And.intro (fun h1 => ?_) (fun h1 => ?_)))⟩, nofun⟩
    · have h1 : isPc (mS B M) x = true := bi_n0.mp h1
      obtain ⟨p, hp, rfl, ep⟩ := isPc_n hW h1
      refine And.intro (fun h2 => ?_) (fun h2 => ?_)
      · have h2 : okN y 0 8 = false := bi_0.mp h2
        exact And.intro kd_492 (And.intro rfl (ctM_no (by unfold opParcel; rw [if_pos h1, if_neg (by rw [h2]; decide)]) rfl hR h))
      · have h2 : okN y 0 8 = true := bi_n0.mp h2
        obtain ⟨w, -, hw, rfl, ew⟩ := ok_n (a := 0) (b := 8) (by decide) (by decide) h2
        exact And.intro kd_492 (And.intro rfl (Exists.intro p (Exists.intro w (And.intro (by omega) (And.intro hw (And.intro rfl (And.intro rfl (And.intro kd_492 (And.intro rfl (ctM_yes (by unfold opParcel; rw [if_pos h1, if_pos h2, ep, ew]) hR Fr_id h))))))))))
    · have h1 : isPc (mS B M) x = false := bi_0.mp h1
      exact And.intro kd_492 (And.intro rfl (ctM_no (by unfold opParcel; rw [if_neg (by rw [show isPc (mS B M, n, H, tl, tx).1 x = false from h1]; decide)]) rfl hR h))
  · exact h.elim
set_option maxRecDepth 100000 in
theorem wk_X6_leastRelay (B : Nat) : fw_Wk B fl_X6 (cal_X6_leastRelay B) [] cst_X6 (some .int) kX6_leastRelay 2 (ct_X6_leastRelay B) := by
  intro as M Q QX h
  unfold ct_X6_leastRelay at h
  split at h
  · rename_i a x
    obtain ⟨rfl, ⟨S, n, H, tl, tx⟩, hR, hG, h⟩ := h
    have eS : mS B M = S := hR.1
    subst eS
    obtain ⟨t, ht, hW⟩ := GS_wf hG.1
    have hW : WF (6 * t) (mS B M) := hW
    have hn : mS B M 2 = nI (cn (mS B M)) := hW.1
    have hn6 : cn (mS B M) ≤ 6 := hW.2.1
    have hm : mS B M 3 = nI (pn (mS B M)) := hW.2.2.1
    have hm24 : pn (mS B M) ≤ 24 := hW.2.2.2.1
    refine ⟨rfl, [], ⟨120, And.intro kd_492 (And.intro rfl (And.intro (fun h1 => ?_) (fun h1 => ?_)))⟩, nofun⟩
    · have h1 : isPc (mS B M) x = false := bi_0.mp h1
      exact And.intro kd_492 (And.intro rfl (ctM_no (by unfold opRelay; rw [if_neg (by rw [show isPc (mS B M, n, H, tl, tx).1 x = false from h1]; decide)]) rfl hR h))
    · have h1 : isPc (mS B M) x = true := bi_n0.mp h1
      obtain ⟨p, hp, rfl, ep⟩ := isPc_n hW h1
      exact And.intro kd_492 (And.intro rfl (Exists.intro (6 * t) (Exists.intro p (And.intro hW (And.intro hp (And.intro rfl (And.intro kd_492 (And.intro rfl (ctM_yes (by unfold opRelay; rw [if_pos h1, ep]) hR Fr_id h)))))))))
  · exact h.elim
set_option maxRecDepth 100000 in
theorem wk_X6_distance (B : Nat) : fw_Wk B fl_X6 (cal_X6_distance B) [] cst_X6 (some .int) kX6_distance 3 (ct_X6_distance B) := by
  intro as M Q QX h
  unfold ct_X6_distance at h
  split at h
  · rename_i a x y
    obtain ⟨rfl, ⟨S, n, H, tl, tx⟩, hR, hG, h⟩ := h
    have eS : mS B M = S := hR.1
    subst eS
    obtain ⟨t, ht, hW⟩ := GS_wf hG.1
    have hW : WF (6 * t) (mS B M) := hW
    have hn : mS B M 2 = nI (cn (mS B M)) := hW.1
    have hn6 : cn (mS B M) ≤ 6 := hW.2.1
    have hm : mS B M 3 = nI (pn (mS B M)) := hW.2.2.1
    have hm24 : pn (mS B M) ≤ 24 := hW.2.2.2.1
    refine ⟨rfl, [], ⟨120, And.intro (fun h1 => ?_) (fun h1 => And.intro (fun h2 => ?_) (fun h2 => ?_))⟩, nofun⟩
    · have h1 : okN x 0 15 = false := bi_0.mp h1
      exact And.intro kd_492 (And.intro rfl (ctM_no (by unfold opDist; rw [if_neg (by simp [h1])]) rfl hR h))
    · have h1 : okN x 0 15 = true := bi_n0.mp h1
      have h2 : okN y 0 15 = true := bi_n0.mp h2
      exact And.intro n4s (And.intro n4s (And.intro n4s (And.intro n4s (And.intro kd_492 (And.intro rfl (ctM_yes (r := dist x y) (by unfold opDist; rw [if_pos (by simp [h1, h2])]) hR Fr_id h))))))
    · have h2 : okN y 0 15 = false := bi_0.mp h2
      exact And.intro kd_492 (And.intro rfl (ctM_no (by unfold opDist; rw [if_neg (by simp [h2])]) rfl hR h))
  · exact h.elim
end WR3

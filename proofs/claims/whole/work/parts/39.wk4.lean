/-! THE REFERENCE'S METHODS WALKED: the face, 2 -/
section WR4
theorem dd_ok : ∀ a, a < 25 → ∀ b, b < 25 → b ≠ 0 → vf_n64 (FP.ddiv (FP.i2d (nI a)) (FP.i2d (nI b))) := by unfold vf_n64; decide +kernel
theorem endN_n (S : Sx) : ∀ p, ∃ k, k ≤ p ∧ endN S p = nI k := by
  intro p
  induction p with
  | zero => exact ⟨0, Nat.le_refl 0, rfl⟩
  | succ p ih =>
    obtain ⟨k, hk, e⟩ := ih
    unfold endN
    rw [e]
    split
    · exact ⟨k, by omega, by rw [show (0 : Int32) = nI 0 from rfl, n_add, Nat.add_zero]⟩
    · exact ⟨k + 1, by omega, by rw [nI_1]⟩
theorem gdN_n (S : Sx) : ∀ p, ∃ k, k ≤ p ∧ gdN S p = nI k := by
  intro p
  induction p with
  | zero => exact ⟨0, Nat.le_refl 0, rfl⟩
  | succ p ih =>
    obtain ⟨k, hk, e⟩ := ih
    unfold gdN
    rw [e]
    split
    · exact ⟨k + 1, by omega, by rw [nI_1]⟩
    · exact ⟨k, by omega, by rw [show (0 : Int32) = nI 0 from rfl, n_add, Nat.add_zero]⟩
set_option maxRecDepth 100000 in
theorem wk_X6_legs (B : Nat) : fw_Wk B fl_X6 (cal_X6_legs B) [] cst_X6 (some .int) kX6_legs 4 (ct_X6_legs B) := by
  intro as M Q QX h
  unfold ct_X6_legs at h
  split at h
  · rename_i a x y z
    obtain ⟨rfl, ⟨S, n, H, tl, tx⟩, hR, hG, h⟩ := h
    have eS : mS B M = S := hR.1
    subst eS
    obtain ⟨t, ht, hW⟩ := GS_wf hG.1
    have hW : WF (6 * t) (mS B M) := hW
    have hn : mS B M 2 = nI (cn (mS B M)) := hW.1
    have hn6 : cn (mS B M) ≤ 6 := hW.2.1
    have hm : mS B M 3 = nI (pn (mS B M)) := hW.2.2.1
    have hm24 : pn (mS B M) ≤ 24 := hW.2.2.2.1
    have hz0 : ∀ k, 517 ≤ k → mS B M k = 0 := by obtain ⟨_, _, _, _, z⟩ := hG.1; exact z
    refine ⟨rfl, [], ⟨120, And.intro kd_492 (And.intro rfl (And.intro (fun h1 => ?_) (fun h1 => And.intro kd_492 (And.intro rfl (And.intro (fun h2 => ?_) (fun h2 => ?_))))))⟩, nofun⟩
    · have h1 : isPc (mS B M) x = false := bi_0.mp h1
      exact And.intro kd_492 (And.intro rfl (ctM_no (by unfold opLegs; rw [if_neg (by rw [show isPc (mS B M, n, H, tl, tx).1 x = false from h1]; simp)]) rfl hR h))
    · have h1 : isPc (mS B M) x = true := bi_n0.mp h1
      have h2 : isCr (mS B M) y = true := bi_n0.mp h2
      have hA : (isPc (mS B M) x && isCr (mS B M) y) = true := by rw [h1, h2]; rfl
      obtain ⟨p, hp, rfl, ep⟩ := isPc_n hW h1
      obtain ⟨c, hc, rfl, ec⟩ := isCr_n hW h2
      refine And.intro (fun h3 => ?_) (fun h3 => ?_)
      · have h3 : z = 0 := h3
        refine And.intro kd_492 (And.intro rfl (And.intro (vPL (by omega) (by omega)) (And.intro kd_492 (And.intro rfl ?_))))
        refine ctM_yes (r := mS B M ((37 : Int32) + 20 * nI p + (8 + nI c)).toNatClampNeg) ?_ hR Fr_id h
        unfold opLegs
        rw [if_pos hA, ep, ec, if_pos h3, pxL, n_cl (by omega)]
        rfl
      · have h3 : ¬ z = 0 := h3
        refine And.intro kd_492 (And.intro rfl (And.intro (vPS (by omega) (by omega)) (And.intro kd_492 (And.intro rfl ?_))))
        refine ctM_yes (r := mS B M ((37 : Int32) + 20 * nI p + (14 + nI c)).toNatClampNeg) ?_ hR Fr_id h
        unfold opLegs
        rw [if_pos hA, ep, ec, if_neg h3, pxS, n_cl (by omega)]
        rfl
    · have h2 : isCr (mS B M) y = false := bi_0.mp h2
      exact And.intro kd_492 (And.intro rfl (ctM_no (by unfold opLegs; rw [if_neg (by rw [show isCr (mS B M, n, H, tl, tx).1 y = false from h2]; simp)]) rfl hR h))
  · exact h.elim
set_option maxRecDepth 100000 in
theorem wk_X6_suited (B : Nat) : fw_Wk B fl_X6 (cal_X6_suited B) [] cst_X6 (some .int) kX6_suited 4 (ct_X6_suited B) := by
  intro as M Q QX h
  unfold ct_X6_suited at h
  split at h
  · rename_i a x
    obtain ⟨rfl, ⟨S, n, H, tl, tx⟩, hR, hG, h⟩ := h
    have eS : mS B M = S := hR.1
    subst eS
    obtain ⟨t, ht, hW⟩ := GS_wf hG.1
    have hW : WF (6 * t) (mS B M) := hW
    have hn : mS B M 2 = nI (cn (mS B M)) := hW.1
    have hn6 : cn (mS B M) ≤ 6 := hW.2.1
    have hm : mS B M 3 = nI (pn (mS B M)) := hW.2.2.1
    have hm24 : pn (mS B M) ≤ 24 := hW.2.2.2.1
    have hz0 : ∀ k, 517 ≤ k → mS B M k = 0 := by obtain ⟨_, _, _, _, z⟩ := hG.1; exact z
    refine ⟨rfl, [(18, [true, true, true, true], fun m ls st M' => ∃ p i, isPc (mS B M) x = true ∧ p < pn (mS B M) ∧ x = nI p ∧ m = cn (mS B M) - i ∧ i ≤ cn (mS B M) ∧ (i = 0 ∨ sP (mS B M) p 4 < 2) ∧ ls = [some (.ref (B + 492)), some (.int (nI p)), some (.int (suS (mS B M) p i)), some (.int (nI i))] ∧ st = [] ∧ M' = M)], ⟨40, And.intro kd_492 (And.intro rfl (And.intro (fun h1 => ?_) (fun h1 => ?_)))⟩, ?_⟩
    · have h1 : isPc (mS B M) x = true := bi_n0.mp h1
      obtain ⟨p, hp, rfl, ep⟩ := isPc_n hW h1
      exact Exists.intro (cn (mS B M)) (Exists.intro p (Exists.intro 0 ⟨h1, hp, rfl, rfl, by omega, Or.inl rfl, rfl, rfl, rfl⟩))
    · have h1 : isPc (mS B M) x = false := bi_0.mp h1
      exact And.intro kd_492 (And.intro rfl (ctM_no (by unfold opSuited; rw [if_neg (by rw [show isPc (mS B M, n, H, tl, tx).1 x = false from h1]; decide)]) rfl hR h))
    · intro q hq m ls st M' hi
      cases List.mem_singleton.mp hq
      obtain ⟨p, i, hx, hp, rfl, rfl, hi, hs, rfl, rfl, rfl⟩ := hi
      have ep : (nI p).toNatClampNeg = p := n_cl (by omega)
      have fin : (if sP (mS B M') p 4 < 2 then suS (mS B M') p (cn (mS B M')) else 0) = suS (mS B M') p i → Q (some (.int (suS (mS B M') p i))) (fw_st M' (B + 492) 7 0) := fun e =>
        ctM_yes (by unfold opSuited; rw [if_pos hx, ep]; show (0, sus (mS B M') p, _) = _; unfold sus; rw [e]) hR Fr_id h
      refine ⟨80, And.intro kd_492 (And.intro kd_493 (And.intro (vn_493 (i := 2) (by decide)) (And.intro (fun h1 => ?_) (fun h1 => And.intro kd_492 (And.intro rfl (And.intro (vP4 (by omega)) (And.intro (fun h2 => ?_) (fun h2 => ?_))))))))⟩
      · have h1 : mS B M' 2 ≤ nI i := h1
        rw [hn, n_ge (by omega) (by omega)] at h1
        have ei : i = cn (mS B M') := by omega
        refine And.intro kd_492 (And.intro rfl (fin ?_))
        rcases hs with hs | hs
        · rw [hs] at ei ⊢
          rw [← ei]
          split <;> rfl
        · rw [if_pos hs, ← ei]
      · simp (disch := omega) only [cx0, cx1, cx2, cx3, cx4, px0, px1, px2, px3, px4, px5, px6, px7, pxL, pxS, n_cl, cl0, cl1, cl2, cl3, cl4, cl5, cl6, b493, b494, b495, b496, b497] at h2
        have h2 : (2 : Int32) ≤ sP (mS B M') p 4 := h2
        refine And.intro kd_492 (And.intro rfl (fin ?_))
        rw [if_neg (Int32.not_lt.mpr h2)]
        rcases hs with hs | hs
        · rw [hs]; rfl
        · exact absurd hs (Int32.not_lt.mpr h2)
      · have h1 : ¬ mS B M' 2 ≤ nI i := h1
        rw [hn, n_ge (by omega) (by omega)] at h1
        simp (disch := omega) only [cx0, cx1, cx2, cx3, cx4, px0, px1, px2, px3, px4, px5, px6, px7, pxL, pxS, n_cl, cl0, cl1, cl2, cl3, cl4, cl5, cl6, b493, b494, b495, b496, b497] at h2
        have h2 : sP (mS B M') p 4 < 2 := Int32.not_le.mp h2
        have key : ∀ v, suS (mS B M') p (i + 1) = suS (mS B M') p i ||| v → ∃ m', m' < cn (mS B M') - i ∧ ∃ p' i', isPc (mS B M') (nI p) = true ∧ p' < pn (mS B M') ∧ nI p = nI p' ∧ m' = cn (mS B M') - i' ∧ i' ≤ cn (mS B M') ∧ (i' = 0 ∨ sP (mS B M') p' 4 < 2) ∧ [some (Value.ref (B + 492)), some (Value.int (nI p)), some (Value.int (suS (mS B M') p i ||| v)), some (Value.int (nI i + 1))] = [some (.ref (B + 492)), some (.int (nI p')), some (.int (suS (mS B M') p' i')), some (.int (nI i'))] ∧ ([] : List Value) = [] ∧ M' = M' := fun v hv =>
          ⟨cn (mS B M') - (i + 1), by omega, p, i + 1, hx, hp, rfl, rfl, by omega, Or.inr h2, by rw [hv, nI_1], rfl, rfl⟩
        refine And.intro kd_492 (And.intro rfl (Exists.intro p (Exists.intro i (And.intro (by omega) (And.intro (by omega) (And.intro rfl (And.intro rfl (And.intro (fun h3 => ?_) (fun h3 => ?_)))))))))
        · have h3 : suit (mS B M') p i = false := bi_0.mp h3
          exact key 0 (by conv => lhs; unfold suS
                          rw [h3]; rfl)
        · have h3 : suit (mS B M') p i = true := bi_n0.mp h3
          exact key ((1 : Int32) <<< (nI i &&& 31)) (by conv => lhs; unfold suS
                                                        rw [h3]; rfl)
  · exact h.elim
set_option maxRecDepth 100000 in
theorem wk_X6_punctuality (B : Nat) : fw_Wk B fl_X6 (cal_X6_punctuality B) [] cst_X6 (some .double) kX6_punctuality 4 (ct_X6_punctuality B) := by
  intro as M Q QX h
  unfold ct_X6_punctuality at h
  split at h
  · obtain ⟨rfl, ⟨S, n, H, tl, tx⟩, hR, hG, h⟩ := h
    have eS : mS B M = S := hR.1
    subst eS
    obtain ⟨t, ht, hW⟩ := GS_wf hG.1
    have hW : WF (6 * t) (mS B M) := hW
    have hm : mS B M 3 = nI (pn (mS B M)) := hW.2.2.1
    have hm24 : pn (mS B M) ≤ 24 := hW.2.2.2.1
    have h := h (fw_st M (B + 492) 7 0) (RM_st hR ⟨by decide, by decide⟩) Fr_st
    generalize eM : fw_st M (B + 492) 7 0 = M1 at h
    have e1 : mS B M1 = mS B M := by rw [← eM]; exact st_o (by omega)
    have h : Q (some (.double (punS (mS B M1)))) M1 := by rw [e1]; exact h
    rw [← e1] at hm hm24
    generalize hN : pn (mS B M1) = N at hm hm24
    refine ⟨rfl, [(11, [true, true, true, true], fun m ls st M' => ∃ i, m = N - i ∧ i ≤ N ∧ ls = [some (.ref (B + 492)), some (.int (gdN (mS B M1) i)), some (.int (endN (mS B M1) i)), some (.int (nI i))] ∧ st = [] ∧ M' = M1)], ⟨40, And.intro kd_492 (Exists.intro N (Exists.intro 0 ⟨rfl, by omega, rfl, rfl, eM⟩))⟩, ?_⟩
    intro q hq m ls st M' hi
    cases List.mem_singleton.mp hq
    obtain ⟨i, rfl, hi, rfl, rfl, rfl⟩ := hi
    refine ⟨100, And.intro kd_492 (And.intro kd_493 (And.intro (vn_493 (i := 3) (by decide)) (And.intro (fun h1 => ?_) (fun h1 => ?_))))⟩
    · have h1 : mS B M' 3 ≤ nI i := h1
      rw [hm, n_ge (by omega) (by omega)] at h1
      have ei : i = N := by omega
      subst ei
      unfold punS at h
      rw [hN] at h
      refine And.intro (fun h2 => ?_) (fun h2 => ?_)
      · have h2 : ¬ endN (mS B M') i = 0 := h2
        rw [if_neg h2] at h
        obtain ⟨k, hk, ek⟩ := endN_n (mS B M') i
        obtain ⟨g, hg, eg⟩ := gdN_n (mS B M') i
        refine And.intro ?_ h
        show vf_n64 (FP.ddiv (FP.i2d (gdN (mS B M') i)) (FP.i2d (endN (mS B M') i)))
        rw [ek, eg]
        exact dd_ok g (by omega) k (by omega) (fun e => h2 (by rw [ek, e]; rfl))
      · have h2 : endN (mS B M') i = 0 := h2
        rw [if_pos h2] at h
        exact h
    · have h1 : ¬ mS B M' 3 ≤ nI i := h1
      rw [hm, n_ge (by omega) (by omega)] at h1
      have key : ∀ u v, endN (mS B M') (i + 1) = endN (mS B M') i + u → gdN (mS B M') (i + 1) = gdN (mS B M') i + v → ∃ m', m' < N - i ∧ ∃ i', m' = N - i' ∧ i' ≤ N ∧ [some (Value.ref (B + 492)), some (Value.int (gdN (mS B M') i + v)), some (Value.int (endN (mS B M') i + u)), some (Value.int (nI i + 1))] = [some (.ref (B + 492)), some (.int (gdN (mS B M') i')), some (.int (endN (mS B M') i')), some (.int (nI i'))] ∧ ([] : List Value) = [] ∧ M' = M' := fun u v hu hv =>
        ⟨N - (i + 1), by omega, i + 1, rfl, by omega, by rw [hu, hv, nI_1], rfl, rfl⟩
      have eE : ∀ b : Int32, (if sP (mS B M') i 4 < 2 then (0 : Int32) else 1) = b → endN (mS B M') (i + 1) = endN (mS B M') i + b := fun b hb => by rw [← hb]; rfl
      have eG : ∀ b : Int32, (if sP (mS B M') i 4 = 2 ∧ sP (mS B M') i 6 ≤ sP (mS B M') i 2 then (1 : Int32) else 0) = b → gdN (mS B M') (i + 1) = gdN (mS B M') i + b := fun b hb => by rw [← hb]; rfl
      have rest : ∀ u, endN (mS B M') (i + 1) = endN (mS B M') i + u → True := fun _ _ => trivial
      refine And.intro kd_492 (And.intro rfl (And.intro (vP4 (by omega)) (And.intro (fun h2 => ?_) (fun h2 => ?_))))
      · simp (disch := omega) only [cx0, cx1, cx2, cx3, cx4, px0, px1, px2, px3, px4, px5, px6, px7, pxL, pxS, n_cl, cl0, cl1, cl2, cl3, cl4, cl5, cl6, b493, b494, b495, b496, b497] at h2
        have h2 : sP (mS B M') i 4 < 2 := h2
        refine And.intro kd_492 (And.intro rfl (And.intro (vP4 (by omega)) (And.intro (fun h3 => ?_) (fun h3 => ?_))))
        · simp (disch := omega) only [cx0, cx1, cx2, cx3, cx4, px0, px1, px2, px3, px4, px5, px6, px7, pxL, pxS, n_cl, cl0, cl1, cl2, cl3, cl4, cl5, cl6, b493, b494, b495, b496, b497] at h3
          exact key 0 0 (eE 0 (if_pos h2)) (eG 0 (if_neg (fun e => h3 e.1)))
        · simp (disch := omega) only [cx0, cx1, cx2, cx3, cx4, px0, px1, px2, px3, px4, px5, px6, px7, pxL, pxS, n_cl, cl0, cl1, cl2, cl3, cl4, cl5, cl6, b493, b494, b495, b496, b497] at h3
          have h3 : sP (mS B M') i 4 = 2 := h3
          rw [h3] at h2
          exact absurd h2 (by decide)
      · simp (disch := omega) only [cx0, cx1, cx2, cx3, cx4, px0, px1, px2, px3, px4, px5, px6, px7, pxL, pxS, n_cl, cl0, cl1, cl2, cl3, cl4, cl5, cl6, b493, b494, b495, b496, b497] at h2
        have h2 : ¬ sP (mS B M') i 4 < 2 := h2
        refine And.intro kd_492 (And.intro rfl (And.intro (vP4 (by omega)) (And.intro (fun h3 => ?_) (fun h3 => And.intro kd_492 (And.intro rfl (And.intro (vP6 (by omega)) (And.intro kd_492 (And.intro rfl (And.intro (vP2 (by omega)) (And.intro (fun h4 => ?_) (fun h4 => ?_)))))))))))
        · simp (disch := omega) only [cx0, cx1, cx2, cx3, cx4, px0, px1, px2, px3, px4, px5, px6, px7, pxL, pxS, n_cl, cl0, cl1, cl2, cl3, cl4, cl5, cl6, b493, b494, b495, b496, b497] at h3
          exact key 1 0 (eE 1 (if_neg h2)) (eG 0 (if_neg (fun e => h3 e.1)))
        · simp (disch := omega) only [cx0, cx1, cx2, cx3, cx4, px0, px1, px2, px3, px4, px5, px6, px7, pxL, pxS, n_cl, cl0, cl1, cl2, cl3, cl4, cl5, cl6, b493, b494, b495, b496, b497] at h4
          have h4 : sP (mS B M') i 2 < sP (mS B M') i 6 := h4
          exact key 1 0 (eE 1 (if_neg h2)) (eG 0 (if_neg (fun e => Int32.not_lt.mpr e.2 h4)))
        · simp (disch := omega) only [cx0, cx1, cx2, cx3, cx4, px0, px1, px2, px3, px4, px5, px6, px7, pxL, pxS, n_cl, cl0, cl1, cl2, cl3, cl4, cl5, cl6, b493, b494, b495, b496, b497] at h3 h4
          have h4 : ¬ sP (mS B M') i 2 < sP (mS B M') i 6 := h4
          exact key 1 1 (eE 1 (if_neg h2)) (eG 1 (if_pos ⟨h3, Int32.not_lt.mp h4⟩))
  · exact h.elim
set_option maxRecDepth 100000 in
theorem wk_X6_paidIn (B : Nat) : fw_Wk B fl_X6 (cal_X6_paidIn B) [] cst_X6 (some .int) kX6_paidIn 2 (ct_X6_paidIn B) := by
  intro as M Q QX h
  unfold ct_X6_paidIn at h
  split at h
  · rename_i a x
    obtain ⟨rfl, ⟨S, n, H, tl, tx⟩, hR, hG, h⟩ := h
    have eS : mS B M = S := hR.1
    subst eS
    obtain ⟨t, ht, hW⟩ := GS_wf hG.1
    have hW : WF (6 * t) (mS B M) := hW
    have hn : mS B M 2 = nI (cn (mS B M)) := hW.1
    have hn6 : cn (mS B M) ≤ 6 := hW.2.1
    have hm : mS B M 3 = nI (pn (mS B M)) := hW.2.2.1
    have hm24 : pn (mS B M) ≤ 24 := hW.2.2.2.1
    have hz0 : ∀ k, 517 ≤ k → mS B M k = 0 := by obtain ⟨_, _, _, _, z⟩ := hG.1; exact z
    refine ⟨rfl, [], ⟨120, And.intro (fun h1 => ?_) (fun h1 => ?_)⟩, nofun⟩
    · have h1 : okN x 0 200 = false := bi_0.mp h1
      exact And.intro kd_492 (And.intro rfl (ctM_no (by unfold opPaid; rw [if_neg (by rw [h1]; decide)]) rfl hR h))
    · have h1 : okN x 0 200 = true := bi_n0.mp h1
      obtain ⟨k, -, hk, rfl, ek⟩ := ok_n (a := 0) (b := 200) (by decide) (by decide) h1
      refine And.intro kd_492 (And.intro rfl (Exists.intro (6 * t) (Exists.intro k (And.intro (by omega) (And.intro rfl (And.intro hW (And.intro hz0 ?_)))))))
      intro M' a1 a2 a3 a4
      exact And.intro kd_492 (And.intro rfl (ctM_yes (by unfold opPaid; rw [if_pos h1, ek]) (a3 _ hR) a4 h))
  · exact h.elim
set_option maxRecDepth 100000 in
theorem wk_X6_worth (B : Nat) : fw_Wk B fl_X6 (cal_X6_worth B) [] cst_X6 (some .int) kX6_worth 4 (ct_X6_worth B) := by
  intro as M Q QX h
  unfold ct_X6_worth at h
  split at h
  · rename_i a x y
    obtain ⟨rfl, ⟨S, n, H, tl, tx⟩, hR, hG, h⟩ := h
    have eS : mS B M = S := hR.1
    subst eS
    obtain ⟨t, ht, hW⟩ := GS_wf hG.1
    have hW : WF (6 * t) (mS B M) := hW
    have hn : mS B M 2 = nI (cn (mS B M)) := hW.1
    have hn6 : cn (mS B M) ≤ 6 := hW.2.1
    have hm : mS B M 3 = nI (pn (mS B M)) := hW.2.2.1
    have hm24 : pn (mS B M) ≤ 24 := hW.2.2.2.1
    have hz0 : ∀ k, 517 ≤ k → mS B M k = 0 := by obtain ⟨_, _, _, _, z⟩ := hG.1; exact z
    refine ⟨rfl, [], ⟨160, And.intro kd_492 (And.intro rfl (And.intro (fun h1 => ?_) (fun h1 => ?_)))⟩, nofun⟩
    · have h1 : isCr (mS B M) x = true := bi_n0.mp h1
      obtain ⟨c, hc, rfl, ec⟩ := isCr_n hW h1
      refine And.intro (fun h2 => ?_) (fun h2 => ?_)
      · have h2 : okN y 0 200 = true := bi_n0.mp h2
        obtain ⟨k, -, hk, rfl, ek⟩ := ok_n (a := 0) (b := 200) (by decide) (by decide) h2
        have e : opWorth (nI c) (nI k) (mS B M, n, H, tl, tx) = (0, payN (mS B M) k - payN (rtS (mS B M) c) k, (mS B M, n, H, tl, tx)) := by unfold opWorth; rw [if_pos h1, if_pos h2, ec, ek]
        have hD : WF (6 * t) (rtS (mS B M) c) := WF_area (WF_dr hW hc) (by omega)
        refine And.intro kd_492 (And.intro rfl (Exists.intro (6 * t) (Exists.intro k (And.intro (by omega) (And.intro rfl (And.intro hW (And.intro hz0 ?_)))))))
        intro M' a1 a2 a3 a4
        refine And.intro kd_492 (And.intro rfl (Exists.intro (6 * t) (Exists.intro c (And.intro (by rw [a1]; exact hW) (And.intro (by rw [a1]; exact hc) (And.intro rfl ?_))))))
        refine And.intro kd_492 (And.intro rfl (And.intro (vC0 (by omega)) ?_))
        have e1 : mK B (mK B M' (drS (mS B M') c)) (upd (mS B (mK B M' (drS (mS B M') c))) ((7 : Int32) + 5 * nI c + 0).toNatClampNeg 0) = mK B M' (rtS (mS B M) c) := by
          rw [mS_K, mK_K, a1, cx0, n_cl (by omega)]
          rfl
        refine And.intro kd_492 (And.intro rfl (Exists.intro (6 * t) (Exists.intro k (Exists.intro (mS B M) (And.intro (by omega) (And.intro rfl (And.intro ?_ (And.intro (fun j hj => ?_) (And.intro (fun j hj => ?_) (And.intro kd_492 (And.intro rfl ?_)))))))))))
        · show WF (6 * t) (mS B (mK B (mK B M' (drS (mS B M') c)) (upd (mS B (mK B M' (drS (mS B M') c))) ((7 : Int32) + 5 * nI c + 0).toNatClampNeg 0)))
          rw [e1, mS_K]
          exact hD
        · show (mK B (mK B M' (drS (mS B M') c)) (upd (mS B (mK B M' (drS (mS B M') c))) ((7 : Int32) + 5 * nI c + 0).toNatClampNeg 0)).1 (B + 496) j = _
          rw [e1, row_n (by omega)]
          exact a2 j hj
        · show mS B (mK B (mK B M' (drS (mS B M') c)) (upd (mS B (mK B M' (drS (mS B M') c))) ((7 : Int32) + 5 * nI c + 0).toNatClampNeg 0)) j = 0 ∧ _
          rw [e1, mS_K]
          refine ⟨?_, hz0 j hj⟩
          unfold rtS
          rw [uC_hi (by omega) (by decide) hj, drS_hi hW hc hj]
          exact hz0 j hj
        · show Q (some (.int (payN (mS B M) k - payN (mS B (mK B (mK B M' (drS (mS B M') c)) (upd (mS B (mK B M' (drS (mS B M') c))) ((7 : Int32) + 5 * nI c + 0).toNatClampNeg 0))) k))) (fw_st (mK B (mK B (mK B M' (drS (mS B M') c)) (upd (mS B (mK B M' (drS (mS B M') c))) ((7 : Int32) + 5 * nI c + 0).toNatClampNeg 0)) (mS B M)) (B + 492) 7 0)
          rw [e1, mS_K, mK_K, ← a1, mK_S, a1]
          exact ctM_yes e (a3 _ hR) a4 h
      · have h2 : okN y 0 200 = false := bi_0.mp h2
        exact And.intro kd_492 (And.intro rfl (ctM_no (by unfold opWorth; rw [if_pos h1, if_neg (by rw [h2]; decide)]) rfl hR h))
    · have h1 : isCr (mS B M) x = false := bi_0.mp h1
      exact And.intro kd_492 (And.intro rfl (ctM_no (by unfold opWorth; rw [if_neg (by rw [show isCr (mS B M, n, H, tl, tx).1 x = false from h1]; decide)]) rfl hR h))
  · exact h.elim
set_option maxRecDepth 100000 in
theorem wk_X6_bestZone (B : Nat) : fw_Wk B fl_X6 (cal_X6_bestZone B) [] cst_X6 (some .int) kX6_bestZone 7 (ct_X6_bestZone B) := by
  intro as M Q QX h
  unfold ct_X6_bestZone at h
  split at h
  · rename_i a x y
    obtain ⟨rfl, ⟨S, n, H, tl, tx⟩, hR, hG, h⟩ := h
    have eS : mS B M = S := hR.1
    subst eS
    obtain ⟨t, ht, hW⟩ := GS_wf hG.1
    have hW : WF (6 * t) (mS B M) := hW
    have hn : mS B M 2 = nI (cn (mS B M)) := hW.1
    have hn6 : cn (mS B M) ≤ 6 := hW.2.1
    have hm : mS B M 3 = nI (pn (mS B M)) := hW.2.2.1
    have hm24 : pn (mS B M) ≤ 24 := hW.2.2.2.1
    have hz0 : ∀ k, 517 ≤ k → mS B M k = 0 := by obtain ⟨_, _, _, _, z⟩ := hG.1; exact z
    refine ⟨rfl, [(39, [true, true, true, true, true, true, false], fun m ls st M' => ∃ c k z, isCr (mS B M) x = true ∧ okN y 0 200 = true ∧ c < cn (mS B M) ∧ k ≤ 200 ∧ x = nI c ∧ y = nI k ∧ m = 16 - z ∧ z ≤ 16 ∧ ls = [some (.ref (B + 492)), some (.int (nI c)), some (.int (nI k)), some (.int (bzL (mS B M) c k z).2), some (.int (bzL (mS B M) c k z).1), some (.int (nI z)), none] ∧ st = [] ∧ mS B M' = mS B M ∧ (∀ j, j < 517 → M'.1 (B + 496) j = mS B M j) ∧ RM B M' (mS B M, n, H, tl, tx) ∧ Fr B M M')], ⟨160, And.intro kd_492 (And.intro rfl (And.intro (fun h1 => ?_) (fun h1 => ?_)))⟩, ?_⟩
    · have h1 : isCr (mS B M) x = true := bi_n0.mp h1
      obtain ⟨c, hc, rfl, ec⟩ := isCr_n hW h1
      refine And.intro (fun h2 => ?_) (fun h2 => ?_)
      · have h2 : okN y 0 200 = true := bi_n0.mp h2
        obtain ⟨k, -, hk, rfl, ek⟩ := ok_n (a := 0) (b := 200) (by decide) (by decide) h2
        refine And.intro kd_492 (And.intro rfl (Exists.intro (6 * t) (Exists.intro k (And.intro (by omega) (And.intro rfl (And.intro hW (And.intro hz0 ?_)))))))
        intro M' a1 a2 a3 a4
        exact Exists.intro 16 (Exists.intro c (Exists.intro k (Exists.intro 0 ⟨h1, h2, hc, hk, rfl, rfl, rfl, by omega, rfl, rfl, a1, a2, a3 _ hR, a4⟩)))
      · have h2 : okN y 0 200 = false := bi_0.mp h2
        exact And.intro kd_492 (And.intro rfl (ctM_no (by unfold opBest; rw [if_pos h1, if_neg (by rw [h2]; decide)]) rfl hR h))
    · have h1 : isCr (mS B M) x = false := bi_0.mp h1
      exact And.intro kd_492 (And.intro rfl (ctM_no (by unfold opBest; rw [if_neg (by rw [show isCr (mS B M, n, H, tl, tx).1 x = false from h1]; decide)]) rfl hR h))
    · intro q hq m ls st M' hi
      cases List.mem_singleton.mp hq
      obtain ⟨c, k, z, hx, hy, hc, hk, rfl, rfl, rfl, hz, rfl, rfl, a1, a2, a3, a4⟩ := hi
      have ec : (nI c).toNatClampNeg = c := n_cl (by omega)
      have ek : (nI k).toNatClampNeg = k := n_cl (by omega)
      refine ⟨160, And.intro (fun h1 => ?_) (fun h1 => ?_)⟩
      · have h1 : nI 16 ≤ nI z := h1
        rw [n_ge (by decide) (by omega)] at h1
        have ez : z = 16 := by omega
        subst ez
        exact And.intro kd_492 (And.intro rfl (ctM_yes (by unfold opBest; rw [if_pos hx, if_pos hy, ec, ek]) a3 a4 h))
      · have h1 : ¬ nI 16 ≤ nI z := h1
        rw [n_ge (by decide) (by omega)] at h1
        have key : ∀ M'' u v w, M'' = M' → w = none → bzL (mS B M) c k (z + 1) = (u, v) → ∃ m', m' < 16 - z ∧ ∃ c' k' z', isCr (mS B M) (nI c) = true ∧ okN (nI k) 0 200 = true ∧ c' < cn (mS B M) ∧ k' ≤ 200 ∧ nI c = nI c' ∧ nI k = nI k' ∧ m' = 16 - z' ∧ z' ≤ 16 ∧ ([some (.ref (B + 492)), some (.int (nI c)), some (.int (nI k)), some (.int v), some (.int u), some (.int (nI z + 1)), w] : fw_L) = [some (.ref (B + 492)), some (.int (nI c')), some (.int (nI k')), some (.int (bzL (mS B M) c' k' z').2), some (.int (bzL (mS B M) c' k' z').1), some (.int (nI z')), none] ∧ ([] : List Value) = [] ∧ mS B M'' = mS B M ∧ (∀ j, j < 517 → M''.1 (B + 496) j = mS B M j) ∧ RM B M'' (mS B M, n, H, tl, tx) ∧ Fr B M M'' := by
          rintro M'' u v w rfl rfl hb
          exact ⟨16 - (z + 1), by omega, c, k, z + 1, hx, hy, hc, hk, rfl, rfl, rfl, by omega, by rw [hb, nI_1], rfl, a1, a2, a3, a4⟩
        refine And.intro kd_492 (And.intro rfl (Exists.intro c (And.intro (by omega) (And.intro rfl (And.intro (fun h2 => ?_) (fun h2 => ?_))))))
        · have h2 : hs (sC (mS B M') c 0) (nI z) = true := bi_n0.mp h2
          refine key M' _ _ none rfl rfl ?_
          conv => lhs; unfold bzL
          rw [← a1, if_pos h2]
        · have h2 : ¬ hs (sC (mS B M') c 0) (nI z) = true := by rw [bi_0.mp h2]; decide
          rw [a1] at h2
          refine And.intro kd_492 (And.intro rfl (And.intro (vC0 (by omega)) (And.intro kd_492 (And.intro rfl (And.intro (vC0 (by omega)) ?_)))))
          have e1 : mK B M' (upd (mS B M') ((7 : Int32) + 5 * nI c + 0).toNatClampNeg (mS B M' ((7 : Int32) + 5 * nI c + 0).toNatClampNeg ||| (1 : Int32) <<< (nI z &&& 31))) = mK B M' (wdS (mS B M) c z) := by
            rw [a1, cx0, n_cl (by omega)]
            rfl
          have hD : WF (6 * t) (wdS (mS B M) c z) := WF_area hW (by omega)
          refine And.intro kd_492 (And.intro rfl (Exists.intro (6 * t) (Exists.intro k (Exists.intro (mS B M) (And.intro (by omega) (And.intro rfl (And.intro ?_ (And.intro (fun j hj => ?_) (And.intro (fun j hj => ?_) ?_)))))))))
          · show WF (6 * t) (mS B (mK B M' (upd (mS B M') ((7 : Int32) + 5 * nI c + 0).toNatClampNeg (mS B M' ((7 : Int32) + 5 * nI c + 0).toNatClampNeg ||| (1 : Int32) <<< (nI z &&& 31)))))
            rw [e1, mS_K]
            exact hD
          · show (mK B M' (upd (mS B M') ((7 : Int32) + 5 * nI c + 0).toNatClampNeg (mS B M' ((7 : Int32) + 5 * nI c + 0).toNatClampNeg ||| (1 : Int32) <<< (nI z &&& 31)))).1 (B + 496) j = _
            rw [row_n (by omega)]
            exact a2 j hj
          · show mS B (mK B M' (upd (mS B M') ((7 : Int32) + 5 * nI c + 0).toNatClampNeg (mS B M' ((7 : Int32) + 5 * nI c + 0).toNatClampNeg ||| (1 : Int32) <<< (nI z &&& 31)))) j = 0 ∧ _
            rw [e1, mS_K]
            refine ⟨?_, hz0 j hj⟩
            unfold wdS
            rw [uC_hi (by omega) (by decide) hj]
            exact hz0 j hj
          have e2 : mK B (mK B M' (upd (mS B M') ((7 : Int32) + 5 * nI c + 0).toNatClampNeg (mS B M' ((7 : Int32) + 5 * nI c + 0).toNatClampNeg ||| (1 : Int32) <<< (nI z &&& 31)))) (mS B M) = M' := by
            rw [mK_K, ← a1, mK_S]
          have e3 : payN (mS B (mK B M' (upd (mS B M') ((7 : Int32) + 5 * nI c + 0).toNatClampNeg (mS B M' ((7 : Int32) + 5 * nI c + 0).toNatClampNeg ||| (1 : Int32) <<< (nI z &&& 31))))) k = payN (wdS (mS B M) c z) k := by rw [e1, mS_K]
          have hb : ∀ u v, (if (bzL (mS B M) c k z).2 < payN (wdS (mS B M) c z) k then (nI z, payN (wdS (mS B M) c z) k) else bzL (mS B M) c k z) = (u, v) → bzL (mS B M) c k (z + 1) = (u, v) := fun u v hv => by
            conv => lhs; unfold bzL
            rw [if_neg h2]
            exact hv
          refine And.intro (fun h3 => ?_) (fun h3 => ?_)
          · have h3 : payN (mS B (mK B M' (upd (mS B M') ((7 : Int32) + 5 * nI c + 0).toNatClampNeg (mS B M' ((7 : Int32) + 5 * nI c + 0).toNatClampNeg ||| (1 : Int32) <<< (nI z &&& 31))))) k ≤ (bzL (mS B M) c k z).2 := h3
            refine And.intro (fun _ => ?_) (fun h4 => absurd h3 h4)
            rw [e3] at h3
            exact key _ _ _ none e2 rfl (hb _ _ (if_neg (Int32.not_lt.mpr h3)))
          · have h3 : ¬ payN (mS B (mK B M' (upd (mS B M') ((7 : Int32) + 5 * nI c + 0).toNatClampNeg (mS B M' ((7 : Int32) + 5 * nI c + 0).toNatClampNeg ||| (1 : Int32) <<< (nI z &&& 31))))) k ≤ (bzL (mS B M) c k z).2 := h3
            refine And.intro (fun h4 => absurd h4 h3) (fun _ => ?_)
            have h3' := h3
            rw [e3] at h3'
            refine key _ _ _ none e2 rfl (hb _ _ ?_)
            rw [if_pos (Int32.not_le.mp h3')]
            exact congrArg (fun v => (nI z, v)) e3.symm
  · exact h.elim
set_option maxRecDepth 100000 in
theorem wk_X6_doneIn (B : Nat) : fw_Wk B fl_X6 (cal_X6_doneIn B) [] cst_X6 (some .int) kX6_doneIn 3 (ct_X6_doneIn B) := by
  intro as M Q QX h
  unfold ct_X6_doneIn at h
  split at h
  · rename_i a 
    obtain ⟨rfl, ⟨S, n, H, tl, tx⟩, hR, hG, h⟩ := h
    have eS : mS B M = S := hR.1
    subst eS
    obtain ⟨t, ht, hW⟩ := GS_wf hG.1
    have hW : WF (6 * t) (mS B M) := hW
    have hn : mS B M 2 = nI (cn (mS B M)) := hW.1
    have hn6 : cn (mS B M) ≤ 6 := hW.2.1
    have hm : mS B M 3 = nI (pn (mS B M)) := hW.2.2.1
    have hm24 : pn (mS B M) ≤ 24 := hW.2.2.2.1
    have hz0 : ∀ k, 517 ≤ k → mS B M k = 0 := by obtain ⟨_, _, _, _, z⟩ := hG.1; exact z
    have e1 : mS B (fw_row M (B + 496) (cpN 517 (M.1 (B + 493)) (M.1 (B + 496)))) = mS B M := row_n (by omega)
    have hR1 := RM_row (f := cpN 517 (M.1 (B + 493)) (M.1 (B + 496))) hR (Or.inr rfl)
    have hF1 : Fr B M (fw_row M (B + 496) (cpN 517 (M.1 (B + 493)) (M.1 (B + 496)))) := Fr_row (by decide) (by decide)
    have hk1 : ∀ j, j < 517 → (fw_row M (B + 496) (cpN 517 (M.1 (B + 493)) (M.1 (B + 496)))).1 (B + 496) j = mS B M j := fun j hj => by rw [row_1]; unfold cpN; rw [if_pos hj]
    have hne : B + 496 ≠ B + 493 := by omega
    have hne' : B + 493 ≠ B + 496 := by omega
    generalize eM1 : fw_row M (B + 496) (cpN 517 (M.1 (B + 493)) (M.1 (B + 496))) = M1 at e1 hR1 hF1 hk1
    refine ⟨rfl, [(13, [true, true, false], fun m ls st M' => ∃ i, m = 1200 - i ∧ i ≤ 1200 ∧ dnF (mS B M) 1200 0 = dnF (mS B M) (1200 - i) i ∧ ls = [some (.ref (B + 492)), some (.int (nI i)), none] ∧ st = [] ∧ M' = mK B M1 (tkN (mS B M) i))], ⟨160, ?_⟩, ?_⟩
    · refine And.intro kd_492 (And.intro kd_492 (And.intro kd_496 (And.intro kd_493 (And.intro ln_496 (And.intro ln_493 (And.intro hne ?_))))))
      refine Exists.intro 1200 (Exists.intro 0 ⟨rfl, by omega, rfl, rfl, rfl, ?_⟩)
      refine Eq.trans eM1 ?_
      show M1 = mK B M1 (mS B M)
      rw [← e1, mK_S]
    · intro q hq m ls st M' hi
      cases List.mem_singleton.mp hq
      obtain ⟨i, rfl, hi, hd, rfl, rfl, rfl⟩ := hi
      have e3 : tkN (mS B M) i 3 = mS B M 3 := tkN_lo (by decide) (by decide) i
      have ep : pn (tkN (mS B M) i) = pn (mS B M) := pn_eq e3
      have em : mS B (mK B M1 (tkN (mS B M) i)) 3 = nI (pn (mS B (mK B M1 (tkN (mS B M) i)))) := by rw [mS_K, ep, e3]; exact hm
      have em24 : pn (mS B (mK B M1 (tkN (mS B M) i))) ≤ 24 := by rw [mS_K, ep]; exact hm24
      have back : fw_row (mK B M1 (tkN (mS B M) i)) (B + 493) (cpN 517 ((mK B M1 (tkN (mS B M) i)).1 (B + 496)) (mS B (mK B M1 (tkN (mS B M) i)))) = M1 := by
        rw [row_row, row_n (by omega), mS_K]
        have e : cpN 517 (M1.1 (B + 496)) (tkN (mS B M) i) = mS B M1 := by
          funext k
          rw [e1]
          unfold cpN
          by_cases g : k < 517
          · rw [if_pos g]; exact hk1 k g
          · rw [if_neg g, tkN_hi hW (by omega)]
        rw [e, row_self]
      have stop : dnF (mS B M) 1200 0 = (if dnB (tkN (mS B M) i) = true then nI i else -1) → ∀ M2, M2 = M1 → Q (some (.int (if dnB (tkN (mS B M) i) = true then nI i else -1))) (fw_st M2 (B + 492) 7 0) := by
        rintro e M2 rfl
        exact ctM_yes (by unfold opDone; rw [e]) hR1 hF1 h
      refine ⟨160, And.intro (fun h1 => ?_) (fun h1 => And.intro kd_492 (And.intro rfl (And.intro em (And.intro em24 (And.intro (fun h2 => ?_) (fun h2 => ?_))))))⟩
      · have h1 : nI 1200 ≤ nI i := h1
        rw [n_ge (by decide) (by omega)] at h1
        have ei : i = 1200 := by omega
        have e := stop (by rw [hd, ei]; rfl)
        refine And.intro kd_492 (And.intro rfl (And.intro em (And.intro em24 ?_)))
        refine And.intro kd_492 (And.intro kd_492 (And.intro kd_493 (And.intro kd_496 (And.intro ln_493 (And.intro ln_496 (And.intro hne' ?_))))))
        refine And.intro (fun h3 => ?_) (fun h3 => ?_)
        · have h3 := bi_0.mp h3
          rw [mS_K] at h3
          rw [if_neg (by rw [h3]; decide)] at e
          exact And.intro kd_492 (And.intro rfl (e _ back))
        · have h3 := bi_n0.mp h3
          rw [mS_K] at h3
          rw [if_pos h3] at e
          exact And.intro kd_492 (And.intro rfl (e _ back))
      · have h2 := bi_n0.mp h2
        rw [mS_K] at h2
        have e := stop (by rw [hd, if_pos h2]; cases (1200 - i) <;> (unfold dnF; rw [if_pos h2]))
        rw [if_pos h2] at e
        refine And.intro kd_492 (And.intro rfl (And.intro em (And.intro em24 ?_)))
        refine And.intro kd_492 (And.intro kd_492 (And.intro kd_493 (And.intro kd_496 (And.intro ln_493 (And.intro ln_496 (And.intro hne' ?_))))))
        refine And.intro (fun h3 => ?_) (fun h3 => ?_)
        · have h3 := bi_0.mp h3
          rw [mS_K, h2] at h3
          exact absurd h3 (by decide)
        · exact And.intro kd_492 (And.intro rfl (e _ back))
      · have h1 : ¬ nI 1200 ≤ nI i := h1
        rw [n_ge (by decide) (by omega)] at h1
        have h2 := bi_0.mp h2
        rw [mS_K] at h2
        refine And.intro kd_492 (And.intro rfl (Exists.intro (6 * t + 6 * i) (And.intro (by omega) (And.intro (by rw [mS_K]; exact WF_tkN hW i) ?_))))
        refine Exists.intro (1200 - (i + 1)) (And.intro (by omega) (Exists.intro (i + 1) ⟨rfl, by omega, ?_, ?_, rfl, ?_⟩))
        · rw [hd, show 1200 - i = (1200 - (i + 1)) + 1 by omega]
          conv => lhs; unfold dnF
          rw [if_neg (by rw [h2]; decide)]
        · show [some (Value.ref (B + 492)), some (Value.int (nI i + 1)), none] = _
          rw [nI_1]
        · show mK B (mK B M1 (tkN (mS B M) i)) (tickS (mS B (mK B M1 (tkN (mS B M) i)))) = _
          rw [mS_K, mK_K]
          rfl
  · exact h.elim
set_option maxRecDepth 100000 in
theorem wk_X6_append (B : Nat) : fw_Wk B fl_X6 (cal_X6_append B) [] cst_X6 (some .int) kX6_append 2 (ct_X6_append B) := by
  intro as M Q QX h
  unfold ct_X6_append at h
  split at h
  · rename_i a x
    obtain ⟨rfl, ⟨S, n, H, tl, tx⟩, hR, hG, h⟩ := h
    have eS : mS B M = S := hR.1
    subst eS
    obtain ⟨t, ht, hW⟩ := GS_wf hG.1
    have hW : WF (6 * t) (mS B M) := hW
    have hn : mS B M 2 = nI (cn (mS B M)) := hW.1
    have hn6 : cn (mS B M) ≤ 6 := hW.2.1
    have hm : mS B M 3 = nI (pn (mS B M)) := hW.2.2.1
    have hm24 : pn (mS B M) ≤ 24 := hW.2.2.2.1
    have hz0 : ∀ k, 517 ≤ k → mS B M k = 0 := by obtain ⟨_, _, _, _, z⟩ := hG.1; exact z
    have ht6 : M.1 (B + 492) 6 = nI tl := hR.2.2.2.2.1
    have htl : tl ≤ 150 := hR.2.2.2.2.2.1
    refine ⟨rfl, [], ⟨160, And.intro (fun h1 => ?_) (fun h1 => ?_)⟩, nofun⟩
    · have h1 : okN x 0 127 = true := bi_n0.mp h1
      refine And.intro kd_492 (And.intro (fun h2 => ?_) (fun h2 => ?_))
      · have h2 : ¬ M.1 (B + 492) 6 = nI 150 := h2
        rw [ht6, nI_eq (by omega) (by decide)] at h2
        have e : opAppend x (mS B M, n, H, tl, tx) = (0, nI (tl + 1), (mS B M, n, H, tl + 1, upd tx tl x)) := by unfold opAppend; rw [if_pos h1, if_neg h2]
        refine And.intro kd_492 (And.intro kd_492 (And.intro kd_497 (And.intro ?_ (And.intro kd_492 (And.intro kd_492 (And.intro kd_492 (And.intro kd_492 (And.intro rfl ?_))))))))
        · show fw_sd (vp_in (M.1 (B + 492) 6) (fw_len B (B + 497)))
          rw [ht6, ln_497]; exact vn_i (by omega) (by decide)
        · show Q (some (.int ((fw_st (fw_st M (B + 497) (M.1 (B + 492) 6).toNatClampNeg x) (B + 492) 6 ((fw_st M (B + 497) (M.1 (B + 492) 6).toNatClampNeg x).1 (B + 492) 6 + 1)).1 (B + 492) 6))) (fw_st (fw_st (fw_st M (B + 497) (M.1 (B + 492) 6).toNatClampNeg x) (B + 492) 6 ((fw_st M (B + 497) (M.1 (B + 492) 6).toNatClampNeg x).1 (B + 492) 6 + 1)) (B + 492) 7 0)
          rw [st_s, st_o (by omega), ht6, n_cl (by omega), nI_1]
          refine ctM_yes e ?_ (Fr_tr (Fr_row (by decide) (by decide)) Fr_st) h
          obtain ⟨g1, g2, g3, g4, g5, g6, g7⟩ := hR
          refine ⟨?_, ?_, g3, fun i hi k hk => ?_, st_s, by show tl + 1 ≤ 150; omega, fun k hk => ?_⟩
          · rw [st_o (by omega), st_o (by omega)]
          · rw [st_n (by decide), st_o (by omega)]; exact g2
          · rw [st_o (by omega), st_o (by omega)]; exact g4 i hi k hk
          · have hk : k < tl + 1 := hk
            rw [st_o (by omega), st_row, row_1]
            show upd (M.1 (B + 497)) tl x k = upd tx tl x k
            unfold upd
            by_cases e9 : k = tl
            · rw [if_pos e9, if_pos e9]
            · rw [if_neg e9, if_neg e9]; exact g7 k (by show k < tl; omega)
      · have h2 : M.1 (B + 492) 6 = nI 150 := h2
        rw [ht6, nI_eq (by omega) (by decide)] at h2
        exact And.intro kd_492 (And.intro rfl (ctM_no (by unfold opAppend; rw [if_pos h1, if_pos h2]) rfl hR h))
    · have h1 : okN x 0 127 = false := bi_0.mp h1
      exact And.intro kd_492 (And.intro rfl (ctM_no (by unfold opAppend; rw [if_neg (by rw [h1]; decide)]) rfl hR h))
  · exact h.elim
set_option maxRecDepth 100000 in
theorem wk_X6_clearText (B : Nat) : fw_Wk B fl_X6 (cal_X6_clearText B) [] cst_X6 (some .int) kX6_clearText 2 (ct_X6_clearText B) := by
  intro as M Q QX h
  unfold ct_X6_clearText at h
  split at h
  · rename_i a 
    obtain ⟨rfl, ⟨S, n, H, tl, tx⟩, hR, hG, h⟩ := h
    have eS : mS B M = S := hR.1
    subst eS
    obtain ⟨t, ht, hW⟩ := GS_wf hG.1
    have hW : WF (6 * t) (mS B M) := hW
    have hn : mS B M 2 = nI (cn (mS B M)) := hW.1
    have hn6 : cn (mS B M) ≤ 6 := hW.2.1
    have hm : mS B M 3 = nI (pn (mS B M)) := hW.2.2.1
    have hm24 : pn (mS B M) ≤ 24 := hW.2.2.2.1
    have hz0 : ∀ k, 517 ≤ k → mS B M k = 0 := by obtain ⟨_, _, _, _, z⟩ := hG.1; exact z
    have ht6 : M.1 (B + 492) 6 = nI tl := hR.2.2.2.2.1
    refine ⟨rfl, [], ⟨60, And.intro kd_492 (And.intro kd_492 (And.intro kd_492 (And.intro rfl ?_)))⟩, nofun⟩
    show Q (some (.int (M.1 (B + 492) 6))) (fw_st (fw_st M (B + 492) 6 0) (B + 492) 7 0)
    rw [ht6]
    refine ctM_yes (Z' := (mS B M, n, H, 0, tx)) (by unfold opClear; rfl) ?_ Fr_st h
    obtain ⟨g1, g2, g3, g4, g5, g6, g7⟩ := hR
    refine ⟨?_, ?_, g3, fun i hi k hk => ?_, st_s, Nat.zero_le _, fun k hk => absurd hk (Nat.not_lt_zero k)⟩
    · rw [st_o (by omega)]
    · rw [st_n (by decide)]; exact g2
    · rw [st_o (by omega)]; exact g4 i hi k hk
  · exact h.elim
set_option maxRecDepth 100000 in
theorem wk_X6_undo (B : Nat) : fw_Wk B fl_X6 (cal_X6_undo B) [] cst_X6 (some .int) kX6_undo 2 (ct_X6_undo B) := by
  intro as M Q QX h
  unfold ct_X6_undo at h
  split at h
  · rename_i a 
    obtain ⟨rfl, ⟨S, n, H, tl, tx⟩, hR, hG, h⟩ := h
    have eS : mS B M = S := hR.1
    subst eS
    obtain ⟨t, ht, hW⟩ := GS_wf hG.1
    have hW : WF (6 * t) (mS B M) := hW
    have hn : mS B M 2 = nI (cn (mS B M)) := hW.1
    have hn6 : cn (mS B M) ≤ 6 := hW.2.1
    have hm : mS B M 3 = nI (pn (mS B M)) := hW.2.2.1
    have hm24 : pn (mS B M) ≤ 24 := hW.2.2.2.1
    have hz0 : ∀ k, 517 ≤ k → mS B M k = 0 := by obtain ⟨_, _, _, _, z⟩ := hG.1; exact z
    have h4 : M.1 (B + 492) 4 = nI n := hR.2.1
    have hn4 : n ≤ 4 := hR.2.2.1
    have hp : ∀ i, i < n → ∀ k, k < 517 → M.1 (B + 494) (517 * i + k) = H i k := hR.2.2.2.1
    refine ⟨rfl, [(25, [true, true], fun m ls st M' => ∃ i v, n = v + 1 ∧ m = 517 - i ∧ i ≤ 517 ∧ ls = [some (.ref (B + 492)), some (.int (nI i))] ∧ st = [] ∧ M' = fw_row (fw_st M (B + 492) 4 (nI v)) (B + 493) (cpN i (H v) (mS B M)))], ⟨60, And.intro kd_492 (And.intro (fun h1 => ?_) (fun h1 => ?_))⟩, ?_⟩
    · have h1 : ¬ M.1 (B + 492) 4 = 0 := h1
      rw [h4, show (0 : Int32) = nI 0 from rfl, nI_eq (by omega) (by decide)] at h1
      obtain ⟨v, rfl⟩ : ∃ v, n = v + 1 := ⟨n - 1, by omega⟩
      refine And.intro kd_492 (And.intro kd_492 (Exists.intro 517 (Exists.intro 0 (Exists.intro v ⟨rfl, rfl, by omega, rfl, rfl, ?_⟩))))
      show fw_st M (B + 492) 4 (M.1 (B + 492) 4 - 1) = _
      rw [h4, show (1 : Int32) = nI 1 from rfl, pk_sub (by omega), Nat.add_sub_cancel, cpN_0, show mS B M = (fw_st M (B + 492) 4 (nI v)).1 (B + 493) from (st_o (by omega)).symm, row_self]
    · have h1 : M.1 (B + 492) 4 = 0 := h1
      rw [h4, show (0 : Int32) = nI 0 from rfl, nI_eq (by omega) (by decide)] at h1
      exact And.intro kd_492 (And.intro rfl (ctM_no (by unfold opUndo; rw [if_pos h1]) rfl hR h))
    · intro q hq m ls st M' hi
      cases List.mem_singleton.mp hq
      obtain ⟨i, v, hv, rfl, hi, rfl, rfl, rfl⟩ := hi
      subst hv
      have f4 : (fw_row (fw_st M (B + 492) 4 (nI v)) (B + 493) (cpN i (H v) (mS B M))).1 (B + 492) 4 = nI v := by rw [row_n (by omega), st_s]
      refine ⟨60, And.intro (fun h1 => ?_) (fun h1 => ?_)⟩
      · have h1 : nI 517 ≤ nI i := h1
        rw [n_ge (by decide) (by omega)] at h1
        have ei : i = 517 := by omega
        subst ei
        refine And.intro kd_492 (And.intro kd_492 (And.intro rfl ?_))
        have e : opUndo (mS B M, v + 1, H, tl, tx) = (0, nI v, (H v, v, H, tl, tx)) := by unfold opUndo; rw [if_neg (by show ¬ v + 1 = 0; omega)]; rfl
        show Q (some (.int ((fw_row (fw_st M (B + 492) 4 (nI v)) (B + 493) (cpN 517 (H v) (mS B M))).1 (B + 492) 4))) (fw_st (fw_row (fw_st M (B + 492) 4 (nI v)) (B + 493) (cpN 517 (H v) (mS B M))) (B + 492) 7 0)
        rw [f4]
        refine ctM_yes e ?_ (Fr_tr Fr_st (Fr_row (by decide) (by decide))) h
        obtain ⟨g1, g2, g3, g4, g5, g6, g7⟩ := hR
        obtain ⟨_, _, _, _, hv0⟩ := hG.2 v (Nat.lt_succ_self v)
        refine ⟨?_, f4, by show v ≤ 4; omega, fun i hi k hk => ?_, ?_, g6, fun k hk => ?_⟩
        · rw [row_1]
          funext k
          unfold cpN
          by_cases g : k < 517
          · rw [if_pos g]
          · rw [if_neg g, hz0 k (by omega)]
            exact (hv0 k (by omega)).symm
        · rw [row_n (by omega), st_o (by omega)]
          exact g4 i (by have hi : i < v := hi; show i < v + 1; omega) k hk
        · rw [row_n (by omega), st_n (by decide)]; exact g5
        · rw [row_n (by omega), st_o (by omega)]; exact g7 k hk
      · have h1 : ¬ nI 517 ≤ nI i := h1
        rw [n_ge (by decide) (by omega)] at h1
        have e9 : (517 : Int32) * (fw_row (fw_st M (B + 492) 4 (nI v)) (B + 493) (cpN i (H v) (mS B M))).1 (B + 492) 4 + nI i = nI (517 * v + i) := by
          rw [f4, show (517 : Int32) = nI 517 from rfl, n_mul, n_add]
        refine And.intro kd_492 (And.intro kd_492 (And.intro kd_492 (And.intro kd_494 (And.intro ?_ (And.intro kd_493 (And.intro (vn_493 (by omega)) ?_))))))
        · show fw_sd (vp_in ((517 : Int32) * (fw_row (fw_st M (B + 492) 4 (nI v)) (B + 493) (cpN i (H v) (mS B M))).1 (B + 492) 4 + nI i) (fw_len B (B + 494)))
          rw [ln_494, e9]; exact vn_i (by omega) (by decide)
        refine Exists.intro (517 - (i + 1)) (And.intro (by omega) (Exists.intro (i + 1) (Exists.intro v ⟨rfl, rfl, by omega, ?_, rfl, ?_⟩)))
        · show [some (Value.ref (B + 492)), some (Value.int (nI i + 1))] = _
          rw [nI_1]
        · show fw_st (fw_row (fw_st M (B + 492) 4 (nI v)) (B + 493) (cpN i (H v) (mS B M))) (B + 493) (nI i).toNatClampNeg ((fw_row (fw_st M (B + 492) 4 (nI v)) (B + 493) (cpN i (H v) (mS B M))).1 (B + 494) ((517 : Int32) * (fw_row (fw_st M (B + 492) 4 (nI v)) (B + 493) (cpN i (H v) (mS B M))).1 (B + 492) 4 + nI i).toNatClampNeg) = _
          rw [e9, n_cl (by omega), n_cl (by omega), row_n (by omega), st_o (by omega), hp v (Nat.lt_succ_self v) i (by omega), st_row, row_1, row_row, cpN_s]
  · exact h.elim
end WR4

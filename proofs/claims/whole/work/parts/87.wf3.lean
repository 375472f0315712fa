/-! THE FACE WALKED: what-if questions, the text, undo, the digest -/
section WF3
theorem tri_ne {B : Nat} : B + 82 ≠ B + 1 := by omega
theorem tri_le {B : Nat} : B + 82 ≤ B + 411 := by omega
set_option maxRecDepth 100000 in
theorem wk_X5_paidIn (B : Nat) : fw_Wk B fl_X5 (cal_X5_paidIn B) [thA] cst_X5 (some .int) kX5_paidIn 2 (ct_X5_paidIn B) := by
  intro as M Q QX h
  unfold ct_X5_paidIn at h
  split at h
  · rename_i a x
    obtain ⟨rfl, ⟨S, n, H, tl, tx⟩, hR, hG, hJ, hq, hx⟩ := h
    obtain ⟨t, ht, ht0, hW⟩ := GZ_wf hG
    have hW : WF (6 * t) S := hW
    have ht0 : S 0 = nI t := ht0
    have hXS : XS a M (a + 1) (6 * t) S := ⟨EX_now, hR.1, hW⟩
    have hn6 : cn S ≤ 6 := hW.2.1
    have hm24 : pn S ≤ 24 := hW.2.2.2.1
    have e2 : M.1 (a + 1) 2 = nI (cn S) := (r2 hR.1).trans hW.1
    have e3 : M.1 (a + 1) 3 = nI (pn S) := (r3 hR.1).trans hW.2.2.1
    have k5 := kB (B := a)
    have k1 := kX (EX_now (B := a))
    have k2 := k163 (B := a)
    have hJ0 : J S := hJ.1
    have kt := kX (EX_tri (B := a))
    have hne := tri_ne (B := a)
    have hRr := hR.1
    refine ⟨rfl, [], ⟨100, And.intro (fun h1 => ?_) (fun h1 => ?_)⟩, nofun⟩
    · have h1 : okN x 0 200 = true := bi_n0.mp h1
      obtain ⟨i, -, hi, rfl, ei⟩ := ok_n (a := 0) (b := 200) (by decide) (by decide) h1
      refine And.intro k5 (And.intro k5 (And.intro kt (And.intro EX_tri (And.intro hne (Exists.intro (6 * t) (Exists.intro S (And.intro ⟨EX_now, hRr, hW⟩ ?_)))))))
      intro M1 f1 f2
      refine And.intro k5 (And.intro kt (Exists.intro (6 * t) (Exists.intro S (Exists.intro i (And.intro (by omega) (And.intro rfl (And.intro ⟨EX_tri, f1, hW⟩ (And.intro hJ0 ?_))))))))
      intro M2 g1 g2
      have fx := FX_tr f2 g2
      have z := cF_tell (op := opPaid (nI i)) (r := payN S i) (M' := M2) (by unfold opPaid; rw [if_pos h1, ei]) (RC_tri hR fx) (FC_x fx tri_le) hq
      exact z
    · have h1 : okN x 0 200 = false := bi_0.mp h1
      have z := cF_thr (k := 1) (by unfold opPaid; rw [h1, if_neg (by decide)]) (by decide) hx
      exact z
  · exact h.elim
set_option maxRecDepth 100000 in
theorem wk_X5_worth (B : Nat) : fw_Wk B fl_X5 (cal_X5_worth B) [thI, thA] cst_X5 (some .int) kX5_worth 4 (ct_X5_worth B) := by
  intro as M Q QX h
  unfold ct_X5_worth at h
  split at h
  · rename_i a c x
    obtain ⟨rfl, ⟨S, n, H, tl, tx⟩, hR, hG, hJ, hq, hx⟩ := h
    obtain ⟨t, ht, ht0, hW⟩ := GZ_wf hG
    have hW : WF (6 * t) S := hW
    have ht0 : S 0 = nI t := ht0
    have hXS : XS a M (a + 1) (6 * t) S := ⟨EX_now, hR.1, hW⟩
    have hn6 : cn S ≤ 6 := hW.2.1
    have hm24 : pn S ≤ 24 := hW.2.2.2.1
    have e2 : M.1 (a + 1) 2 = nI (cn S) := (r2 hR.1).trans hW.1
    have e3 : M.1 (a + 1) 3 = nI (pn S) := (r3 hR.1).trans hW.2.2.1
    have k5 := kB (B := a)
    have k1 := kX (EX_now (B := a))
    have k2 := k163 (B := a)
    have hJ0 : J S := hJ.1
    have kt := kX (EX_tri (B := a))
    have hne := tri_ne (B := a)
    have hRr := hR.1
    rcases cr_dec hW c with ⟨k, hk, rfl, hc, ec⟩ | ⟨hc, hno⟩
    · refine ⟨rfl, [], ⟨100, And.intro k5 (And.intro k1 (And.intro EX_now (Exists.intro (cn S) (And.intro hn6 (And.intro e2 (Or.inl (Exists.intro k (And.intro hk (And.intro rfl ?_)))))))))⟩, nofun⟩
      refine And.intro (fun h1 => ?_) (fun h1 => ?_)
      · have h1 : okN x 0 200 = true := bi_n0.mp h1
        obtain ⟨i, -, hi, rfl, ei⟩ := ok_n (a := 0) (b := 200) (by decide) (by decide) h1
        refine And.intro k5 (And.intro k5 (And.intro kt (And.intro EX_tri (And.intro hne (Exists.intro (6 * t) (Exists.intro S (And.intro ⟨EX_now, hRr, hW⟩ ?_)))))))
        intro M1 f1 f2
        refine And.intro k5 (And.intro kt (Exists.intro (6 * t) (Exists.intro S (Exists.intro i (And.intro (by omega) (And.intro rfl (And.intro ⟨EX_tri, f1, hW⟩ (And.intro hJ0 ?_))))))))
        intro M2 g1 g2
        have fx := FX_tr f2 g2
        have hRr := (RC_tri hR fx).1
        refine And.intro k5 (And.intro k5 (And.intro kt (And.intro EX_tri (And.intro hne (Exists.intro (6 * t) (Exists.intro S (And.intro ⟨EX_now, hRr, hW⟩ ?_)))))))
        intro M3 i1 i2
        have fx := FX_tr fx i2
        refine And.intro k5 (And.intro kt (Exists.intro (6 * t) (Exists.intro S (Exists.intro k (And.intro ⟨EX_tri, i1, hW⟩ (And.intro hJ0 (And.intro hk (And.intro rfl ?_))))))))
        intro M4 j1 j2
        have fx := FX_tr fx j2
        have k6 : k < 6 := by omega
        refine And.intro k5 (And.intro kt (Exists.intro (6 * t) (Exists.intro (rtS S k) (Exists.intro i (And.intro (by omega) (And.intro rfl (And.intro ⟨EX_tri, j1, WF_area (WF_dr hW hk) k6⟩ (And.intro (J_area (J_dr hJ0 hW hk) k6) ?_))))))))
        intro M5 l1 l2
        have fx := FX_tr fx l2
        have z := cF_tell (op := opWorth (nI k) (nI i)) (r := payN S i - payN (rtS S k) i) (M' := M5) (by unfold opWorth; rw [if_pos hc, if_pos h1, ei, ec]) (RC_tri hR fx) (FC_x fx tri_le) hq
        exact z
      · have h1 : okN x 0 200 = false := bi_0.mp h1
        have z := cF_thr (k := 2) (by unfold opWorth; rw [if_pos hc, h1, if_neg (by decide)]) (by decide) hx
        exact z
    · refine ⟨rfl, [], ⟨100, And.intro k5 (And.intro k1 (And.intro EX_now (Exists.intro (cn S) (And.intro hn6 (And.intro e2 (Or.inr (And.intro hno ?_)))))))⟩, nofun⟩
      have z := cF_thr (k := 1) (by unfold opWorth; rw [hc, if_neg (by decide)]) (by decide) hx
      exact z
  · exact h.elim
set_option maxRecDepth 100000 in
theorem wk_X5_doneIn (B : Nat) : fw_Wk B fl_X5 (cal_X5_doneIn B) [] cst_X5 (some .int) kX5_doneIn 1 (ct_X5_doneIn B) := by
  intro as M Q QX h
  unfold ct_X5_doneIn at h
  split at h
  · rename_i a
    obtain ⟨rfl, ⟨S, n, H, tl, tx⟩, hR, hG, hJ, hq, hx⟩ := h
    obtain ⟨t, ht, ht0, hW⟩ := GZ_wf hG
    have hW : WF (6 * t) S := hW
    have ht0 : S 0 = nI t := ht0
    have hXS : XS a M (a + 1) (6 * t) S := ⟨EX_now, hR.1, hW⟩
    have hn6 : cn S ≤ 6 := hW.2.1
    have hm24 : pn S ≤ 24 := hW.2.2.2.1
    have e2 : M.1 (a + 1) 2 = nI (cn S) := (r2 hR.1).trans hW.1
    have e3 : M.1 (a + 1) 3 = nI (pn S) := (r3 hR.1).trans hW.2.2.1
    have k5 := kB (B := a)
    have k1 := kX (EX_now (B := a))
    have k2 := k163 (B := a)
    have hJ0 : J S := hJ.1
    have kt := kX (EX_tri (B := a))
    have hne := tri_ne (B := a)
    have hRr := hR.1
    refine ⟨rfl, [], ⟨100, And.intro k5 (And.intro k5 (And.intro kt (And.intro EX_tri (And.intro hne (Exists.intro (6 * t) (Exists.intro S (And.intro ⟨EX_now, hRr, hW⟩ ?_)))))))⟩, nofun⟩
    intro M1 f1 f2
    refine And.intro k5 (And.intro kt (Exists.intro (6 * t) (Exists.intro S (And.intro (by omega) (And.intro ⟨EX_tri, f1, hW⟩ (And.intro hJ0 ?_))))))
    intro M2 g2
    have fx := FX_tr f2 g2
    have z := cF_tell (op := opDone) (r := dnF S 1200 0) (M' := M2) rfl (RC_tri hR fx) (FC_x fx tri_le) hq
    exact z
  · exact h.elim
theorem bz_s {S : Sx} {c n z : Nat} : bzL S c n (z + 1) = if hs (sC S c 0) (nI z) = true then bzL S c n z else if (bzL S c n z).2 < payN (wdS S c z) n then (nI z, payN (wdS S c z) n) else bzL S c n z := rfl
set_option maxRecDepth 100000 in
theorem wk_X5_bestZone (B : Nat) : fw_Wk B fl_X5 (cal_X5_bestZone B) [thI, thA] cst_X5 (some .int) kX5_bestZone 8 (ct_X5_bestZone B) := by
  intro as M Q QX h
  unfold ct_X5_bestZone at h
  split at h
  · rename_i a c x
    obtain ⟨rfl, ⟨S, n, H, tl, tx⟩, hR, hG, hJ, hq, hx⟩ := h
    obtain ⟨t, ht, ht0, hW⟩ := GZ_wf hG
    have hW : WF (6 * t) S := hW
    have ht0 : S 0 = nI t := ht0
    have hXS : XS a M (a + 1) (6 * t) S := ⟨EX_now, hR.1, hW⟩
    have hn6 : cn S ≤ 6 := hW.2.1
    have hm24 : pn S ≤ 24 := hW.2.2.2.1
    have e2 : M.1 (a + 1) 2 = nI (cn S) := (r2 hR.1).trans hW.1
    have e3 : M.1 (a + 1) 3 = nI (pn S) := (r3 hR.1).trans hW.2.2.1
    have k5 := kB (B := a)
    have k1 := kX (EX_now (B := a))
    have k2 := k163 (B := a)
    have hJ0 : J S := hJ.1
    have kt := kX (EX_tri (B := a))
    have hne := tri_ne (B := a)
    have hRr := hR.1
    rcases cr_dec hW c with ⟨k, hk, rfl, hc, ec⟩ | ⟨hc, hno⟩
    · have k6 : k < 6 := by omega
      have kc := kC (EX_now (B := a)) k6
      cases h1 : okN x 0 200 with
      | false =>
        refine ⟨rfl, [], ⟨100, And.intro k5 (And.intro k1 (And.intro EX_now (Exists.intro (cn S) (And.intro hn6 (And.intro e2 (Or.inl (Exists.intro k (And.intro hk (And.intro rfl ?_)))))))))⟩, nofun⟩
        refine And.intro (fun h2 => ?_) (fun h2 => ?_)
        · have h2 : okN x 0 200 = true := bi_n0.mp h2
          rw [h1] at h2; cases h2
        · have z := cF_thr (k := 2) (by unfold opBest; rw [if_pos hc, h1, if_neg (by decide)]) (by decide) hx
          exact z
      | true =>
        obtain ⟨i, -, hi, rfl, ei⟩ := ok_n (a := 0) (b := 200) (by decide) (by decide) h1
        refine ⟨rfl, [(63, [true, true, true, true, true, true, true, false], fun m ls st M' => ∃ z, m = 16 - z ∧ z ≤ 16 ∧ FX (a + 82) M M' ∧ ls = [some (.ref a), some (.int (nI k)), some (.int (nI i)), some (.ref (a + 1 + 3 + k)), some (.int (bzL S k i z).2), some (.int (bzL S k i z).1), some (.int (nI z)), none] ∧ st = [])], ⟨100, And.intro k5 (And.intro k1 (And.intro EX_now (Exists.intro (cn S) (And.intro hn6 (And.intro e2 (Or.inl (Exists.intro k (And.intro hk (And.intro rfl ?_)))))))))⟩, ?_⟩
        · refine And.intro (fun h2 => ?_) (fun h2 => ?_)
          · refine And.intro k5 (And.intro k5 (And.intro kt (And.intro EX_tri (And.intro hne (Exists.intro (6 * t) (Exists.intro S (And.intro ⟨EX_now, hRr, hW⟩ ?_)))))))
            intro M1 f1 f2
            refine And.intro k5 (And.intro kt (Exists.intro (6 * t) (Exists.intro S (Exists.intro i (And.intro (by omega) (And.intro rfl (And.intro ⟨EX_tri, f1, hW⟩ (And.intro hJ0 ?_))))))))
            intro M2 g1 g2
            exact Exists.intro 16 (Exists.intro 0 ⟨rfl, by omega, FX_tr f2 g2, rfl, rfl⟩)
          · have h2 : okN (nI i) 0 200 = false := bi_0.mp h2
            rw [h1] at h2; cases h2
        · intro q hq' m ls st M' hi'
          cases List.mem_singleton.mp hq'
          obtain ⟨z, rfl, hz, hF, rfl, rfl⟩ := hi'
          have hRr := (RC_tri hR hF).1
          have ar : M'.1 (a + 1 + 3 + k) 0 = sC S k 0 := rC hRr hk (by decide)
          have lp : ∀ M'' : fw_M, FX (a + 82) M M'' → z < 16 → ∀ v : Int32 × Int32, bzL S k i (z + 1) = v → ∃ m', m' < 16 - z ∧ ∃ z', m' = 16 - z' ∧ z' ≤ 16 ∧ FX (a + 82) M M'' ∧ [some (Value.ref a), some (.int (nI k)), some (.int (nI i)), some (.ref (a + 1 + 3 + k)), some (.int v.2), some (.int v.1), some (.int (nI z + 1)), none] = [some (.ref a), some (.int (nI k)), some (.int (nI i)), some (.ref (a + 1 + 3 + k)), some (.int (bzL S k i z').2), some (.int (bzL S k i z').1), some (.int (nI z')), none] ∧ ([] : List Value) = [] := fun M'' f hz' v hv =>
            ⟨16 - (z + 1), by omega, z + 1, rfl, by omega, f, by rw [nI_1, hv], rfl⟩
          refine ⟨100, And.intro (fun h2 => ?_) (fun h2 => ?_)⟩
          · have h2 : nI 16 ≤ nI z := h2
            rw [n_ge (by decide) (by omega)] at h2
            have ez : z = 16 := by omega
            subst ez
            have w := cF_tell (op := opBest (nI k) (nI i)) (r := (bzL S k i 16).1) (M' := M') (by unfold opBest; rw [if_pos hc, if_pos h1, ei, ec]) (RC_tri hR hF) (FC_x hF tri_le) hq
            exact w
          · have h2 : ¬ nI 16 ≤ nI z := h2
            rw [n_ge (by decide) (by omega)] at h2
            refine And.intro kc (And.intro (fun h3 => ?_) (fun h3 => ?_))
            · have h3 : hs (M'.1 (a + 1 + 3 + k) 0) (nI z) = true := bi_n0.mp h3
              rw [ar] at h3
              exact lp M' hF (by omega) (bzL S k i z) (by rw [bz_s, if_pos h3])
            · have h3 : hs (M'.1 (a + 1 + 3 + k) 0) (nI z) = false := bi_0.mp h3
              rw [ar] at h3
              refine And.intro k5 (And.intro k5 (And.intro kt (And.intro EX_tri (And.intro hne (Exists.intro (6 * t) (Exists.intro S (And.intro ⟨EX_now, hRr, hW⟩ ?_)))))))
              intro M1 f1 f2
              have fx := FX_tr hF f2
              refine And.intro k5 (And.intro kt (Exists.intro (6 * t) (Exists.intro S (Exists.intro k (Exists.intro z (And.intro ⟨EX_tri, f1, hW⟩ (And.intro hk (And.intro rfl (And.intro rfl ?_)))))))))
              intro M2 g1 g2
              have fx := FX_tr fx g2
              refine And.intro k5 (And.intro kt (Exists.intro (6 * t) (Exists.intro (wdS S k z) (Exists.intro i (And.intro (by omega) (And.intro rfl (And.intro ⟨EX_tri, g1, WF_area hW k6⟩ (And.intro (J_area hJ0 k6) ?_))))))))
              intro M3 j1 j2
              have fx := FX_tr fx j2
              refine And.intro (fun h4 => ?_) (fun h4 => ?_)
              · have h4 : payN (wdS S k z) i ≤ (bzL S k i z).2 := h4
                exact lp M3 fx (by omega) (bzL S k i z) (by rw [bz_s, h3, if_neg (by decide), if_neg (Int32.not_lt.mpr h4)])
              · have h4 : ¬ payN (wdS S k z) i ≤ (bzL S k i z).2 := h4
                exact lp M3 fx (by omega) (nI z, payN (wdS S k z) i) (by rw [bz_s, h3, if_neg (by decide), if_pos (Int32.not_le.mp h4)])
    · refine ⟨rfl, [], ⟨100, And.intro k5 (And.intro k1 (And.intro EX_now (Exists.intro (cn S) (And.intro hn6 (And.intro e2 (Or.inr (And.intro hno ?_)))))))⟩, nofun⟩
      have z := cF_thr (k := 1) (by unfold opBest; rw [hc, if_neg (by decide)]) (by decide) hx
      exact z
  · exact h.elim
set_option maxRecDepth 100000 in
theorem wk_X5_append (B : Nat) : fw_Wk B fl_X5 (cal_X5_append B) [thA, thS] cst_X5 (some .int) kX5_append 2 (ct_X5_append B) := by
  intro as M Q QX h
  unfold ct_X5_append at h
  split at h
  · rename_i a v
    obtain ⟨rfl, ⟨S, n, H, tl, tx⟩, hR, hG, hJ, hq, hx⟩ := h
    obtain ⟨t, ht, ht0, hW⟩ := GZ_wf hG
    have hW : WF (6 * t) S := hW
    have ht0 : S 0 = nI t := ht0
    have hXS : XS a M (a + 1) (6 * t) S := ⟨EX_now, hR.1, hW⟩
    have hn6 : cn S ≤ 6 := hW.2.1
    have hm24 : pn S ≤ 24 := hW.2.2.2.1
    have e2 : M.1 (a + 1) 2 = nI (cn S) := (r2 hR.1).trans hW.1
    have e3 : M.1 (a + 1) 3 = nI (pn S) := (r3 hR.1).trans hW.2.2.1
    have k5 := kB (B := a)
    have k1 := kX (EX_now (B := a))
    have k2 := k163 (B := a)
    have hJ0 : J S := hJ.1
    obtain ⟨b1, b2, b3⟩ := hR.2.2
    have b1 : M.1 (a + 489) 2 = nI tl := b1
    have b2 : tl ≤ 150 := b2
    have b3 : ∀ i, i < tl → M.1 (a + 490) i = tx i := b3
    have k4 := k489 (B := a)
    have no : okN v 0 127 = false → QX "java/lang/IllegalArgumentException" M := fun w =>
      cF_thr (k := 1) (ex := exA) (by unfold opAppend; rw [w, if_neg (by decide)]) (by decide) hx
    refine ⟨rfl, [], ⟨100, And.intro (fun h1 => ?_) (fun h1 => And.intro (fun h2 => ?_) (fun h2 => ?_))⟩, nofun⟩
    · exact no (ok_lt h1)
    · have ok : okN v 0 127 = true := ok_in h1 (Int32.not_lt.mpr h2)
      refine And.intro k5 (And.intro k4 (And.intro (fun h3 => ?_) (fun h3 => ?_)))
      · have h3 : M.1 (a + 489) 2 < nI 150 := h3
        rw [b1, n_lt (by omega) (by decide)] at h3
        have e : opAppend v (S, n, H, tl, tx) = (0, nI (tl + 1), (S, n, H, tl + 1, upd tx tl v)) := by
          unfold opAppend
          rw [if_pos ok, if_neg (show ¬ tl = 150 by omega)]
        rw [e] at hq
        have ev : (fw_st (fw_st M (a + 490) tl v) (a + 489) 2 (nI (tl + 1))).1 (a + 489) 2 = nI (tl + 1) := st_s
        have z := hq rfl (fw_st (fw_st M (a + 490) tl v) (a + 489) 2 (nI (tl + 1))) ⟨Rep_fr hR.1 (fun c h1 h2 => by rw [st_o (by omega), st_o (by omega)]), HS_fr hR.2.1 (fun c h1 h2 => by rw [st_o (by omega), st_o (by omega)]), st_s, by show tl + 1 ≤ 150; omega, fun i hi => by
            have hi : i < tl + 1 := hi
            rw [st_o (by omega)]
            show _ = upd tx tl v i
            by_cases ei : i = tl
            · subst ei; rw [st_s, upd_s]
            · rw [st_n ei, upd_n ei]; exact b3 i (by omega)⟩ ⟨fun b hb => by rw [st_o (by omega), st_o (by omega)], rfl⟩
        have z : Q (some (.int (nI (tl + 1)))) (fw_st (fw_st M (a + 490) tl v) (a + 489) 2 (nI (tl + 1))) := z
        rw [← ev] at z
        refine And.intro k5 (And.intro k4 (And.intro rfl (Exists.intro tl (And.intro h3 (And.intro b1 (And.intro k5 (And.intro k4 ?_)))))))
        rw [ev] at z
        show Q (some (.int ((fw_st (fw_st M (a + 490) tl v) (a + 489) 2 (nI (tl + 1))).1 (a + 489) 2))) (fw_st (fw_st M (a + 490) tl v) (a + 489) 2 (nI (tl + 1)))
        rw [ev]
        exact z
      · have h3 : ¬ M.1 (a + 489) 2 < nI 150 := h3
        rw [b1, n_lt (by omega) (by decide)] at h3
        have z := cF_thr (k := 2) (by unfold opAppend; rw [if_pos ok, if_pos (show tl = 150 by omega)]) (by decide) hx
        exact z
    · exact no (ok_gt (Int32.not_le.mp h2))
  · exact h.elim
set_option maxRecDepth 100000 in
theorem wk_X5_clearText (B : Nat) : fw_Wk B fl_X5 (cal_X5_clearText B) [] cst_X5 (some .int) kX5_clearText 2 (ct_X5_clearText B) := by
  intro as M Q QX h
  unfold ct_X5_clearText at h
  split at h
  · rename_i a
    obtain ⟨rfl, ⟨S, n, H, tl, tx⟩, hR, hG, hJ, hq, hx⟩ := h
    obtain ⟨t, ht, ht0, hW⟩ := GZ_wf hG
    have hW : WF (6 * t) S := hW
    have ht0 : S 0 = nI t := ht0
    have hXS : XS a M (a + 1) (6 * t) S := ⟨EX_now, hR.1, hW⟩
    have hn6 : cn S ≤ 6 := hW.2.1
    have hm24 : pn S ≤ 24 := hW.2.2.2.1
    have e2 : M.1 (a + 1) 2 = nI (cn S) := (r2 hR.1).trans hW.1
    have e3 : M.1 (a + 1) 3 = nI (pn S) := (r3 hR.1).trans hW.2.2.1
    have k5 := kB (B := a)
    have k1 := kX (EX_now (B := a))
    have k2 := k163 (B := a)
    have hJ0 : J S := hJ.1
    obtain ⟨b1, b2, b3⟩ := hR.2.2
    have b1 : M.1 (a + 489) 2 = nI tl := b1
    have k4 := k489 (B := a)
    have z := hq rfl (fw_st M (a + 489) 2 0) ⟨Rep_fr hR.1 (fun c h1 h2 => st_o (by omega)), HS_fr hR.2.1 (fun c h1 h2 => st_o (by omega)), st_s, Nat.zero_le _, fun i hi => absurd hi (Nat.not_lt_zero _)⟩ ⟨fun b hb => st_o (by omega), rfl⟩
    have z : Q (some (.int (nI tl))) (fw_st M (a + 489) 2 0) := z
    rw [← b1] at z
    exact ⟨rfl, [], ⟨100, And.intro k5 (And.intro k4 (And.intro k5 (And.intro k4 z)))⟩, nofun⟩
  · exact h.elim
set_option maxRecDepth 100000 in
theorem wk_X5_undo (B : Nat) : fw_Wk B fl_X5 (cal_X5_undo B) [thS] cst_X5 (some .int) kX5_undo 1 (ct_X5_undo B) := by
  intro as M Q QX h
  unfold ct_X5_undo at h
  split at h
  · rename_i a
    obtain ⟨rfl, ⟨S, n, H, tl, tx⟩, hR, hG, hJ, hq, hx⟩ := h
    obtain ⟨t, ht, ht0, hW⟩ := GZ_wf hG
    have hW : WF (6 * t) S := hW
    have ht0 : S 0 = nI t := ht0
    have hXS : XS a M (a + 1) (6 * t) S := ⟨EX_now, hR.1, hW⟩
    have hn6 : cn S ≤ 6 := hW.2.1
    have hm24 : pn S ≤ 24 := hW.2.2.2.1
    have e2 : M.1 (a + 1) 2 = nI (cn S) := (r2 hR.1).trans hW.1
    have e3 : M.1 (a + 1) 3 = nI (pn S) := (r3 hR.1).trans hW.2.2.1
    have k5 := kB (B := a)
    have k1 := kX (EX_now (B := a))
    have k2 := k163 (B := a)
    have hJ0 : J S := hJ.1
    obtain ⟨o, ho, e1, ec, hn4, hRi⟩ := hR.2.1
    have ec : M.1 (a + 163) 2 = nI n := ec
    have hn4 : n ≤ 4 := hn4
    refine ⟨rfl, [], ⟨100, And.intro k5 (And.intro k2 (And.intro (fun h1 => ?_) (fun h1 => ?_)))⟩, nofun⟩
    · have h1 : nI 0 < M.1 (a + 163) 2 := h1
      rw [ec, n_lt (by decide) (by omega)] at h1
      obtain ⟨n', rfl⟩ : ∃ n', n = n' + 1 := ⟨n - 1, by omega⟩
      obtain ⟨t2, ht2, hW2⟩ := GS_wf (hG.2 n' (Nat.lt_succ_self n'))
      refine And.intro k5 (And.intro k5 (And.intro k2 (And.intro rfl (And.intro rfl (Exists.intro (6 * t2) (Exists.intro n' (Exists.intro H (And.intro hR.2.1 (And.intro hW2 ?_)))))))))
      intro M' g1 g2 g3 g4
      have ev : M'.1 (a + 163) 2 = nI n' := by obtain ⟨_, -, -, z, -⟩ := g1; exact z
      have z := hq rfl M' ⟨g2, g1, TS_eq hR.2.2 (g3 _ (by omega)) (g3 _ (by omega))⟩ ⟨fun b hb => g3 b (by omega), g4⟩
      have z : Q (some (.int (nI n'))) M' := z
      rw [← ev] at z
      exact And.intro k5 (And.intro k2 z)
    · have h1 : ¬ nI 0 < M.1 (a + 163) 2 := h1
      rw [ec, n_lt (by decide) (by omega)] at h1
      have z := cF_thr (k := 1) (by unfold opUndo; rw [if_pos (show n = 0 by omega)]) (by decide) hx
      exact z
  · exact h.elim
set_option maxRecDepth 100000 in
theorem wk_X5_digest (B : Nat) : fw_Wk B fl_X5 (cal_X5_digest B) [] cst_X5 (some .long) kX5_digest 4 (ct_X5_digest B) := by
  intro as M Q QX h
  unfold ct_X5_digest at h
  split at h
  · rename_i a
    obtain ⟨rfl, ⟨S, n, H, tl, tx⟩, hR, hG, hq⟩ := h
    obtain ⟨t, ht, ht0, hW⟩ := GZ_wf hG
    have hW : WF (6 * t) S := hW
    have hXS : XS a M (a + 1) (6 * t) S := ⟨EX_now, hR.1, hW⟩
    have k5 := kB (B := a)
    have k1 := kX (EX_now (B := a))
    have k2 := k163 (B := a)
    have k4 := k489 (B := a)
    have el : M.1 (a + 489) 2 = nI tl := hR.2.2.1
    have en : M.1 (a + 163) 2 = nI n := by obtain ⟨_, -, -, z, -⟩ := hR.2.1; exact z
    refine ⟨rfl, [(15, [true, true, false, true], fun m ls st M' => ∃ w, m = 11 - w ∧ w ≤ 11 ∧ ls = [some (.ref a), some (.long (mixN (mixh 3313 (nI tl)) (valS S) w)), none, some (.int (nI w))] ∧ st = [] ∧ M' = M)], ⟨100, And.intro k5 (And.intro k4 ?_)⟩, ?_⟩
    · refine Exists.intro 11 (Exists.intro 0 ⟨rfl, by omega, ?_, rfl, rfl⟩)
      show [some (Value.ref a), some (Value.long (102703 + (M.1 (a + 489) 2).toInt64)), none, some (Value.int 0)] = _
      rw [el]
      rfl
    · intro q hq' m ls st M' hi
      cases List.mem_singleton.mp hq'
      obtain ⟨w, rfl, hw, rfl, rfl, rfl⟩ := hi
      refine ⟨100, And.intro (fun h1 => ?_) (fun h1 => ?_)⟩
      · have h1 : nI 10 < nI w := h1
        rw [n_lt (by decide) (by omega)] at h1
        have ew : w = 11 := by omega
        subst ew
        refine And.intro k5 (And.intro k1 (Exists.intro (6 * t) (Exists.intro S (And.intro hXS (And.intro k5 (And.intro k1 (Exists.intro (6 * t) (Exists.intro S (And.intro hXS (And.intro k5 (And.intro k2 ?_)))))))))))
        show Q (some (.long (31 * dgP S (dgC S (mixN (mixh 3313 (nI tl)) (valS S) 11) (cn S)) (pn S) + (M'.1 (a + 163) 2).toInt64))) M'
        rw [en]
        exact hq
      · have h1 : ¬ nI 10 < nI w := h1
        rw [n_lt (by decide) (by omega)] at h1
        refine And.intro k5 (And.intro k1 (Exists.intro (6 * t) (Exists.intro S (Exists.intro w (And.intro hXS (And.intro (by omega) (And.intro rfl ?_)))))))
        refine Exists.intro (11 - (w + 1)) (And.intro (by omega) (Exists.intro (w + 1) ⟨rfl, by omega, ?_, rfl, rfl⟩))
        show [some (Value.ref a), some (Value.long (31 * mixN (mixh 3313 (nI tl)) (valS S) w + (valS S w).toInt64)), none, some (Value.int (nI w + 1))] = _
        rw [nI_1]
        rfl
  · exact h.elim
end WF3

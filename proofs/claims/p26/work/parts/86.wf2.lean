/-! THE FACE WALKED: the calls that tell -/
section WF2
set_option maxRecDepth 100000 in
theorem wk_X5_value (B : Nat) : fw_Wk B fl_X5 (cal_X5_value B) [thA] cst_X5 (some .int) kX5_value 2 (ct_X5_value B) := by
  intro as M Q QX h
  unfold ct_X5_value at h
  split at h
  · rename_i a x
    obtain ⟨rfl, ⟨S, n, H, tl, tx⟩, hR, hG, hJ, hq, hx⟩ := h
    obtain ⟨t, ht, ht0, hW⟩ := GZ_wf hG
    have hW : WF (6 * t) S := hW
    have ht0 : S 0 = nI t := ht0
    have hXS : XS a M (a + 1) (6 * t) S := ⟨EX_now, hR.1, hW⟩
    have hn6 : cn S ≤ 6 := hW.2.1
    have hm24 : pn S ≤ 24 := hW.2.2.2.1
    have e2 : M.1 (a + 1) 2 = nI (cn S) := (r2 hR.1).trans hW.1
    have e3 : M.1 (a + 1) 3 = nI (pn S) := (r3 hR.1).trans hW.2.2.1
    have k5 := kB (B := a)
    have k1 := kX (EX_now (B := a))
    have k2 := k163 (B := a)
    have hJ0 : J S := hJ.1
    have no : okN x 0 10 = false → QX "java/lang/IllegalArgumentException" M := fun w =>
      cF_thr (k := 1) (ex := exA) (by unfold opValue; rw [w, if_neg (by decide)]) (by decide) hx
    refine ⟨rfl, [], ⟨100, And.intro (fun h1 => ?_) (fun h1 => And.intro (fun h2 => ?_) (fun h2 => ?_))⟩, nofun⟩
    · exact no (ok_lt h1)
    · have ok : okN x 0 10 = true := ok_in h1 (Int32.not_lt.mpr h2)
      obtain ⟨w, -, hw, rfl, ew⟩ := ok_n (a := 0) (b := 10) (by decide) (by decide) ok
      have z := cF_tell (op := opValue (nI w)) (r := valS S w) (M' := M) (by unfold opValue; rw [if_pos ok, ew]) hR FC_id hq
      exact And.intro k5 (And.intro k1 (Exists.intro (6 * t) (Exists.intro S (Exists.intro w (And.intro hXS (And.intro hw (And.intro rfl z)))))))
    · exact no (ok_gt (Int32.not_le.mp h2))
  · exact h.elim
set_option maxRecDepth 100000 in
theorem wk_X5_courier (B : Nat) : fw_Wk B fl_X5 (cal_X5_courier B) [thI, thA] cst_X5 (some .int) kX5_courier 4 (ct_X5_courier B) := by
  intro as M Q QX h
  unfold ct_X5_courier at h
  split at h
  · rename_i a c x
    obtain ⟨rfl, ⟨S, n, H, tl, tx⟩, hR, hG, hJ, hq, hx⟩ := h
    obtain ⟨t, ht, ht0, hW⟩ := GZ_wf hG
    have hW : WF (6 * t) S := hW
    have ht0 : S 0 = nI t := ht0
    have hXS : XS a M (a + 1) (6 * t) S := ⟨EX_now, hR.1, hW⟩
    have hn6 : cn S ≤ 6 := hW.2.1
    have hm24 : pn S ≤ 24 := hW.2.2.2.1
    have e2 : M.1 (a + 1) 2 = nI (cn S) := (r2 hR.1).trans hW.1
    have e3 : M.1 (a + 1) 3 = nI (pn S) := (r3 hR.1).trans hW.2.2.1
    have k5 := kB (B := a)
    have k1 := kX (EX_now (B := a))
    have k2 := k163 (B := a)
    have hJ0 : J S := hJ.1
    rcases cr_dec hW c with ⟨k, hk, rfl, hc, ec⟩ | ⟨hc, hno⟩
    · have no : okN x 0 5 = false → QX "java/lang/IllegalArgumentException" M := fun w =>
        cF_thr (k := 2) (ex := exB) (by unfold opCourier; rw [if_pos hc, w, if_neg (by decide)]) (by decide) hx
      refine ⟨rfl, [], ⟨100, And.intro k5 (And.intro k1 (And.intro EX_now (Exists.intro (cn S) (And.intro hn6 (And.intro e2 (Or.inl (Exists.intro k (And.intro hk (And.intro rfl ?_)))))))))⟩, nofun⟩
      refine And.intro (fun h1 => ?_) (fun h1 => And.intro (fun h2 => ?_) (fun h2 => ?_))
      · exact no (ok_lt h1)
      · have ok : okN x 0 5 = true := ok_in h1 (Int32.not_lt.mpr h2)
        obtain ⟨w, -, hw, rfl, ew⟩ := ok_n (a := 0) (b := 5) (by decide) (by decide) ok
        have z := cF_tell (op := opCourier (nI k) (nI w)) (r := crS S k w) (M' := M) (by unfold opCourier; rw [if_pos hc, if_pos ok, ew, ec]) hR FC_id hq
        exact And.intro k5 (And.intro k1 (Exists.intro (6 * t) (Exists.intro S (Exists.intro k (Exists.intro w (And.intro hXS (And.intro hk (And.intro hw (And.intro rfl (And.intro rfl (And.intro rfl z)))))))))))
      · exact no (ok_gt (Int32.not_le.mp h2))
    · refine ⟨rfl, [], ⟨100, And.intro k5 (And.intro k1 (And.intro EX_now (Exists.intro (cn S) (And.intro hn6 (And.intro e2 (Or.inr (And.intro hno ?_)))))))⟩, nofun⟩
      have z := cF_thr (k := 1) (by unfold opCourier; rw [hc, if_neg (by decide)]) (by decide) hx
      exact z
  · exact h.elim
set_option maxRecDepth 100000 in
theorem wk_X5_parcel (B : Nat) : fw_Wk B fl_X5 (cal_X5_parcel B) [thI, thA] cst_X5 (some .int) kX5_parcel 4 (ct_X5_parcel B) := by
  intro as M Q QX h
  unfold ct_X5_parcel at h
  split at h
  · rename_i a p x
    obtain ⟨rfl, ⟨S, n, H, tl, tx⟩, hR, hG, hJ, hq, hx⟩ := h
    obtain ⟨t, ht, ht0, hW⟩ := GZ_wf hG
    have hW : WF (6 * t) S := hW
    have ht0 : S 0 = nI t := ht0
    have hXS : XS a M (a + 1) (6 * t) S := ⟨EX_now, hR.1, hW⟩
    have hn6 : cn S ≤ 6 := hW.2.1
    have hm24 : pn S ≤ 24 := hW.2.2.2.1
    have e2 : M.1 (a + 1) 2 = nI (cn S) := (r2 hR.1).trans hW.1
    have e3 : M.1 (a + 1) 3 = nI (pn S) := (r3 hR.1).trans hW.2.2.1
    have k5 := kB (B := a)
    have k1 := kX (EX_now (B := a))
    have k2 := k163 (B := a)
    have hJ0 : J S := hJ.1
    rcases pc_dec hW p with ⟨k, hk, rfl, hc, ec⟩ | ⟨hc, hno⟩
    · have no : okN x 0 8 = false → QX "java/lang/IllegalArgumentException" M := fun w =>
        cF_thr (k := 2) (ex := exB) (by unfold opParcel; rw [if_pos hc, w, if_neg (by decide)]) (by decide) hx
      have k24 : k < 24 := by omega
      refine ⟨rfl, [], ⟨100, And.intro k5 (And.intro k1 (And.intro EX_now (Exists.intro (pn S) (And.intro hm24 (And.intro e3 (Or.inl (Exists.intro k (And.intro hk (And.intro rfl ?_)))))))))⟩, nofun⟩
      refine And.intro (fun h1 => ?_) (fun h1 => And.intro (fun h2 => ?_) (fun h2 => ?_))
      · exact no (ok_lt h1)
      · have ok : okN x 0 8 = true := ok_in h1 (Int32.not_lt.mpr h2)
        obtain ⟨w, -, hw, rfl, ew⟩ := ok_n (a := 0) (b := 8) (by decide) (by decide) ok
        have ev : (if w < 8 then M.1 (a + 1 + 9 + 3 * k) w else rsum (M.1 (a + 1 + 9 + 3 * k + 1)) 6) = paS S k w := by
          unfold paS
          by_cases e : w < 8
          · rw [if_pos e, if_pos e]; exact rP hR.1 hk e
          · rw [if_neg e, if_neg e]; exact rsum_l (fun c hc => rL hR.1 hk hc) 6 (Nat.le_refl 6)
        have z := cF_tell (op := opParcel (nI k) (nI w)) (r := paS S k w) (M' := M) (by unfold opParcel; rw [if_pos hc, if_pos ok, ew, ec]) hR FC_id hq
        rw [← ev] at z
        exact And.intro (kP EX_now k24) (And.intro (PK_of EX_now k24) (Exists.intro w (And.intro hw (And.intro rfl z))))
      · exact no (ok_gt (Int32.not_le.mp h2))
    · refine ⟨rfl, [], ⟨100, And.intro k5 (And.intro k1 (And.intro EX_now (Exists.intro (pn S) (And.intro hm24 (And.intro e3 (Or.inr (And.intro hno ?_)))))))⟩, nofun⟩
      have z := cF_thr (k := 1) (by unfold opParcel; rw [hc, if_neg (by decide)]) (by decide) hx
      exact z
  · exact h.elim
set_option maxRecDepth 100000 in
theorem wk_X5_legs (B : Nat) : fw_Wk B fl_X5 (cal_X5_legs B) [thI] cst_X5 (some .int) kX5_legs 5 (ct_X5_legs B) := by
  intro as M Q QX h
  unfold ct_X5_legs at h
  split at h
  · rename_i a p c s
    obtain ⟨rfl, ⟨S, n, H, tl, tx⟩, hR, hG, hJ, hq, hx⟩ := h
    obtain ⟨t, ht, ht0, hW⟩ := GZ_wf hG
    have hW : WF (6 * t) S := hW
    have ht0 : S 0 = nI t := ht0
    have hXS : XS a M (a + 1) (6 * t) S := ⟨EX_now, hR.1, hW⟩
    have hn6 : cn S ≤ 6 := hW.2.1
    have hm24 : pn S ≤ 24 := hW.2.2.2.1
    have e2 : M.1 (a + 1) 2 = nI (cn S) := (r2 hR.1).trans hW.1
    have e3 : M.1 (a + 1) 3 = nI (pn S) := (r3 hR.1).trans hW.2.2.1
    have k5 := kB (B := a)
    have k1 := kX (EX_now (B := a))
    have k2 := k163 (B := a)
    have hJ0 : J S := hJ.1
    rcases pc_dec hW p with ⟨j, hj, rfl, hp, ep⟩ | ⟨hp, hno⟩
    · have j24 : j < 24 := by omega
      rcases cr_dec hW c with ⟨k, hk, rfl, hc, ec⟩ | ⟨hc, hno⟩
      · refine ⟨rfl, [], ⟨100, And.intro k5 (And.intro k1 (And.intro EX_now (Exists.intro (pn S) (And.intro hm24 (And.intro e3 (Or.inl (Exists.intro j (And.intro hj (And.intro rfl ?_)))))))))⟩, nofun⟩
        refine And.intro k5 (And.intro k1 (And.intro EX_now (Exists.intro (cn S) (And.intro hn6 (And.intro e2 (Or.inl (Exists.intro k (And.intro hk (And.intro rfl ?_)))))))))
        have ok : (isPc S (nI j) && isCr S (nI k)) = true := by rw [hp, hc]; rfl
        refine And.intro (fun h1 => ?_) (fun h1 => ?_)
        · have h1 : s = 0 := h1
          have ev : M.1 (a + 1 + 9 + 3 * j + 1) k = sP S j (8 + k) := rL hR.1 hj (by omega)
          have z := cF_tell (op := opLegs (nI j) (nI k) s) (r := sP S j (8 + k)) (M' := M) (by unfold opLegs; rw [if_pos ok, if_pos h1, ec, ep]) hR FC_id hq
          rw [← ev] at z
          exact And.intro (kP EX_now j24) (And.intro (PK_of EX_now j24) (Exists.intro k (And.intro (by omega) (And.intro rfl z))))
        · have h1 : ¬ s = 0 := h1
          have ev : M.1 (a + 1 + 9 + 3 * j + 2) k = sP S j (14 + k) := rS hR.1 hj (by omega)
          have z := cF_tell (op := opLegs (nI j) (nI k) s) (r := sP S j (14 + k)) (M' := M) (by unfold opLegs; rw [if_pos ok, if_neg h1, ec, ep]) hR FC_id hq
          rw [← ev] at z
          exact And.intro (kP EX_now j24) (And.intro (PK_of EX_now j24) (Exists.intro k (And.intro (by omega) (And.intro rfl z))))
      · refine ⟨rfl, [], ⟨100, And.intro k5 (And.intro k1 (And.intro EX_now (Exists.intro (pn S) (And.intro hm24 (And.intro e3 (Or.inl (Exists.intro j (And.intro hj (And.intro rfl ?_)))))))))⟩, nofun⟩
        refine And.intro k5 (And.intro k1 (And.intro EX_now (Exists.intro (cn S) (And.intro hn6 (And.intro e2 (Or.inr (And.intro hno ?_)))))))
        have z := cF_thr (k := 1) (by unfold opLegs; rw [hc, Bool.and_false, if_neg (by decide)]) (by decide) hx
        exact z
    · refine ⟨rfl, [], ⟨100, And.intro k5 (And.intro k1 (And.intro EX_now (Exists.intro (pn S) (And.intro hm24 (And.intro e3 (Or.inr (And.intro hno ?_)))))))⟩, nofun⟩
      have z := cF_thr (k := 1) (by unfold opLegs; rw [hp, Bool.false_and, if_neg (by decide)]) (by decide) hx
      exact z
  · exact h.elim
def absI (x : Int32) : Int32 := if 0 ≤ x then x else 0 - x
theorem dist_c : ∀ i, i < 16 → ∀ j, j < 16 → absI (nI i / 4 - nI j / 4) + absI ((nI i - nI i / 4 * 4) - (nI j - nI j / 4 * 4)) = dist (nI i) (nI j) := by decide +kernel
set_option maxRecDepth 100000 in
theorem wk_X5_distance (B : Nat) : fw_Wk B fl_X5 (cal_X5_distance B) [thI] cst_X5 (some .int) kX5_distance 3 (ct_X5_distance B) := by
  intro as M Q QX h
  unfold ct_X5_distance at h
  split at h
  · rename_i a x y
    obtain ⟨rfl, ⟨S, n, H, tl, tx⟩, hR, hG, hJ, hq, hx⟩ := h
    obtain ⟨t, ht, ht0, hW⟩ := GZ_wf hG
    have hW : WF (6 * t) S := hW
    have ht0 : S 0 = nI t := ht0
    have hXS : XS a M (a + 1) (6 * t) S := ⟨EX_now, hR.1, hW⟩
    have hn6 : cn S ≤ 6 := hW.2.1
    have hm24 : pn S ≤ 24 := hW.2.2.2.1
    have e2 : M.1 (a + 1) 2 = nI (cn S) := (r2 hR.1).trans hW.1
    have e3 : M.1 (a + 1) 3 = nI (pn S) := (r3 hR.1).trans hW.2.2.1
    have k5 := kB (B := a)
    have k1 := kX (EX_now (B := a))
    have k2 := k163 (B := a)
    have hJ0 : J S := hJ.1
    have no : (okN x 0 15 && okN y 0 15) = false → QX "java/lang/IndexOutOfBoundsException" M := fun w =>
      cF_thr (k := 1) (ex := exB) (by unfold opDist; rw [w, if_neg (by decide)]) (by decide) hx
    refine ⟨rfl, [], ⟨100, And.intro (fun h1 => ?_) (fun h1 => And.intro (fun h2 => ?_) (fun h2 => ?_))⟩, nofun⟩
    · have h1 : okN x 0 15 = false := bi_0.mp h1
      exact no (by rw [h1]; rfl)
    · have h1 : okN x 0 15 = true := bi_n0.mp h1
      have h2 : okN y 0 15 = true := bi_n0.mp h2
      obtain ⟨i, -, hi, rfl, -⟩ := ok_n (a := 0) (b := 15) (by decide) (by decide) h1
      obtain ⟨j, -, hj, rfl, -⟩ := ok_n (a := 0) (b := 15) (by decide) (by decide) h2
      have z := cF_tell (op := opDist (nI i) (nI j)) (r := dist (nI i) (nI j)) (M' := M) (by unfold opDist; rw [h1, h2, if_pos (show (true && true) = true from rfl)]) hR FC_id hq
      rw [← dist_c i (by omega) j (by omega)] at z
      exact And.intro n4s (And.intro n4s (And.intro n4s (And.intro n4s z)))
    · have h2 : okN y 0 15 = false := bi_0.mp h2
      exact no (by rw [h2, Bool.and_false])
  · exact h.elim
end WF2

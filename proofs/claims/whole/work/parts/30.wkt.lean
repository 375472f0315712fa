/-! THE REFERENCE'S tick, walked -/
section WT
theorem LG_of {b : Nat} {S S' : Sx} {p : Nat} (hb : b ≤ 100000) (h : WFp b S p) (e : ∀ x, 8 ≤ x → x < 14 → sP S' p x = sP S p x) (hpos : ∃ c k, c < 6 ∧ 0 < k ∧ k < 2 ^ 31 ∧ sP S p (8 + c) = nI k) : LG S' p := by
  have hl := h.2.2.2.2.2
  have hch : ∀ c, ∃ k, c < 6 → k ≤ b ∧ sP S p (8 + c) = nI k := fun c => by
    by_cases hc : c < 6
    · obtain ⟨k, h1, h2⟩ := hl c hc
      exact ⟨k, fun _ => ⟨h1, h2⟩⟩
    · exact ⟨0, fun z => absurd z hc⟩
  obtain ⟨L, hL⟩ := Classical.axiomOfChoice hch
  obtain ⟨c, k, hc, hk, hk2, ek⟩ := hpos
  refine ⟨L, fun c hc => ⟨by have := (hL c hc).1; omega, by rw [e (8 + c) (by omega) (by omega)]; exact (hL c hc).2⟩, c, hc, ?_⟩
  have h1 := hL c hc
  rw [ek, nI_eq hk2 (by omega)] at h1
  omega
set_option maxRecDepth 100000 in
theorem wk_X6_delivers (B : Nat) : fw_Wk B fl_X6 (cal_X6_delivers B) [] cst_X6 none kX6_delivers 4 (ct_X6_delivers B) := by
  intro as M Q QX h
  unfold ct_X6_delivers at h
  split at h
  · obtain ⟨rfl, c, p, hc, hp, rfl, rfl, hLG, hn, hn6, ⟨k, hk, ek⟩, h⟩ := h
    have eL : ∀ x, 8 ≤ x → x < 14 → sP (dl1 (mS B M) p) p x = sP (mS B M) p x := fun x h1 h2 => by rw [dl1_P (by omega) (by omega) (by omega), if_neg (by omega)]
    have hLG2 : LG (dl1 (mS B M) p) p := by
      obtain ⟨L, h1, h2⟩ := hLG
      exact ⟨L, fun c hc => ⟨(h1 c hc).1, by rw [eL _ (by omega) (by omega)]; exact (h1 c hc).2⟩, h2⟩
    have e2 : dl1 (mS B M) p 2 = mS B M 2 := dl1_lo (by decide)
    have hn2 : dl1 (mS B M) p 2 = nI (cn (dl1 (mS B M) p)) := by rw [e2, cn_eq e2]; exact hn
    have hn62 : cn (dl1 (mS B M) p) ≤ 6 := by rw [cn_eq e2]; exact hn6
    have ek : mS B M (37 + 20 * p + 3) = nI k := ek
    refine ⟨rfl, [], ⟨200, ?_⟩, nofun⟩
    refine And.intro kd_492 (And.intro kd_493 (And.intro (vn_493 (i := 0) (by decide)) (And.intro kd_492 (And.intro rfl (And.intro (vP2 hp) ?_)))))
    refine And.intro (fun h1 => ?_) (fun h1 => ?_)
    · simp (disch := omega) only [cx0, cx1, cx2, cx3, cx4, px0, px1, px2, px3, px4, px5, px6, px7, pxL, pxS, n_cl, cl0, cl1, cl2, cl3, cl4, cl5, cl6, b493, b494, b495, b496, b497] at h1
      have hpay : mS B M (37 + 20 * p + 3) / 2 = payS (mS B M) p := (if_neg (Int32.not_le.mpr h1)).symm
      have hpk : mS B M (37 + 20 * p + 3) / 2 = nI (k / 2) := by rw [ek, n2, pk_div (by omega) (by decide) (by decide)]
      refine And.intro kd_492 (And.intro rfl (And.intro (vP3 hp) (And.intro (fw_sd_i (by decide)) ?_)))
      refine And.intro kd_492 (And.intro rfl (And.intro (vP4 hp) (And.intro kd_492 (And.intro kd_493 (And.intro (vn_493 (i := 0) (by decide)) (And.intro kd_492 (And.intro rfl (And.intro (vP6 hp) (And.intro kd_492 (And.intro rfl (And.intro (vP7 hp) ?_)))))))))))
      refine And.intro kd_492 (And.intro kd_493 (And.intro (vn_493 (i := 6) (by decide)) (And.intro kd_493 (And.intro (vn_493 (i := 6) (by decide)) ?_))))
      refine And.intro kd_492 (And.intro rfl (Exists.intro p (Exists.intro (k / 2) (And.intro hp (And.intro (by omega) (And.intro rfl (And.intro ?_ (And.intro ?_ (And.intro ?_ (And.intro ?_ ?_))))))))))
      · simp (disch := omega) only [cx0, cx1, cx2, cx3, cx4, px0, px1, px2, px3, px4, px5, px6, px7, pxL, pxS, n_cl, cl0, cl1, cl2, cl3, cl4, cl5, cl6, b493, b494, b495, b496, b497]
        exact hpk
      · simp (disch := omega) only [cx0, cx1, cx2, cx3, cx4, px0, px1, px2, px3, px4, px5, px6, px7, pxL, pxS, n_cl, cl0, cl1, cl2, cl3, cl4, cl5, cl6, b493, b494, b495, b496, b497, row_1, row_row, st_row, upd_s, upd_n, mS_K, mK_K]
        rw [hpay]
        exact hLG2
      · simp (disch := omega) only [cx0, cx1, cx2, cx3, cx4, px0, px1, px2, px3, px4, px5, px6, px7, pxL, pxS, n_cl, cl0, cl1, cl2, cl3, cl4, cl5, cl6, b493, b494, b495, b496, b497, row_1, row_row, st_row, upd_s, upd_n, mS_K, mK_K]
        rw [hpay]
        exact hn2
      · simp (disch := omega) only [cx0, cx1, cx2, cx3, cx4, px0, px1, px2, px3, px4, px5, px6, px7, pxL, pxS, n_cl, cl0, cl1, cl2, cl3, cl4, cl5, cl6, b493, b494, b495, b496, b497, row_1, row_row, st_row, upd_s, upd_n, mS_K, mK_K]
        rw [hpay]
        exact hn62
      · refine And.intro kd_492 (And.intro rfl (Exists.intro c (And.intro hc (And.intro rfl ?_))))
        conv => whnf
        simp (disch := omega) only [cx0, cx1, cx2, cx3, cx4, px0, px1, px2, px3, px4, px5, px6, px7, pxL, pxS, n_cl, cl0, cl1, cl2, cl3, cl4, cl5, cl6, b493, b494, b495, b496, b497, row_1, row_row, st_row, upd_s, upd_n, mS_K, mK_K]
        rw [hpay]
        exact h
    · simp (disch := omega) only [cx0, cx1, cx2, cx3, cx4, px0, px1, px2, px3, px4, px5, px6, px7, pxL, pxS, n_cl, cl0, cl1, cl2, cl3, cl4, cl5, cl6, b493, b494, b495, b496, b497] at h1
      have hpay : mS B M (37 + 20 * p + 3) = payS (mS B M) p := (if_pos (Int32.not_lt.mp h1)).symm
      refine And.intro kd_492 (And.intro rfl (And.intro (vP3 hp) ?_))
      refine And.intro kd_492 (And.intro rfl (And.intro (vP4 hp) (And.intro kd_492 (And.intro kd_493 (And.intro (vn_493 (i := 0) (by decide)) (And.intro kd_492 (And.intro rfl (And.intro (vP6 hp) (And.intro kd_492 (And.intro rfl (And.intro (vP7 hp) ?_)))))))))))
      refine And.intro kd_492 (And.intro kd_493 (And.intro (vn_493 (i := 6) (by decide)) (And.intro kd_493 (And.intro (vn_493 (i := 6) (by decide)) ?_))))
      refine And.intro kd_492 (And.intro rfl (Exists.intro p (Exists.intro k (And.intro hp (And.intro (by omega) (And.intro rfl (And.intro ?_ (And.intro ?_ (And.intro ?_ (And.intro ?_ ?_))))))))))
      · simp (disch := omega) only [cx0, cx1, cx2, cx3, cx4, px0, px1, px2, px3, px4, px5, px6, px7, pxL, pxS, n_cl, cl0, cl1, cl2, cl3, cl4, cl5, cl6, b493, b494, b495, b496, b497]
        exact ek
      · simp (disch := omega) only [cx0, cx1, cx2, cx3, cx4, px0, px1, px2, px3, px4, px5, px6, px7, pxL, pxS, n_cl, cl0, cl1, cl2, cl3, cl4, cl5, cl6, b493, b494, b495, b496, b497, row_1, row_row, st_row, upd_s, upd_n, mS_K, mK_K]
        rw [hpay]
        exact hLG2
      · simp (disch := omega) only [cx0, cx1, cx2, cx3, cx4, px0, px1, px2, px3, px4, px5, px6, px7, pxL, pxS, n_cl, cl0, cl1, cl2, cl3, cl4, cl5, cl6, b493, b494, b495, b496, b497, row_1, row_row, st_row, upd_s, upd_n, mS_K, mK_K]
        rw [hpay]
        exact hn2
      · simp (disch := omega) only [cx0, cx1, cx2, cx3, cx4, px0, px1, px2, px3, px4, px5, px6, px7, pxL, pxS, n_cl, cl0, cl1, cl2, cl3, cl4, cl5, cl6, b493, b494, b495, b496, b497, row_1, row_row, st_row, upd_s, upd_n, mS_K, mK_K]
        rw [hpay]
        exact hn62
      · refine And.intro kd_492 (And.intro rfl (Exists.intro c (And.intro hc (And.intro rfl ?_))))
        conv => whnf
        simp (disch := omega) only [cx0, cx1, cx2, cx3, cx4, px0, px1, px2, px3, px4, px5, px6, px7, pxL, pxS, n_cl, cl0, cl1, cl2, cl3, cl4, cl5, cl6, b493, b494, b495, b496, b497, row_1, row_row, st_row, upd_s, upd_n, mS_K, mK_K]
        rw [hpay]
        exact h
  · exact h.elim
set_option maxRecDepth 100000 in
theorem wk_X6_failsOf (B : Nat) : fw_Wk B fl_X6 (cal_X6_failsOf B) [] cst_X6 none kX6_failsOf 3 (ct_X6_failsOf B) := by
  intro as M Q QX h
  unfold ct_X6_failsOf at h
  split at h
  · obtain ⟨rfl, p, hp, rfl, hn, hn6, h⟩ := h
    unfold faiS at h
    generalize hN : cn (mS B M) = N at hn hn6 h
    have e2 : ∀ i, mS B (mK B M (frW (uP (mS B M) p 4 3) p i)) 2 = nI N := fun i => by rw [mS_K, frW_lo (by decide), uP_lo (by decide), hn]
    refine ⟨rfl, [(9, [true, true, true], fun n ls st M' => ∃ i, n = N - i ∧ i ≤ N ∧ ls = [some (.ref (B + 492)), some (.int (nI p)), some (.int (nI i))] ∧ st = [] ∧ M' = mK B M (frW (uP (mS B M) p 4 3) p i))], ⟨20, ?_⟩, ?_⟩
    · refine And.intro kd_492 (And.intro rfl (And.intro (vP4 hp) (Exists.intro N (Exists.intro 0 ⟨rfl, by omega, rfl, rfl, ?_⟩))))
      rw [px4, n_cl (by omega)]
      rfl
    · intro q hq n ls st M' hi
      cases List.mem_singleton.mp hq
      obtain ⟨i, rfl, hi, rfl, rfl, rfl⟩ := hi
      refine ⟨60, And.intro kd_492 (And.intro kd_493 (And.intro (vn_493 (i := 2) (by decide)) (And.intro (fun h1 => ?_) (fun h1 => ?_))))⟩
      · have h1 : mS B (mK B M (frW (uP (mS B M) p 4 3) p i)) 2 ≤ nI i := h1
        rw [e2, n_ge (by omega) (by omega)] at h1
        rw [show i = N by omega]
        exact h
      · have h1 : ¬ mS B (mK B M (frW (uP (mS B M) p 4 3) p i)) 2 ≤ nI i := h1
        rw [e2, n_ge (by omega) (by omega)] at h1
        refine And.intro kd_492 (And.intro rfl (And.intro (vC4 (by omega)) ?_))
        refine And.intro (fun h2 => ?_) (fun h2 => ?_)
        · simp (disch := omega) only [cx0, cx1, cx2, cx3, cx4, px0, px1, px2, px3, px4, px5, px6, px7, pxL, pxS, n_cl, cl0, cl1, cl2, cl3, cl4, cl5, cl6, b493, b494, b495, b496, b497, mS_K] at h2
          refine Exists.intro (N - (i + 1)) (And.intro (by omega) (Exists.intro (i + 1) ⟨rfl, by omega, ?_, rfl, ?_⟩))
          · show [some (Value.ref (B + 492)), some (Value.int (nI p)), some (Value.int (nI i + 1))] = _
            rw [nI_1]
          · rw [frW, if_neg (show ¬ sC (frW (uP (mS B M) p 4 3) p i) i 4 = nI p from h2)]
        · simp (disch := omega) only [cx0, cx1, cx2, cx3, cx4, px0, px1, px2, px3, px4, px5, px6, px7, pxL, pxS, n_cl, cl0, cl1, cl2, cl3, cl4, cl5, cl6, b493, b494, b495, b496, b497, mS_K] at h2
          refine And.intro kd_492 (And.intro rfl (Exists.intro i (And.intro (by omega) (And.intro rfl ?_))))
          refine Exists.intro (N - (i + 1)) (And.intro (by omega) (Exists.intro (i + 1) ⟨rfl, by omega, ?_, rfl, ?_⟩))
          · show [some (Value.ref (B + 492)), some (Value.int (nI p)), some (Value.int (nI i + 1))] = _
            rw [nI_1]
          · rw [mS_K, mK_K, frW, if_pos (show sC (frW (uP (mS B M) p 4 3) p i) i 4 = nI p from h2)]
  · exact h.elim
set_option maxRecDepth 100000 in
theorem wk_X6_carries (B : Nat) : fw_Wk B fl_X6 (cal_X6_carries B) [] cst_X6 none kX6_carries 4 (ct_X6_carries B) := by
  intro as M Q QX h
  unfold ct_X6_carries at h
  split at h
  · obtain ⟨rfl, t, c, p, ht, hW, hcn, hpn, rfl, rfl, h⟩ := h
    have hn6 := hW.2.1
    have hm24 := hW.2.2.2.1
    have hc : c < 6 := by omega
    have hp : p < 24 := by omega
    generalize hz : nxz (sC (mS B M) c 1) (sP (mS B M) p 1) = z at h
    have hz2 : nxz (mS B M (7 + 5 * c + 1)) (mS B M (37 + 20 * p + 1)) = z := hz
    unfold carS at h
    rw [hz] at h
    refine ⟨rfl, [], ⟨200, ?_⟩, nofun⟩
    refine And.intro kd_492 (And.intro rfl (And.intro (vC1 hc) (And.intro kd_492 (And.intro rfl (And.intro (vP1 hp) ?_)))))
    refine And.intro kd_492 (And.intro rfl (Exists.intro c (And.intro hc (And.intro rfl ?_))))
    refine And.intro (fun h1 => ?_) (fun h1 => ?_)
    · have h1 := bi_n0.mp h1
      simp (disch := omega) only [cx0, cx1, cx2, cx3, cx4, px0, px1, px2, px3, px4, px5, px6, px7, pxL, pxS, n_cl, cl0, cl1, cl2, cl3, cl4, cl5, cl6, b493, b494, b495, b496, b497] at h1
      rw [hz2] at h1
      rw [if_pos h1] at h
      have elp : sP (legS (mS B M) c p z) p 1 = sP (mS B M) p 1 := by rw [legS_P hc (by decide), if_neg (by omega), if_neg (by omega)]
      refine And.intro kd_492 (And.intro rfl (And.intro (vC1 hc) ?_))
      refine And.intro kd_492 (And.intro kd_493 (And.intro (vn_493 (i := 5) (by decide)) (And.intro kd_493 (And.intro (vn_493 (i := 5) (by decide)) ?_))))
      refine And.intro kd_492 (And.intro rfl (And.intro (vP5 hp) (And.intro kd_492 (And.intro rfl (And.intro (vPL hp hc) (And.intro kd_492 (And.intro rfl (And.intro (vPL hp hc) ?_))))))))
      refine And.intro kd_492 (And.intro rfl (And.intro (vP1 hp) ?_))
      have ecn : cn (legS (mS B M) c p z) = cn (mS B M) := cn_eq (legS_lo (by decide))
      refine And.intro (fun h2 => ?_) (fun h2 => ?_)
      · conv => whnf
        simp (disch := omega) only [cx0, cx1, cx2, cx3, cx4, px0, px1, px2, px3, px4, px5, px6, px7, pxL, pxS, n_cl, cl0, cl1, cl2, cl3, cl4, cl5, cl6, b493, b494, b495, b496, b497, row_1, row_row, st_row, upd_s, upd_n, mS_K, mK_K] at h2 ⊢
        rw [hz2] at h2
        rw [hz2]
        rw [if_neg (show ¬ z = sP (mS B M) p 1 from h2)] at h
        exact h
      · simp (disch := omega) only [cx0, cx1, cx2, cx3, cx4, px0, px1, px2, px3, px4, px5, px6, px7, pxL, pxS, n_cl, cl0, cl1, cl2, cl3, cl4, cl5, cl6, b493, b494, b495, b496, b497, row_1, row_row, st_row, upd_s, upd_n, mS_K, mK_K] at h2
        rw [hz2] at h2
        rw [if_pos (show z = sP (mS B M) p 1 from h2)] at h
        obtain ⟨k, hk, ek⟩ := (hW.2.2.2.2.2.2 p hpn).2.2.1
        have hWp := hW.2.2.2.2.2.2 p hpn
        obtain ⟨kc, hkc, ekc⟩ := hWp.2.2.2.2.2 c hc
        refine And.intro kd_492 (And.intro rfl (Exists.intro c (Exists.intro p (And.intro hc (And.intro hp (And.intro rfl (And.intro rfl (And.intro ?_ (And.intro ?_ (And.intro ?_ (And.intro ⟨k, hk, ?_⟩ ?_)))))))))))
        · simp (disch := omega) only [cx0, cx1, cx2, cx3, cx4, px0, px1, px2, px3, px4, px5, px6, px7, pxL, pxS, n_cl, cl0, cl1, cl2, cl3, cl4, cl5, cl6, b493, b494, b495, b496, b497, row_1, row_row, st_row, upd_s, upd_n, mS_K, mK_K]
          rw [hz2]
          show LG (legS (mS B M) c p z) p
          have hch : ∀ d, ∃ k, d < 6 → k ≤ t + 1 ∧ sP (legS (mS B M) c p z) p (8 + d) = nI k := fun d => by
            by_cases hd : d < 6
            · obtain ⟨kd, h1, h2⟩ := hWp.2.2.2.2.2 d hd
              by_cases e : d = c
              · refine ⟨kc + 1, fun _ => ⟨by omega, ?_⟩⟩
                rw [legS_P hc (by omega), if_pos ⟨rfl, by omega⟩, ekc, nI_1]
              · refine ⟨kd, fun _ => ⟨by omega, ?_⟩⟩
                rw [legS_P hc (by omega), if_neg (by omega), if_neg (by omega), h2]
            · exact ⟨0, fun z => absurd z hd⟩
          obtain ⟨L, hL⟩ := Classical.axiomOfChoice hch
          refine ⟨L, fun d hd => ⟨by have := (hL d hd).1; omega, (hL d hd).2⟩, c, hc, ?_⟩
          have h9 := hL c hc
          rw [legS_P hc (by omega), if_pos ⟨rfl, rfl⟩, ekc, nI_1, nI_eq (by omega) (by omega)] at h9
          omega
        · simp (disch := omega) only [cx0, cx1, cx2, cx3, cx4, px0, px1, px2, px3, px4, px5, px6, px7, pxL, pxS, n_cl, cl0, cl1, cl2, cl3, cl4, cl5, cl6, b493, b494, b495, b496, b497, row_1, row_row, st_row, upd_s, upd_n, mS_K, mK_K]
          rw [hz2]
          show mS B M 2 = nI (cn (legS (mS B M) c p z))
          rw [ecn]
          exact hW.1
        · simp (disch := omega) only [cx0, cx1, cx2, cx3, cx4, px0, px1, px2, px3, px4, px5, px6, px7, pxL, pxS, n_cl, cl0, cl1, cl2, cl3, cl4, cl5, cl6, b493, b494, b495, b496, b497, row_1, row_row, st_row, upd_s, upd_n, mS_K, mK_K]
          rw [hz2]
          show cn (legS (mS B M) c p z) ≤ 6
          rw [ecn]
          exact hn6
        · simp (disch := omega) only [cx0, cx1, cx2, cx3, cx4, px0, px1, px2, px3, px4, px5, px6, px7, pxL, pxS, n_cl, cl0, cl1, cl2, cl3, cl4, cl5, cl6, b493, b494, b495, b496, b497, row_1, row_row, st_row, upd_s, upd_n, mS_K, mK_K]
          rw [hz2]
          show sP (legS (mS B M) c p z) p 3 = nI k
          rw [legS_P hc (by decide), if_neg (by omega), if_neg (by omega)]
          exact ek
        · conv => whnf
          simp (disch := omega) only [cx0, cx1, cx2, cx3, cx4, px0, px1, px2, px3, px4, px5, px6, px7, pxL, pxS, n_cl, cl0, cl1, cl2, cl3, cl4, cl5, cl6, b493, b494, b495, b496, b497, row_1, row_row, st_row, upd_s, upd_n, mS_K, mK_K]
          rw [hz2]
          exact h
    · have h1 := bi_0.mp h1
      simp (disch := omega) only [cx0, cx1, cx2, cx3, cx4, px0, px1, px2, px3, px4, px5, px6, px7, pxL, pxS, n_cl, cl0, cl1, cl2, cl3, cl4, cl5, cl6, b493, b494, b495, b496, b497] at h1
      rw [hz2] at h1
      rw [if_neg (by rw [h1]; decide)] at h
      refine And.intro kd_492 (And.intro rfl (And.intro (vP4 hp) ?_))
      refine And.intro kd_492 (And.intro kd_493 (And.intro (vn_493 (i := 4) (by decide)) (And.intro kd_493 (And.intro (vn_493 (i := 4) (by decide)) ?_))))
      refine And.intro kd_492 (And.intro rfl (Exists.intro c (And.intro hc (And.intro rfl ?_))))
      conv => whnf
      simp (disch := omega) only [cx0, cx1, cx2, cx3, cx4, px0, px1, px2, px3, px4, px5, px6, px7, pxL, pxS, n_cl, cl0, cl1, cl2, cl3, cl4, cl5, cl6, b493, b494, b495, b496, b497, row_1, row_row, st_row, upd_s, upd_n, mS_K, mK_K]
      exact h
  · exact h.elim
set_option maxRecDepth 100000 in
theorem wk_X6_tick (B : Nat) : fw_Wk B fl_X6 (cal_X6_tick B) [] cst_X6 none kX6_tick 3 (ct_X6_tick B) := by
  intro as M Q QX h
  unfold ct_X6_tick at h
  split at h
  · obtain ⟨rfl, t, ht, hW, h⟩ := h
    have hn6 := hW.2.1
    have hm24 := hW.2.2.2.1
    have hn := hW.1
    have hm := hW.2.2.1
    have hA : WF (t + 6) (tkA (mS B M)) := WF_tkA hW
    have ecA : cn (tkA (mS B M)) = cn (mS B M) := cn_eq (tkA_lo (by decide) (by decide))
    have epA : pn (tkA (mS B M)) = pn (mS B M) := pn_eq (tkA_lo (by decide) (by decide))
    generalize hN : cn (mS B M) = N at hn hn6 ecA
    generalize hP : pn (mS B M) = P at hm hm24 epA
    have eT : cn (upd (mS B M) 0 (mS B M 0 + 1)) = N := by rw [cn_eq (upd_n (by decide)), hN]
    have hWi : ∀ i, i ≤ N → WF (t + i) (actW (upd (mS B M) 0 (mS B M 0 + 1)) i) := fun i hi => WF_actW (WF_time _ hW) i (by rw [eT]; exact hi)
    have eci : ∀ i, cn (actW (upd (mS B M) 0 (mS B M 0 + 1)) i) = N := fun i => by rw [cn_eq (actW_lo (by decide) i), eT]
    have e2 : ∀ i, mS B (mK B M (actW (upd (mS B M) 0 (mS B M 0 + 1)) i)) 2 = nI N := fun i => by rw [mS_K, actW_lo (by decide), upd_n (by decide), hn]
    have e3 : ∀ i, mS B (mK B M (flW (tkA (mS B M)) i)) 3 = nI P := fun i => by rw [mS_K, flW_lo (by decide), tkA_lo (by decide) (by decide), hm]
    have eA : actW (upd (mS B M) 0 (mS B M 0 + 1)) N = tkA (mS B M) := by unfold tkA; rw [hN]
    refine ⟨rfl, [
      (12, [true, true, false], fun n ls st M' => ∃ i, n = 100 + (N - i) ∧ i ≤ N ∧ ls = [some (.ref (B + 492)), some (.int (nI i)), none] ∧ st = [] ∧ M' = mK B M (actW (upd (mS B M) 0 (mS B M 0 + 1)) i)),
      (89, [true, true, false], fun n ls st M' => ∃ i, n = P - i ∧ i ≤ P ∧ ls = [some (.ref (B + 492)), some (.int (nI i)), none] ∧ st = [] ∧ M' = mK B M (flW (tkA (mS B M)) i))], ⟨20, ?_⟩, ?_⟩
    · refine And.intro kd_492 (And.intro kd_493 (And.intro (vn_493 (i := 0) (by decide)) (And.intro kd_493 (And.intro (vn_493 (i := 0) (by decide)) ?_))))
      exact Exists.intro (100 + N) (Exists.intro 0 ⟨rfl, by omega, rfl, rfl, rfl⟩)
    · intro q hq n ls st M' hi
      simp only [List.mem_cons, List.not_mem_nil, or_false] at hq
      rcases hq with rfl | rfl
      · obtain ⟨i, rfl, hi, rfl, rfl, rfl⟩ := hi
        have hWw := hWi i hi
        have hcw := eci i
        have e2i := e2 i
        generalize hS1 : actW (upd (mS B M) 0 (mS B M 0 + 1)) i = S1 at hWw hcw e2i
        refine ⟨100, And.intro kd_492 (And.intro kd_493 (And.intro (vn_493 (i := 2) (by decide)) (And.intro (fun h1 => ?_) (fun h1 => ?_))))⟩
        · have h1 : mS B (mK B M S1) 2 ≤ nI i := h1
          rw [e2i, n_ge (by omega) (by omega)] at h1
          refine Exists.intro P (And.intro (by omega) (Exists.intro 0 ⟨rfl, by omega, rfl, rfl, ?_⟩))
          rw [← hS1, show i = N by omega, eA]
          rfl
        · have h1 : ¬ mS B (mK B M S1) 2 ≤ nI i := h1
          rw [e2i, n_ge (by omega) (by omega)] at h1
          have hsucc : actW (upd (mS B M) 0 (mS B M 0 + 1)) (i + 1) = actS S1 i := by rw [actW, hS1]
          have key : ∀ S2, actS S1 i = S2 → ∃ n', n' < 100 + (N - i) ∧ ∃ j, n' = 100 + (N - j) ∧ j ≤ N ∧ [some (Value.ref (B + 492)), some (Value.int (nI i + 1)), none] = [some (.ref (B + 492)), some (.int (nI j)), none] ∧ ([] : List Value) = [] ∧ mK B M S2 = mK B M (actW (upd (mS B M) 0 (mS B M 0 + 1)) j) := by
            intro S2 h2
            exact ⟨100 + (N - (i + 1)), by omega, i + 1, rfl, by omega, by rw [nI_1], rfl, by rw [hsucc, h2]⟩
          have hic : i < cn S1 := by omega
          have hi6 : i < 6 := by omega
          have es1 : mS B (mK B M S1) = S1 := mS_K
          refine And.intro kd_492 (And.intro rfl (And.intro (vC4 hi6) (And.intro kd_492 (And.intro rfl (And.intro (vC3 hi6) ?_)))))
          refine And.intro (fun h2 => ?_) (fun h2 => ?_)
          · simp (disch := omega) only [cx0, cx1, cx2, cx3, cx4, px0, px1, px2, px3, px4, px5, px6, px7, pxL, pxS, n_cl, cl0, cl1, cl2, cl3, cl4, cl5, cl6, b493, b494, b495, b496, b497, mS_K] at h2
            refine And.intro kd_492 (And.intro rfl (And.intro (vC3 hi6) ?_))
            refine And.intro (fun h3 => ?_) (fun h3 => ?_)
            · simp (disch := omega) only [cx0, cx1, cx2, cx3, cx4, px0, px1, px2, px3, px4, px5, px6, px7, pxL, pxS, n_cl, cl0, cl1, cl2, cl3, cl4, cl5, cl6, b493, b494, b495, b496, b497, mS_K] at h3
              refine And.intro kd_492 (And.intro rfl (Exists.intro i (And.intro hi6 (And.intro rfl (And.intro ?_ (And.intro ?_ (And.intro ?_ (And.intro ?_ ?_))))))))
              · rw [mS_K]; exact hWw.1
              · rw [mS_K]; exact hWw.2.1
              · rw [mS_K]; exact hWw.2.2.1
              · rw [mS_K]; exact hWw.2.2.2.1
              · rw [mS_K, mK_K]
                refine key _ ?_
                unfold actS
                rw [if_neg (show ¬ sC S1 i 3 = 2 from h2), if_neg (show ¬ (sC S1 i 3 = 1 ∧ _) from fun z => h3 z.1)]
            · simp (disch := omega) only [cx0, cx1, cx2, cx3, cx4, px0, px1, px2, px3, px4, px5, px6, px7, pxL, pxS, n_cl, cl0, cl1, cl2, cl3, cl4, cl5, cl6, b493, b494, b495, b496, b497, mS_K] at h3
              have h3 : sC S1 i 3 = 1 := h3
              obtain ⟨p, hp, ep, ep2⟩ := WF_with hWw hic (by rw [h3]; decide)
              have hm1 := hWw.2.2.2.1
              have ep' : mS B (mK B M S1) ((7 : Int32) + 5 * nI i + 4).toNatClampNeg = nI p := by rw [cx4, n_cl (by omega), mS_K]; exact ep
              refine And.intro kd_492 (And.intro rfl (And.intro (by rw [ep']; exact vP4 (by omega)) ?_))
              refine And.intro (fun h4 => ?_) (fun h4 => ?_)
              · rw [ep'] at h4
                simp (disch := omega) only [cx0, cx1, cx2, cx3, cx4, px0, px1, px2, px3, px4, px5, px6, px7, pxL, pxS, n_cl, cl0, cl1, cl2, cl3, cl4, cl5, cl6, b493, b494, b495, b496, b497, mS_K] at h4
                refine And.intro kd_492 (And.intro rfl (Exists.intro i (And.intro hi6 (And.intro rfl (And.intro ?_ (And.intro ?_ (And.intro ?_ (And.intro ?_ ?_))))))))
                · rw [mS_K]; exact hWw.1
                · rw [mS_K]; exact hWw.2.1
                · rw [mS_K]; exact hWw.2.2.1
                · rw [mS_K]; exact hWw.2.2.2.1
                · rw [mS_K, mK_K]
                  refine key _ ?_
                  unfold actS
                  rw [if_neg (show ¬ sC S1 i 3 = 2 from h2), ep2, if_neg (show ¬ (sC S1 i 3 = 1 ∧ sP S1 p 4 = 0) from fun z => h4 z.2)]
              · rw [ep'] at h4
                simp (disch := omega) only [cx0, cx1, cx2, cx3, cx4, px0, px1, px2, px3, px4, px5, px6, px7, pxL, pxS, n_cl, cl0, cl1, cl2, cl3, cl4, cl5, cl6, b493, b494, b495, b496, b497, mS_K] at h4
                refine And.intro kd_492 (And.intro rfl (Exists.intro i (Exists.intro p (And.intro hi6 (And.intro (by omega) (And.intro rfl (And.intro ep' ?_)))))))
                rw [mS_K, mK_K]
                refine key _ ?_
                unfold actS
                rw [if_neg (show ¬ sC S1 i 3 = 2 from h2), ep2, if_pos (show (sC S1 i 3 = 1 ∧ sP S1 p 4 = 0) from ⟨h3, h4⟩)]
          · simp (disch := omega) only [cx0, cx1, cx2, cx3, cx4, px0, px1, px2, px3, px4, px5, px6, px7, pxL, pxS, n_cl, cl0, cl1, cl2, cl3, cl4, cl5, cl6, b493, b494, b495, b496, b497, mS_K] at h2
            have h2 : sC S1 i 3 = 2 := h2
            obtain ⟨p, hp, ep, ep2⟩ := WF_with hWw hic (by rw [h2]; decide)
            have ep' : mS B (mK B M S1) ((7 : Int32) + 5 * nI i + 4).toNatClampNeg = nI p := by rw [cx4, n_cl (by omega), mS_K]; exact ep
            refine And.intro kd_492 (And.intro rfl (Exists.intro (t + i) (Exists.intro i (Exists.intro p (And.intro (by omega) (And.intro (by rw [mS_K]; exact hWw) (And.intro (by rw [mS_K]; exact hic) (And.intro (by rw [mS_K]; exact hp) (And.intro rfl (And.intro ep' ?_))))))))))
            rw [mS_K, mK_K]
            refine key _ ?_
            unfold actS
            rw [if_pos h2, ep2]
      · obtain ⟨i, rfl, hi, rfl, rfl, rfl⟩ := hi
        have hWw : WF (t + 6) (flW (tkA (mS B M)) i) := WF_flW hA i (by rw [epA]; exact hi)
        have e3i := e3 i
        have hcw : cn (flW (tkA (mS B M)) i) = N := by rw [cn_eq (flW_lo (by decide) i), ecA]
        have hh : Q none (mK B M (flW (tkA (mS B M)) P)) := by unfold tickS at h; rw [hP] at h; exact h
        have hsucc : ∀ S1, flW (tkA (mS B M)) i = S1 → flW (tkA (mS B M)) (i + 1) = if sP S1 i 4 < 2 ∧ sP S1 i 2 + S1 1 < S1 0 then faiS S1 i else S1 := fun S1 z => by rw [flW, z]
        generalize hS1 : flW (tkA (mS B M)) i = S1 at hWw e3i hcw
        have hsucc := hsucc S1 hS1
        refine ⟨100, And.intro kd_492 (And.intro kd_493 (And.intro (vn_493 (i := 3) (by decide)) (And.intro (fun h1 => ?_) (fun h1 => ?_))))⟩
        · have h1 : mS B (mK B M S1) 3 ≤ nI i := h1
          rw [e3i, n_ge (by omega) (by omega)] at h1
          rw [← hS1, show i = P by omega]
          exact hh
        · have h1 : ¬ mS B (mK B M S1) 3 ≤ nI i := h1
          rw [e3i, n_ge (by omega) (by omega)] at h1
          have key : ∀ S2, flW (tkA (mS B M)) (i + 1) = S2 → ∃ n', n' < P - i ∧ ∃ j, n' = P - j ∧ j ≤ P ∧ [some (Value.ref (B + 492)), some (Value.int (nI i + 1)), none] = [some (.ref (B + 492)), some (.int (nI j)), none] ∧ ([] : List Value) = [] ∧ mK B M S2 = mK B M (flW (tkA (mS B M)) j) := by
            intro S2 h2
            exact ⟨P - (i + 1), by omega, i + 1, rfl, by omega, by rw [nI_1], rfl, by rw [h2]⟩
          have hi24 : i < 24 := by omega
          refine And.intro kd_492 (And.intro rfl (And.intro (vP4 hi24) ?_))
          refine And.intro (fun h2 => ?_) (fun h2 => ?_)
          · simp (disch := omega) only [cx0, cx1, cx2, cx3, cx4, px0, px1, px2, px3, px4, px5, px6, px7, pxL, pxS, n_cl, cl0, cl1, cl2, cl3, cl4, cl5, cl6, b493, b494, b495, b496, b497, mS_K] at h2
            refine key _ ?_
            rw [hsucc, if_neg (show ¬ (sP S1 i 4 < 2 ∧ _) from fun z => absurd z.1 (Int32.not_lt.mpr h2))]
          · simp (disch := omega) only [cx0, cx1, cx2, cx3, cx4, px0, px1, px2, px3, px4, px5, px6, px7, pxL, pxS, n_cl, cl0, cl1, cl2, cl3, cl4, cl5, cl6, b493, b494, b495, b496, b497, mS_K] at h2
            refine And.intro kd_492 (And.intro rfl (And.intro (vP2 hi24) (And.intro kd_492 (And.intro kd_493 (And.intro (vn_493 (i := 1) (by decide)) (And.intro kd_492 (And.intro kd_493 (And.intro (vn_493 (i := 0) (by decide)) ?_))))))))
            refine And.intro (fun h3 => ?_) (fun h3 => ?_)
            · simp (disch := omega) only [cx0, cx1, cx2, cx3, cx4, px0, px1, px2, px3, px4, px5, px6, px7, pxL, pxS, n_cl, cl0, cl1, cl2, cl3, cl4, cl5, cl6, b493, b494, b495, b496, b497, mS_K] at h3
              refine key _ ?_
              rw [hsucc, if_neg (show ¬ (sP S1 i 4 < 2 ∧ sP S1 i 2 + S1 1 < S1 0) from fun z => absurd z.2 (Int32.not_lt.mpr h3))]
            · simp (disch := omega) only [cx0, cx1, cx2, cx3, cx4, px0, px1, px2, px3, px4, px5, px6, px7, pxL, pxS, n_cl, cl0, cl1, cl2, cl3, cl4, cl5, cl6, b493, b494, b495, b496, b497, mS_K] at h3
              refine And.intro kd_492 (And.intro rfl (Exists.intro i (And.intro hi24 (And.intro rfl (And.intro ?_ (And.intro ?_ ?_))))))
              · rw [mS_K]; exact hWw.1
              · rw [mS_K]; exact hWw.2.1
              · rw [mS_K, mK_K]
                refine key _ ?_
                rw [hsucc, if_pos (show (sP S1 i 4 < 2 ∧ sP S1 i 2 + S1 1 < S1 0) from ⟨Int32.not_le.mp h2, Int32.not_le.mp h3⟩)]
  · exact h.elim
set_option maxRecDepth 100000 in
theorem wk_X6_ticks (B : Nat) : fw_Wk B fl_X6 (cal_X6_ticks B) [] cst_X6 none kX6_ticks 3 (ct_X6_ticks B) := by
  intro as M Q QX h
  unfold ct_X6_ticks at h
  split at h
  · obtain ⟨rfl, t, N, ht, rfl, hW, h⟩ := h
    refine ⟨rfl, [(2, [true, true, true], fun n ls st M' => ∃ i, n = N - i ∧ i ≤ N ∧ ls = [some (.ref (B + 492)), some (.int (nI N)), some (.int (nI i))] ∧ st = [] ∧ M' = mK B M (tkN (mS B M) i))], ⟨20, ?_⟩, ?_⟩
    · exact Exists.intro N (Exists.intro 0 ⟨rfl, by omega, rfl, rfl, mK_S.symm⟩)
    · intro q hq n ls st M' hi
      cases List.mem_singleton.mp hq
      obtain ⟨i, rfl, hi, rfl, rfl, rfl⟩ := hi
      refine ⟨60, And.intro (fun h1 => ?_) (fun h1 => ?_)⟩
      · have h1 : nI N ≤ nI i := h1
        rw [n_ge (by omega) (by omega)] at h1
        rw [show i = N by omega]
        exact h
      · have h1 : ¬ nI N ≤ nI i := h1
        rw [n_ge (by omega) (by omega)] at h1
        refine And.intro kd_492 (And.intro rfl (Exists.intro (t + 6 * i) (And.intro (by omega) (And.intro (by rw [mS_K]; exact WF_tkN hW i) ?_))))
        refine Exists.intro (N - (i + 1)) (And.intro (by omega) (Exists.intro (i + 1) ⟨rfl, by omega, ?_, rfl, ?_⟩))
        · show [some (Value.ref (B + 492)), some (Value.int (nI N)), some (Value.int (nI i + 1))] = _
          rw [nI_1]
        · rw [mS_K, mK_K]
          rfl
  · exact h.elim
end WT

/-! CONSTRUCTORS: CourierRelay -/
section CN5
theorem ko_1 : ∀ j, j < 81 → fw_ko (1 + j) = fw_kx j := by decide +kernel
theorem ko_82 : ∀ j, j < 81 → fw_ko (82 + j) = fw_kx j := by decide +kernel
theorem ko_163 : ∀ j, j < 326 → fw_ko (163 + j) = if j = 0 then 2 else if j = 1 then 9 else fw_kx ((j - 2) % 81) := by decide +kernel
theorem eK_ln {g : fw_G} {k ln ln' a : Nat} (h : k ≠ 7) : eK g k ln a = eK g k ln' a := by
  unfold eK
  split <;> first | rfl | exact absurd rfl h
abbrev ri_X5 : Room := { frames := 4, cells := 491, slots := 3840, locals := 74 }
theorem in_X5 (l : Launch) (g : fw_G) : fw_Ini l g yX5_init cX5_init 1 ri_X5 491 3840 5 492 (fun j a => eK g (fw_ko j) (fw_lo j) a) := by
  refine ini_of (own := RX5) (io := 1) (by decide) rfl (by decide +kernel) rfl wob5 (by decide +kernel) (by decide +kernel) (by decide) (by decide) ?_
  intro p e s m args below meth c A la Qx En hin hcA hl h fin
  have hx := En.1
  have hb := En.2.1
  refine lv_aload_n hx hb (show decode cX5_init 4 = .ok (.aload_n 0, 1) by decide +kernel) rfl (lv_at hl 0 rfl) ?_
  refine cS_new (ci := 1) (index := 7) (fs := dF 1) En h (by decide) wq_X5_7 wb_RX1 wz_RX1 (by decide) (by decide) (by decide +kernel) (by decide +kernel) ?_
  intro G0 g0
  refine lv_dup hx hb (show decode cX5_init 8 = .ok (.dup, 1) by decide +kernel) rfl ?_
  refine cS_call (n := 81) (ci := 1) (k := 1) En hcA (in_X1 l g) hl.1 g0 rfl wl_X5_9 wi_X1_init wz_RX1 wc_X1_init rfl rfl rfl (by decide +kernel) ⟨by decide, by decide⟩ ⟨by decide, by decide⟩ (Nat.le_of_ble_eq_true rfl) (by decide +kernel) ?_
  intro C0 locc0 c0
  refine cS_putF (j0 := 0) (k := 82) (ci := 5) (f := 0) (index := 10) (fs := dF 5) (v := .ref (A + 1)) (ty := .object "CourierRelay$Exchange") En hin c0 (by decide) rfl rfl fl_X5_ok (by decide) (by decide) (by decide +kernel) rfl rfl rfl (by decide +kernel) ?_
  intro K0 locs0 k0
  refine lv_aload_n hx hb (show decode cX5_init 15 = .ok (.aload_n 0, 1) by decide +kernel) rfl (lv_at hl 0 rfl) ?_
  refine cS_new (ci := 1) (index := 7) (fs := dF 1) En k0 (by decide) wq_X5_7 wb_RX1 wz_RX1 (by decide) (by decide) (by decide +kernel) (by decide +kernel) ?_
  intro G1 g1
  refine lv_dup hx hb (show decode cX5_init 19 = .ok (.dup, 1) by decide +kernel) rfl ?_
  refine cS_call (n := 81) (ci := 1) (k := 82) En hcA (in_X1 l g) hl.1 g1 rfl wl_X5_9 wi_X1_init wz_RX1 wc_X1_init rfl rfl rfl (by decide +kernel) ⟨by decide, by decide⟩ ⟨by decide, by decide⟩ (Nat.le_of_ble_eq_true rfl) (by decide +kernel) ?_
  intro C1 locc1 c1
  refine cS_putF (j0 := 0) (k := 163) (ci := 5) (f := 1) (index := 16) (fs := (dF 5).set 0 (.ref (A + 1))) (v := .ref (A + 82)) (ty := .object "CourierRelay$Exchange") En hin c1 (by decide) rfl rfl fl_X5_ok (by decide) (by decide) (by decide +kernel) rfl rfl rfl (by decide +kernel) ?_
  intro K1 locs1 k1
  refine lv_aload_n hx hb (show decode cX5_init 26 = .ok (.aload_n 0, 1) by decide +kernel) rfl (lv_at hl 0 rfl) ?_
  refine cS_new (ci := 2) (index := 19) (fs := dF 2) En k1 (by decide) wq_X5_19 wb_RX2 wz_RX2 (by decide) (by decide) (by decide +kernel) (by decide +kernel) ?_
  intro G2 g2
  refine lv_dup hx hb (show decode cX5_init 30 = .ok (.dup, 1) by decide +kernel) rfl ?_
  refine cS_call (n := 326) (ci := 2) (k := 163) En hcA (in_X2 l g) hl.1 g2 rfl wl_X5_21 wi_X2_init wz_RX2 wc_X2_init rfl rfl rfl (by decide +kernel) ⟨by decide, by decide⟩ ⟨by decide, by decide⟩ (Nat.le_of_ble_eq_true rfl) (by decide +kernel) ?_
  intro C2 locc2 c2
  refine cS_putF (j0 := 0) (k := 489) (ci := 5) (f := 2) (index := 22) (fs := ((dF 5).set 0 (.ref (A + 1))).set 1 (.ref (A + 82))) (v := .ref (A + 163)) (ty := .object "CourierRelay$History") En hin c2 (by decide) rfl rfl fl_X5_ok (by decide) (by decide) (by decide +kernel) rfl rfl rfl (by decide +kernel) ?_
  intro K2 locs2 k2
  refine lv_aload_n hx hb (show decode cX5_init 37 = .ok (.aload_n 0, 1) by decide +kernel) rfl (lv_at hl 0 rfl) ?_
  refine cS_new (ci := 4) (index := 26) (fs := dF 4) En k2 (by decide) wq_X5_26 wb_RX4 wz_RX4 (by decide) (by decide) (by decide +kernel) (by decide +kernel) ?_
  intro G3 g3
  refine lv_dup hx hb (show decode cX5_init 41 = .ok (.dup, 1) by decide +kernel) rfl ?_
  refine cS_callN (host := "CourierRelay") (n := 3) (ci := 4) (k := 489) En hcA (in_X4 l g) hl.1 g3 rfl (List.mem_append_left _ (List.mem_map.mpr ⟨(RX5, 28, yX4_init, "CourierRelay"), List.mem_of_getElem? (i := 0) rfl, rfl⟩)) wi_X4_init wz_RX4 wc_X4_init rfl rfl rfl (by decide +kernel) ⟨by decide, by decide⟩ ⟨by decide, by decide⟩ (Nat.le_of_ble_eq_true rfl) (by decide +kernel) ?_
  intro C3 locc3 c3
  refine cS_putF (j0 := 0) (k := 492) (ci := 5) (f := 3) (index := 29) (fs := (((dF 5).set 0 (.ref (A + 1))).set 1 (.ref (A + 82))).set 2 (.ref (A + 163))) (v := .ref (A + 489)) (ty := .object "CourierRelay$ParcelText") En hin c3 (by decide) rfl rfl fl_X5_ok (by decide) (by decide) (by decide +kernel) rfl rfl rfl (by decide +kernel) ?_
  intro K3 locs3 k3
  refine fin K3 locs3 _ 48 (cS_to k3 (fun j hj => ?_)) (by decide +kernel)
  unfold cu
  dsimp only
  by_cases e0 : j = 0
  · subst e0; rfl
  · rw [if_neg e0]
    by_cases e3 : j < 489
    · rw [if_pos e3, if_neg (by omega), if_neg e0]
      by_cases e2 : j < 163
      · rw [if_pos e2, if_neg (by omega), if_neg e0]
        by_cases e1 : j < 82
        · rw [if_pos e1, if_neg (by omega), if_neg e0, if_neg (by omega)]
          rw [show fw_ko j = fw_kx (j - 1) by have := ko_1 (j - 1) (by omega); rw [show 1 + (j - 1) = j by omega] at this; exact this, show fw_lo j = 6 by unfold fw_lo; rw [if_pos (by omega)]]
        · rw [if_neg e1]
          rw [show fw_ko j = fw_kx (j - 82) by have := ko_82 (j - 82) (by omega); rw [show 82 + (j - 82) = j by omega] at this; exact this, show fw_lo j = 6 by unfold fw_lo; rw [if_pos (by omega)]]
      · rw [if_neg e2]
        have := ko_163 (j - 163) (by omega)
        rw [show 163 + (j - 163) = j by omega] at this
        rw [this, show fw_lo j = 6 by unfold fw_lo; rw [if_pos (by omega)]]
        by_cases q0 : j - 163 = 0
        · rw [if_pos q0, if_pos q0]
        · rw [if_neg q0, if_neg q0]
          by_cases q1 : j - 163 = 1
          · rw [if_pos q1, if_pos q1]
          · rw [if_neg q1, if_neg q1]
    · rw [if_neg e3]
      rcases (show j = 489 ∨ j = 490 ∨ j = 491 by omega) with y | y | y <;> subst y <;> rfl
end CN5

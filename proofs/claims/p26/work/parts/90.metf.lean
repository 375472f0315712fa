/-! contracts out of walks (printed by program) -/
section
abbrev rm_X5_addCourier : Room := { frames := 6, cells := 1, slots := 6, locals := 148 }
theorem me_X5_addCourier (l : Launch) (g : fw_G) (B : Nat) (htr : l.stackTraces = false) : fw_Met l g B yX5_addCourier cX5_addCourier 3 (some .int) rm_X5_addCourier 1 6 (ct_X5_addCourier B) := by
  refine fw_met (own := RX5) (by decide +kernel) rfl kX5_addCourier_ok kX5_addCourier_cst fl_X5_ok ?_ ?_ (wk_X5_addCourier B)
  · intro q hq
    simp only [cal_X5_addCourier, List.mem_cons, List.not_mem_nil, or_false] at hq
    rcases hq with rfl | rfl | rfl | rfl
    · exact fw_calS (me_X5_isArea l g B) wl_X5_33 ws_X5_isArea wz_RX5 wc_X5_isArea rfl rfl (by decide +kernel) ⟨by decide, by decide⟩
    · exact fw_calS (me_X5_isZone l g B) wl_X5_37 ws_X5_isZone wz_RX5 wc_X5_isZone rfl rfl (by decide +kernel) ⟨by decide, by decide⟩
    · exact fw_calV (ci := 2) (me_X2_save l g B) (by decide) wl_X5_50 wi_X2_save wv_X2_save wz_RX2 wc_X2_save rfl rfl (by decide +kernel) ⟨by decide, by decide⟩
    · exact fw_calV (ci := 1) (me_X1_join l g B) (by decide) wl_X5_54 wi_X1_join wv_X1_join wz_RX1 wc_X1_join rfl rfl (by decide +kernel) ⟨by decide, by decide⟩
  · intro q hq
    simp only [List.mem_cons, List.not_mem_nil, or_false] at hq
    rcases hq with rfl | rfl
    · exact fw_thr40 htr (by decide) (by decide) (by decide) (by decide) (by decide) (by decide)
    · exact fw_thr47 htr (by decide) (by decide) (by decide) (by decide) (by decide) (by decide)
abbrev rm_X5_setArea : Room := { frames := 6, cells := 1, slots := 6, locals := 148 }
theorem me_X5_setArea (l : Launch) (g : fw_G) (B : Nat) (htr : l.stackTraces = false) : fw_Met l g B yX5_setArea cX5_setArea 5 (some .int) rm_X5_setArea 1 6 (ct_X5_setArea B) := by
  refine fw_met (own := RX5) (by decide +kernel) rfl kX5_setArea_ok kX5_setArea_cst fl_X5_ok ?_ ?_ (wk_X5_setArea B)
  · intro q hq
    simp only [cal_X5_setArea, List.mem_cons, List.not_mem_nil, or_false] at hq
    rcases hq with rfl | rfl | rfl
    · exact fw_calV (ci := 1) (me_X1_courierAt l g B) (by decide) wl_X5_58 wi_X1_courierAt wv_X1_courierAt wz_RX1 wc_X1_courierAt rfl rfl (by decide +kernel) ⟨by decide, by decide⟩
    · exact fw_calS (me_X5_isArea l g B) wl_X5_33 ws_X5_isArea wz_RX5 wc_X5_isArea rfl rfl (by decide +kernel) ⟨by decide, by decide⟩
    · exact fw_calV (ci := 2) (me_X2_save l g B) (by decide) wl_X5_50 wi_X2_save wv_X2_save wz_RX2 wc_X2_save rfl rfl (by decide +kernel) ⟨by decide, by decide⟩
  · intro q hq
    simp only [List.mem_cons, List.not_mem_nil, or_false] at hq
    rcases hq with rfl | rfl
    · exact fw_thr62 htr (by decide) (by decide) (by decide) (by decide) (by decide) (by decide)
    · exact fw_thr40 htr (by decide) (by decide) (by decide) (by decide) (by decide) (by decide)
abbrev rm_X5_give : Room := { frames := 6, cells := 1, slots := 6, locals := 148 }
theorem me_X5_give (l : Launch) (g : fw_G) (B : Nat) (htr : l.stackTraces = false) : fw_Met l g B yX5_give cX5_give 5 (some .int) rm_X5_give 1 6 (ct_X5_give B) := by
  refine fw_met (own := RX5) (by decide +kernel) rfl kX5_give_ok kX5_give_cst fl_X5_ok ?_ ?_ (wk_X5_give B)
  · intro q hq
    simp only [cal_X5_give, List.mem_cons, List.not_mem_nil, or_false] at hq
    rcases hq with rfl | rfl | rfl | rfl | rfl
    · exact fw_calS (me_X5_isZone l g B) wl_X5_37 ws_X5_isZone wz_RX5 wc_X5_isZone rfl rfl (by decide +kernel) ⟨by decide, by decide⟩
    · exact fw_calS (me_X5_isCutOff l g B) wl_X5_70 ws_X5_isCutOff wz_RX5 wc_X5_isCutOff rfl rfl (by decide +kernel) ⟨by decide, by decide⟩
    · exact fw_calS (me_X5_isTip l g B) wl_X5_73 ws_X5_isTip wz_RX5 wc_X5_isTip rfl rfl (by decide +kernel) ⟨by decide, by decide⟩
    · exact fw_calV (ci := 2) (me_X2_save l g B) (by decide) wl_X5_50 wi_X2_save wv_X2_save wz_RX2 wc_X2_save rfl rfl (by decide +kernel) ⟨by decide, by decide⟩
    · exact fw_calV (ci := 1) (me_X1_accept l g B) (by decide) wl_X5_79 wi_X1_accept wv_X1_accept wz_RX1 wc_X1_accept rfl rfl (by decide +kernel) ⟨by decide, by decide⟩
  · intro q hq
    simp only [List.mem_cons, List.not_mem_nil, or_false] at hq
    rcases hq with rfl | rfl
    · exact fw_thr40 htr (by decide) (by decide) (by decide) (by decide) (by decide) (by decide)
    · exact fw_thr47 htr (by decide) (by decide) (by decide) (by decide) (by decide) (by decide)
abbrev rm_X5_setGrace : Room := { frames := 6, cells := 1, slots := 6, locals := 148 }
theorem me_X5_setGrace (l : Launch) (g : fw_G) (B : Nat) (htr : l.stackTraces = false) : fw_Met l g B yX5_setGrace cX5_setGrace 3 (some .int) rm_X5_setGrace 1 6 (ct_X5_setGrace B) := by
  refine fw_met (own := RX5) (by decide +kernel) rfl kX5_setGrace_ok kX5_setGrace_cst fl_X5_ok ?_ ?_ (wk_X5_setGrace B)
  · intro q hq
    simp only [cal_X5_setGrace, List.mem_cons, List.not_mem_nil, or_false] at hq
    rcases hq with rfl
    · exact fw_calV (ci := 2) (me_X2_save l g B) (by decide) wl_X5_50 wi_X2_save wv_X2_save wz_RX2 wc_X2_save rfl rfl (by decide +kernel) ⟨by decide, by decide⟩
  · intro q hq
    simp only [List.mem_cons, List.not_mem_nil, or_false] at hq
    rcases hq with rfl
    · exact fw_thr40 htr (by decide) (by decide) (by decide) (by decide) (by decide) (by decide)
abbrev rm_X5_drop : Room := { frames := 6, cells := 1, slots := 6, locals := 148 }
theorem me_X5_drop (l : Launch) (g : fw_G) (B : Nat) (htr : l.stackTraces = false) : fw_Met l g B yX5_drop cX5_drop 4 (some .int) rm_X5_drop 1 6 (ct_X5_drop B) := by
  refine fw_met (own := RX5) (by decide +kernel) rfl kX5_drop_ok kX5_drop_cst fl_X5_ok ?_ ?_ (wk_X5_drop B)
  · intro q hq
    simp only [cal_X5_drop, List.mem_cons, List.not_mem_nil, or_false] at hq
    rcases hq with rfl | rfl | rfl
    · exact fw_calV (ci := 1) (me_X1_courierAt l g B) (by decide) wl_X5_58 wi_X1_courierAt wv_X1_courierAt wz_RX1 wc_X1_courierAt rfl rfl (by decide +kernel) ⟨by decide, by decide⟩
    · exact fw_calV (ci := 2) (me_X2_save l g B) (by decide) wl_X5_50 wi_X2_save wv_X2_save wz_RX2 wc_X2_save rfl rfl (by decide +kernel) ⟨by decide, by decide⟩
    · exact fw_calV (ci := 1) (me_X1_release l g B) (by decide) wl_X5_89 wi_X1_release wv_X1_release wz_RX1 wc_X1_release rfl rfl (by decide +kernel) ⟨by decide, by decide⟩
  · intro q hq
    simp only [List.mem_cons, List.not_mem_nil, or_false] at hq
    rcases hq with rfl
    · exact fw_thr62 htr (by decide) (by decide) (by decide) (by decide) (by decide) (by decide)
abbrev rm_X5_run : Room := { frames := 6, cells := 1, slots := 6, locals := 148 }
theorem me_X5_run (l : Launch) (g : fw_G) (B : Nat) (htr : l.stackTraces = false) : fw_Met l g B yX5_run cX5_run 3 (some .int) rm_X5_run 1 6 (ct_X5_run B) := by
  refine fw_met (own := RX5) (by decide +kernel) rfl kX5_run_ok kX5_run_cst fl_X5_ok ?_ ?_ (wk_X5_run B)
  · intro q hq
    simp only [cal_X5_run, List.mem_cons, List.not_mem_nil, or_false] at hq
    rcases hq with rfl | rfl | rfl | rfl
    · exact fw_calS (me_X5_isTicks l g B) wl_X5_93 ws_X5_isTicks wz_RX5 wc_X5_isTicks rfl rfl (by decide +kernel) ⟨by decide, by decide⟩
    · exact fw_calV (ci := 2) (me_X2_save l g B) (by decide) wl_X5_50 wi_X2_save wv_X2_save wz_RX2 wc_X2_save rfl rfl (by decide +kernel) ⟨by decide, by decide⟩
    · exact fw_calV (ci := 1) (me_X1_parcelsIn l g B) (by decide) wl_X5_99 wi_X1_parcelsIn wv_X1_parcelsIn wz_RX1 wc_X1_parcelsIn rfl rfl (by decide +kernel) ⟨by decide, by decide⟩
    · exact fw_calV (ci := 1) (me_X1_pass l g B) (by decide) wl_X5_103 wi_X1_pass wv_X1_pass wz_RX1 wc_X1_pass rfl rfl (by decide +kernel) ⟨by decide, by decide⟩
  · intro q hq
    simp only [List.mem_cons, List.not_mem_nil, or_false] at hq
    rcases hq with rfl | rfl
    · exact fw_thr40 htr (by decide) (by decide) (by decide) (by decide) (by decide) (by decide)
    · exact fw_thr47 htr (by decide) (by decide) (by decide) (by decide) (by decide) (by decide)
abbrev rm_X5_value : Room := { frames := 6, cells := 1, slots := 6, locals := 81 }
theorem me_X5_value (l : Launch) (g : fw_G) (B : Nat) (htr : l.stackTraces = false) : fw_Met l g B yX5_value cX5_value 2 (some .int) rm_X5_value 1 6 (ct_X5_value B) := by
  refine fw_met (own := RX5) (by decide +kernel) rfl kX5_value_ok kX5_value_cst fl_X5_ok ?_ ?_ (wk_X5_value B)
  · intro q hq
    simp only [cal_X5_value, List.mem_cons, List.not_mem_nil, or_false] at hq
    rcases hq with rfl
    · exact fw_calV (ci := 1) (me_X1_figure l g B) (by decide) wl_X5_106 wi_X1_figure wv_X1_figure wz_RX1 wc_X1_figure rfl rfl (by decide +kernel) ⟨by decide, by decide⟩
  · intro q hq
    simp only [List.mem_cons, List.not_mem_nil, or_false] at hq
    rcases hq with rfl
    · exact fw_thr40 htr (by decide) (by decide) (by decide) (by decide) (by decide) (by decide)
abbrev rm_X5_courier : Room := { frames := 6, cells := 1, slots := 6, locals := 89 }
theorem me_X5_courier (l : Launch) (g : fw_G) (B : Nat) (htr : l.stackTraces = false) : fw_Met l g B yX5_courier cX5_courier 4 (some .int) rm_X5_courier 1 6 (ct_X5_courier B) := by
  refine fw_met (own := RX5) (by decide +kernel) rfl kX5_courier_ok kX5_courier_cst fl_X5_ok ?_ ?_ (wk_X5_courier B)
  · intro q hq
    simp only [cal_X5_courier, List.mem_cons, List.not_mem_nil, or_false] at hq
    rcases hq with rfl | rfl
    · exact fw_calV (ci := 1) (me_X1_courierAt l g B) (by decide) wl_X5_58 wi_X1_courierAt wv_X1_courierAt wz_RX1 wc_X1_courierAt rfl rfl (by decide +kernel) ⟨by decide, by decide⟩
    · exact fw_calV (ci := 1) (me_X1_courierFigure l g B) (by decide) wl_X5_109 wi_X1_courierFigure wv_X1_courierFigure wz_RX1 wc_X1_courierFigure rfl rfl (by decide +kernel) ⟨by decide, by decide⟩
  · intro q hq
    simp only [List.mem_cons, List.not_mem_nil, or_false] at hq
    rcases hq with rfl | rfl
    · exact fw_thr62 htr (by decide) (by decide) (by decide) (by decide) (by decide) (by decide)
    · exact fw_thr40 htr (by decide) (by decide) (by decide) (by decide) (by decide) (by decide)
abbrev rm_X5_parcel : Room := { frames := 6, cells := 1, slots := 6, locals := 81 }
theorem me_X5_parcel (l : Launch) (g : fw_G) (B : Nat) (htr : l.stackTraces = false) : fw_Met l g B yX5_parcel cX5_parcel 4 (some .int) rm_X5_parcel 1 6 (ct_X5_parcel B) := by
  refine fw_met (own := RX5) (by decide +kernel) rfl kX5_parcel_ok kX5_parcel_cst fl_X5_ok ?_ ?_ (wk_X5_parcel B)
  · intro q hq
    simp only [cal_X5_parcel, List.mem_cons, List.not_mem_nil, or_false] at hq
    rcases hq with rfl | rfl
    · exact fw_calV (ci := 1) (me_X1_parcelAt l g B) (by decide) wl_X5_113 wi_X1_parcelAt wv_X1_parcelAt wz_RX1 wc_X1_parcelAt rfl rfl (by decide +kernel) ⟨by decide, by decide⟩
    · exact fw_calV (ci := 3) (me_X3_figure l g B) (by decide) wl_X5_117 wi_X3_figure wv_X3_figure wz_RX3 wc_X3_figure rfl rfl (by decide +kernel) ⟨by decide, by decide⟩
  · intro q hq
    simp only [List.mem_cons, List.not_mem_nil, or_false] at hq
    rcases hq with rfl | rfl
    · exact fw_thr62 htr (by decide) (by decide) (by decide) (by decide) (by decide) (by decide)
    · exact fw_thr40 htr (by decide) (by decide) (by decide) (by decide) (by decide) (by decide)
abbrev rm_X5_legs : Room := { frames := 6, cells := 1, slots := 6, locals := 81 }
theorem me_X5_legs (l : Launch) (g : fw_G) (B : Nat) (htr : l.stackTraces = false) : fw_Met l g B yX5_legs cX5_legs 5 (some .int) rm_X5_legs 1 6 (ct_X5_legs B) := by
  refine fw_met (own := RX5) (by decide +kernel) rfl kX5_legs_ok kX5_legs_cst fl_X5_ok ?_ ?_ (wk_X5_legs B)
  · intro q hq
    simp only [cal_X5_legs, List.mem_cons, List.not_mem_nil, or_false] at hq
    rcases hq with rfl | rfl | rfl | rfl
    · exact fw_calV (ci := 1) (me_X1_parcelAt l g B) (by decide) wl_X5_113 wi_X1_parcelAt wv_X1_parcelAt wz_RX1 wc_X1_parcelAt rfl rfl (by decide +kernel) ⟨by decide, by decide⟩
    · exact fw_calV (ci := 1) (me_X1_courierAt l g B) (by decide) wl_X5_58 wi_X1_courierAt wv_X1_courierAt wz_RX1 wc_X1_courierAt rfl rfl (by decide +kernel) ⟨by decide, by decide⟩
    · exact fw_calV (ci := 3) (me_X3_shareOf l g B) (by decide) wl_X5_120 wi_X3_shareOf wv_X3_shareOf wz_RX3 wc_X3_shareOf rfl rfl (by decide +kernel) ⟨by decide, by decide⟩
    · exact fw_calV (ci := 3) (me_X3_legsOf l g B) (by decide) wl_X5_123 wi_X3_legsOf wv_X3_legsOf wz_RX3 wc_X3_legsOf rfl rfl (by decide +kernel) ⟨by decide, by decide⟩
  · intro q hq
    simp only [List.mem_cons, List.not_mem_nil, or_false] at hq
    rcases hq with rfl
    · exact fw_thr62 htr (by decide) (by decide) (by decide) (by decide) (by decide) (by decide)
abbrev rm_X5_distance : Room := { frames := 6, cells := 1, slots := 6, locals := 81 }
theorem me_X5_distance (l : Launch) (g : fw_G) (B : Nat) (htr : l.stackTraces = false) : fw_Met l g B yX5_distance cX5_distance 3 (some .int) rm_X5_distance 1 6 (ct_X5_distance B) := by
  refine fw_met (own := RX5) (by decide +kernel) rfl kX5_distance_ok kX5_distance_cst fl_X5_ok ?_ ?_ (wk_X5_distance B)
  · intro q hq
    simp only [cal_X5_distance, List.mem_cons, List.not_mem_nil, or_false] at hq
    rcases hq with rfl | rfl
    · exact fw_calS (me_X5_isZone l g B) wl_X5_37 ws_X5_isZone wz_RX5 wc_X5_isZone rfl rfl (by decide +kernel) ⟨by decide, by decide⟩
    · exact fw_calAbs wl_X5_126 ws_J9_abs_0f7a4 wz_Math wc_J9_abs_0f7a4 (by decide) (by decide)
  · intro q hq
    simp only [List.mem_cons, List.not_mem_nil, or_false] at hq
    rcases hq with rfl
    · exact fw_thr62 htr (by decide) (by decide) (by decide) (by decide) (by decide) (by decide)
end

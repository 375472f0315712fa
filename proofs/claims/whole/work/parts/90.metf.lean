/-! contracts out of walks (printed by program) -/
section
abbrev rm_X5_addCourier : Room := { frames := 6, cells := 1, slots := 6, locals := 148 }
theorem me_X5_addCourier (l : Launch) (g : fw_G) (B : Nat) (htr : l.stackTraces = false) : fw_Met l g B yX5_addCourier cX5_addCourier 3 (some .int) rm_X5_addCourier 1 6 (ct_X5_addCourier B) := by
  refine fw_met (own := RX5) (by decide +kernel) rfl kX5_addCourier_ok kX5_addCourier_cst fl_X5_ok ?_ ?_ (wk_X5_addCourier B)
  · intro q hq
    simp only [cal_X5_addCourier, List.mem_cons, List.not_mem_nil, or_false] at hq
    rcases hq with rfl | rfl | rfl | rfl
    · exact fw_calS (me_X5_isArea l g B) wl_X5_33 ws_X5_isArea wz_RX5 wc_X5_isArea rfl rfl (by decide +kernel) ⟨by decide, by decide⟩
    · exact fw_calS (me_X5_isZone l g B) wl_X5_37 ws_X5_isZone wz_RX5 wc_X5_isZone rfl rfl (by decide +kernel) ⟨by decide, by decide⟩
    · exact fw_calV (ci := 2) (me_X2_save l g B) (by decide) wl_X5_50 wi_X2_save wv_X2_save wz_RX2 wc_X2_save rfl rfl (by decide +kernel) ⟨by decide, by decide⟩
    · exact fw_calV (ci := 1) (me_X1_join l g B) (by decide) wl_X5_54 wi_X1_join wv_X1_join wz_RX1 wc_X1_join rfl rfl (by decide +kernel) ⟨by decide, by decide⟩
  · intro q hq
    simp only [List.mem_cons, List.not_mem_nil, or_false] at hq
    rcases hq with rfl | rfl
    · exact fw_thr40 htr (by decide) (by decide) (by decide) (by decide) (by decide) (by decide)
    · exact fw_thr47 htr (by decide) (by decide) (by decide) (by decide) (by decide) (by decide)
abbrev rm_X5_setArea : Room := { frames := 6, cells := 1, slots := 6, locals := 148 }
theorem me_X5_setArea (l : Launch) (g : fw_G) (B : Nat) (htr : l.stackTraces = false) : fw_Met l g B yX5_setArea cX5_setArea 5 (some .int) rm_X5_setArea 1 6 (ct_X5_setArea B) := by
  refine fw_met (own := RX5) (by decide +kernel) rfl kX5_setArea_ok kX5_setArea_cst fl_X5_ok ?_ ?_ (wk_X5_setArea B)
  · intro q hq
    simp only [cal_X5_setArea, List.mem_cons, List.not_mem_nil, or_false] at hq
    rcases hq with rfl | rfl | rfl
    · exact fw_calV (ci := 1) (me_X1_courierAt l g B) (by decide) wl_X5_58 wi_X1_courierAt wv_X1_courierAt wz_RX1 wc_X1_courierAt rfl rfl (by decide +kernel) ⟨by decide, by decide⟩
    · exact fw_calS (me_X5_isArea l g B) wl_X5_33 ws_X5_isArea wz_RX5 wc_X5_isArea rfl rfl (by decide +kernel) ⟨by decide, by decide⟩
    · exact fw_calV (ci := 2) (me_X2_save l g B) (by decide) wl_X5_50 wi_X2_save wv_X2_save wz_RX2 wc_X2_save rfl rfl (by decide +kernel) ⟨by decide, by decide⟩
  · intro q hq
    simp only [List.mem_cons, List.not_mem_nil, or_false] at hq
    rcases hq with rfl | rfl
    · exact fw_thr62 htr (by decide) (by decide) (by decide) (by decide) (by decide) (by decide)
    · exact fw_thr40 htr (by decide) (by decide) (by decide) (by decide) (by decide) (by decide)
abbrev rm_X5_give : Room := { frames := 6, cells := 1, slots := 6, locals := 148 }
theorem me_X5_give (l : Launch) (g : fw_G) (B : Nat) (htr : l.stackTraces = false) : fw_Met l g B yX5_give cX5_give 5 (some .int) rm_X5_give 1 6 (ct_X5_give B) := by
  refine fw_met (own := RX5) (by decide +kernel) rfl kX5_give_ok kX5_give_cst fl_X5_ok ?_ ?_ (wk_X5_give B)
  · intro q hq
    simp only [cal_X5_give, List.mem_cons, List.not_mem_nil, or_false] at hq
    rcases hq with rfl | rfl | rfl | rfl | rfl
    · exact fw_calS (me_X5_isZone l g B) wl_X5_37 ws_X5_isZone wz_RX5 wc_X5_isZone rfl rfl (by decide +kernel) ⟨by decide, by decide⟩
    · exact fw_calS (me_X5_isCutOff l g B) wl_X5_70 ws_X5_isCutOff wz_RX5 wc_X5_isCutOff rfl rfl (by decide +kernel) ⟨by decide, by decide⟩
    · exact fw_calS (me_X5_isTip l g B) wl_X5_73 ws_X5_isTip wz_RX5 wc_X5_isTip rfl rfl (by decide +kernel) ⟨by decide, by decide⟩
    · exact fw_calV (ci := 2) (me_X2_save l g B) (by decide) wl_X5_50 wi_X2_save wv_X2_save wz_RX2 wc_X2_save rfl rfl (by decide +kernel) ⟨by decide, by decide⟩
    · exact fw_calV (ci := 1) (me_X1_accept l g B) (by decide) wl_X5_79 wi_X1_accept wv_X1_accept wz_RX1 wc_X1_accept rfl rfl (by decide +kernel) ⟨by decide, by decide⟩
  · intro q hq
    simp only [List.mem_cons, List.not_mem_nil, or_false] at hq
    rcases hq with rfl | rfl
    · exact fw_thr40 htr (by decide) (by decide) (by decide) (by decide) (by decide) (by decide)
    · exact fw_thr47 htr (by decide) (by decide) (by decide) (by decide) (by decide) (by decide)
abbrev rm_X5_setGrace : Room := { frames := 6, cells := 1, slots := 6, locals := 148 }
theorem me_X5_setGrace (l : Launch) (g : fw_G) (B : Nat) (htr : l.stackTraces = false) : fw_Met l g B yX5_setGrace cX5_setGrace 3 (some .int) rm_X5_setGrace 1 6 (ct_X5_setGrace B) := by
  refine fw_met (own := RX5) (by decide +kernel) rfl kX5_setGrace_ok kX5_setGrace_cst fl_X5_ok ?_ ?_ (wk_X5_setGrace B)
  · intro q hq
    simp only [cal_X5_setGrace, List.mem_cons, List.not_mem_nil, or_false] at hq
    rcases hq with rfl
    · exact fw_calV (ci := 2) (me_X2_save l g B) (by decide) wl_X5_50 wi_X2_save wv_X2_save wz_RX2 wc_X2_save rfl rfl (by decide +kernel) ⟨by decide, by decide⟩
  · intro q hq
    simp only [List.mem_cons, List.not_mem_nil, or_false] at hq
    rcases hq with rfl
    · exact fw_thr40 htr (by decide) (by decide) (by decide) (by decide) (by decide) (by decide)
abbrev rm_X5_drop : Room := { frames := 6, cells := 1, slots := 6, locals := 148 }
theorem me_X5_drop (l : Launch) (g : fw_G) (B : Nat) (htr : l.stackTraces = false) : fw_Met l g B yX5_drop cX5_drop 4 (some .int) rm_X5_drop 1 6 (ct_X5_drop B) := by
  refine fw_met (own := RX5) (by decide +kernel) rfl kX5_drop_ok kX5_drop_cst fl_X5_ok ?_ ?_ (wk_X5_drop B)
  · intro q hq
    simp only [cal_X5_drop, List.mem_cons, List.not_mem_nil, or_false] at hq
    rcases hq with rfl | rfl | rfl
    · exact fw_calV (ci := 1) (me_X1_courierAt l g B) (by decide) wl_X5_58 wi_X1_courierAt wv_X1_courierAt wz_RX1 wc_X1_courierAt rfl rfl (by decide +kernel) ⟨by decide, by decide⟩
    · exact fw_calV (ci := 2) (me_X2_save l g B) (by decide) wl_X5_50 wi_X2_save wv_X2_save wz_RX2 wc_X2_save rfl rfl (by decide +kernel) ⟨by decide, by decide⟩
    · exact fw_calV (ci := 1) (me_X1_release l g B) (by decide) wl_X5_89 wi_X1_release wv_X1_release wz_RX1 wc_X1_release rfl rfl (by decide +kernel) ⟨by decide, by decide⟩
  · intro q hq
    simp only [List.mem_cons, List.not_mem_nil, or_false] at hq
    rcases hq with rfl
    · exact fw_thr62 htr (by decide) (by decide) (by decide) (by decide) (by decide) (by decide)
abbrev rm_X5_run : Room := { frames := 6, cells := 1, slots := 6, locals := 148 }
theorem me_X5_run (l : Launch) (g : fw_G) (B : Nat) (htr : l.stackTraces = false) : fw_Met l g B yX5_run cX5_run 3 (some .int) rm_X5_run 1 6 (ct_X5_run B) := by
  refine fw_met (own := RX5) (by decide +kernel) rfl kX5_run_ok kX5_run_cst fl_X5_ok ?_ ?_ (wk_X5_run B)
  · intro q hq
    simp only [cal_X5_run, List.mem_cons, List.not_mem_nil, or_false] at hq
    rcases hq with rfl | rfl | rfl | rfl
    · exact fw_calS (me_X5_isTicks l g B) wl_X5_93 ws_X5_isTicks wz_RX5 wc_X5_isTicks rfl rfl (by decide +kernel) ⟨by decide, by decide⟩
    · exact fw_calV (ci := 2) (me_X2_save l g B) (by decide) wl_X5_50 wi_X2_save wv_X2_save wz_RX2 wc_X2_save rfl rfl (by decide +kernel) ⟨by decide, by decide⟩
    · exact fw_calV (ci := 1) (me_X1_parcelsIn l g B) (by decide) wl_X5_99 wi_X1_parcelsIn wv_X1_parcelsIn wz_RX1 wc_X1_parcelsIn rfl rfl (by decide +kernel) ⟨by decide, by decide⟩
    · exact fw_calV (ci := 1) (me_X1_pass l g B) (by decide) wl_X5_103 wi_X1_pass wv_X1_pass wz_RX1 wc_X1_pass rfl rfl (by decide +kernel) ⟨by decide, by decide⟩
  · intro q hq
    simp only [List.mem_cons, List.not_mem_nil, or_false] at hq
    rcases hq with rfl | rfl
    · exact fw_thr40 htr (by decide) (by decide) (by decide) (by decide) (by decide) (by decide)
    · exact fw_thr47 htr (by decide) (by decide) (by decide) (by decide) (by decide) (by decide)
abbrev rm_X5_value : Room := { frames := 6, cells := 1, slots := 6, locals := 81 }
theorem me_X5_value (l : Launch) (g : fw_G) (B : Nat) (htr : l.stackTraces = false) : fw_Met l g B yX5_value cX5_value 2 (some .int) rm_X5_value 1 6 (ct_X5_value B) := by
  refine fw_met (own := RX5) (by decide +kernel) rfl kX5_value_ok kX5_value_cst fl_X5_ok ?_ ?_ (wk_X5_value B)
  · intro q hq
    simp only [cal_X5_value, List.mem_cons, List.not_mem_nil, or_false] at hq
    rcases hq with rfl
    · exact fw_calV (ci := 1) (me_X1_figure l g B) (by decide) wl_X5_106 wi_X1_figure wv_X1_figure wz_RX1 wc_X1_figure rfl rfl (by decide +kernel) ⟨by decide, by decide⟩
  · intro q hq
    simp only [List.mem_cons, List.not_mem_nil, or_false] at hq
    rcases hq with rfl
    · exact fw_thr40 htr (by decide) (by decide) (by decide) (by decide) (by decide) (by decide)
abbrev rm_X5_courier : Room := { frames := 6, cells := 1, slots := 6, locals := 89 }
theorem me_X5_courier (l : Launch) (g : fw_G) (B : Nat) (htr : l.stackTraces = false) : fw_Met l g B yX5_courier cX5_courier 4 (some .int) rm_X5_courier 1 6 (ct_X5_courier B) := by
  refine fw_met (own := RX5) (by decide +kernel) rfl kX5_courier_ok kX5_courier_cst fl_X5_ok ?_ ?_ (wk_X5_courier B)
  · intro q hq
    simp only [cal_X5_courier, List.mem_cons, List.not_mem_nil, or_false] at hq
    rcases hq with rfl | rfl
    · exact fw_calV (ci := 1) (me_X1_courierAt l g B) (by decide) wl_X5_58 wi_X1_courierAt wv_X1_courierAt wz_RX1 wc_X1_courierAt rfl rfl (by decide +kernel) ⟨by decide, by decide⟩
    · exact fw_calV (ci := 1) (me_X1_courierFigure l g B) (by decide) wl_X5_109 wi_X1_courierFigure wv_X1_courierFigure wz_RX1 wc_X1_courierFigure rfl rfl (by decide +kernel) ⟨by decide, by decide⟩
  · intro q hq
    simp only [List.mem_cons, List.not_mem_nil, or_false] at hq
    rcases hq with rfl | rfl
    · exact fw_thr62 htr (by decide) (by decide) (by decide) (by decide) (by decide) (by decide)
    · exact fw_thr40 htr (by decide) (by decide) (by decide) (by decide) (by decide) (by decide)
abbrev rm_X5_parcel : Room := { frames := 6, cells := 1, slots := 6, locals := 81 }
theorem me_X5_parcel (l : Launch) (g : fw_G) (B : Nat) (htr : l.stackTraces = false) : fw_Met l g B yX5_parcel cX5_parcel 4 (some .int) rm_X5_parcel 1 6 (ct_X5_parcel B) := by
  refine fw_met (own := RX5) (by decide +kernel) rfl kX5_parcel_ok kX5_parcel_cst fl_X5_ok ?_ ?_ (wk_X5_parcel B)
  · intro q hq
    simp only [cal_X5_parcel, List.mem_cons, List.not_mem_nil, or_false] at hq
    rcases hq with rfl | rfl
    · exact fw_calV (ci := 1) (me_X1_parcelAt l g B) (by decide) wl_X5_113 wi_X1_parcelAt wv_X1_parcelAt wz_RX1 wc_X1_parcelAt rfl rfl (by decide +kernel) ⟨by decide, by decide⟩
    · exact fw_calV (ci := 3) (me_X3_figure l g B) (by decide) wl_X5_117 wi_X3_figure wv_X3_figure wz_RX3 wc_X3_figure rfl rfl (by decide +kernel) ⟨by decide, by decide⟩
  · intro q hq
    simp only [List.mem_cons, List.not_mem_nil, or_false] at hq
    rcases hq with rfl | rfl
    · exact fw_thr62 htr (by decide) (by decide) (by decide) (by decide) (by decide) (by decide)
    · exact fw_thr40 htr (by decide) (by decide) (by decide) (by decide) (by decide) (by decide)
abbrev rm_X5_legs : Room := { frames := 6, cells := 1, slots := 6, locals := 81 }
theorem me_X5_legs (l : Launch) (g : fw_G) (B : Nat) (htr : l.stackTraces = false) : fw_Met l g B yX5_legs cX5_legs 5 (some .int) rm_X5_legs 1 6 (ct_X5_legs B) := by
  refine fw_met (own := RX5) (by decide +kernel) rfl kX5_legs_ok kX5_legs_cst fl_X5_ok ?_ ?_ (wk_X5_legs B)
  · intro q hq
    simp only [cal_X5_legs, List.mem_cons, List.not_mem_nil, or_false] at hq
    rcases hq with rfl | rfl | rfl | rfl
    · exact fw_calV (ci := 1) (me_X1_parcelAt l g B) (by decide) wl_X5_113 wi_X1_parcelAt wv_X1_parcelAt wz_RX1 wc_X1_parcelAt rfl rfl (by decide +kernel) ⟨by decide, by decide⟩
    · exact fw_calV (ci := 1) (me_X1_courierAt l g B) (by decide) wl_X5_58 wi_X1_courierAt wv_X1_courierAt wz_RX1 wc_X1_courierAt rfl rfl (by decide +kernel) ⟨by decide, by decide⟩
    · exact fw_calV (ci := 3) (me_X3_shareOf l g B) (by decide) wl_X5_120 wi_X3_shareOf wv_X3_shareOf wz_RX3 wc_X3_shareOf rfl rfl (by decide +kernel) ⟨by decide, by decide⟩
    · exact fw_calV (ci := 3) (me_X3_legsOf l g B) (by decide) wl_X5_123 wi_X3_legsOf wv_X3_legsOf wz_RX3 wc_X3_legsOf rfl rfl (by decide +kernel) ⟨by decide, by decide⟩
  · intro q hq
    simp only [List.mem_cons, List.not_mem_nil, or_false] at hq
    rcases hq with rfl
    · exact fw_thr62 htr (by decide) (by decide) (by decide) (by decide) (by decide) (by decide)
abbrev rm_X5_distance : Room := { frames := 6, cells := 1, slots := 6, locals := 81 }
theorem me_X5_distance (l : Launch) (g : fw_G) (B : Nat) (htr : l.stackTraces = false) : fw_Met l g B yX5_distance cX5_distance 3 (some .int) rm_X5_distance 1 6 (ct_X5_distance B) := by
  refine fw_met (own := RX5) (by decide +kernel) rfl kX5_distance_ok kX5_distance_cst fl_X5_ok ?_ ?_ (wk_X5_distance B)
  · intro q hq
    simp only [cal_X5_distance, List.mem_cons, List.not_mem_nil, or_false] at hq
    rcases hq with rfl | rfl
    · exact fw_calS (me_X5_isZone l g B) wl_X5_37 ws_X5_isZone wz_RX5 wc_X5_isZone rfl rfl (by decide +kernel) ⟨by decide, by decide⟩
    · exact fw_calAbs wl_X5_126 ws_J9_abs_0f7a4 wz_Math wc_J9_abs_0f7a4 (by decide) (by decide)
  · intro q hq
    simp only [List.mem_cons, List.not_mem_nil, or_false] at hq
    rcases hq with rfl
    · exact fw_thr62 htr (by decide) (by decide) (by decide) (by decide) (by decide) (by decide)
abbrev rm_X5_suited : Room := { frames := 6, cells := 1, slots := 6, locals := 81 }
theorem me_X5_suited (l : Launch) (g : fw_G) (B : Nat) (htr : l.stackTraces = false) : fw_Met l g B yX5_suited cX5_suited 3 (some .int) rm_X5_suited 1 6 (ct_X5_suited B) := by
  refine fw_met (own := RX5) (by decide +kernel) rfl kX5_suited_ok kX5_suited_cst fl_X5_ok ?_ ?_ (wk_X5_suited B)
  · intro q hq
    simp only [cal_X5_suited, List.mem_cons, List.not_mem_nil, or_false] at hq
    rcases hq with rfl | rfl | rfl | rfl
    · exact fw_calV (ci := 1) (me_X1_parcelAt l g B) (by decide) wl_X5_113 wi_X1_parcelAt wv_X1_parcelAt wz_RX1 wc_X1_parcelAt rfl rfl (by decide +kernel) ⟨by decide, by decide⟩
    · exact fw_calV (ci := 3) (me_X3_isOpen l g B) (by decide) wl_X5_131 wi_X3_isOpen wv_X3_isOpen wz_RX3 wc_X3_isOpen rfl rfl (by decide +kernel) ⟨by decide, by decide⟩
    · exact fw_calS (me_X5_nextZone l g B) wl_X5_141 ws_X5_nextZone wz_RX5 wc_X5_nextZone rfl rfl (by decide +kernel) ⟨by decide, by decide⟩
    · exact fw_calV (ci := 1) (me_X1_carriersOf l g B) (by decide) wl_X5_144 wi_X1_carriersOf wv_X1_carriersOf wz_RX1 wc_X1_carriersOf rfl rfl (by decide +kernel) ⟨by decide, by decide⟩
  · intro q hq
    simp only [List.mem_cons, List.not_mem_nil, or_false] at hq
    rcases hq with rfl
    · exact fw_thr62 htr (by decide) (by decide) (by decide) (by decide) (by decide) (by decide)
abbrev rm_X5_leastRelay : Room := { frames := 6, cells := 1, slots := 6, locals := 81 }
theorem me_X5_leastRelay (l : Launch) (g : fw_G) (B : Nat) (htr : l.stackTraces = false) : fw_Met l g B yX5_leastRelay cX5_leastRelay 3 (some .int) rm_X5_leastRelay 1 6 (ct_X5_leastRelay B) := by
  refine fw_met (own := RX5) (by decide +kernel) rfl kX5_leastRelay_ok kX5_leastRelay_cst fl_X5_ok ?_ ?_ (wk_X5_leastRelay B)
  · intro q hq
    simp only [cal_X5_leastRelay, List.mem_cons, List.not_mem_nil, or_false] at hq
    rcases hq with rfl | rfl
    · exact fw_calV (ci := 1) (me_X1_parcelAt l g B) (by decide) wl_X5_113 wi_X1_parcelAt wv_X1_parcelAt wz_RX1 wc_X1_parcelAt rfl rfl (by decide +kernel) ⟨by decide, by decide⟩
    · exact fw_calV (ci := 1) (me_X1_shortestRelay l g B) (by decide) wl_X5_150 wi_X1_shortestRelay wv_X1_shortestRelay wz_RX1 wc_X1_shortestRelay rfl rfl (by decide +kernel) ⟨by decide, by decide⟩
  · intro q hq
    simp only [List.mem_cons, List.not_mem_nil, or_false] at hq
    rcases hq with rfl
    · exact fw_thr62 htr (by decide) (by decide) (by decide) (by decide) (by decide) (by decide)
abbrev rm_X5_punctuality : Room := { frames := 2, cells := 0, slots := 0, locals := 45 }
theorem me_X5_punctuality (l : Launch) (g : fw_G) (B : Nat) : fw_Met l g B yX5_punctuality cX5_punctuality 2 (some .double) rm_X5_punctuality 0 0 (ct_X5_punctuality B) := by
  refine fw_met (own := RX5) (by decide +kernel) rfl kX5_punctuality_ok kX5_punctuality_cst fl_X5_ok ?_ ?_ (wk_X5_punctuality B)
  · intro q hq
    simp only [cal_X5_punctuality, List.mem_cons, List.not_mem_nil, or_false] at hq
    rcases hq with rfl | rfl
    · exact fw_calV (ci := 1) (me_X1_parcelsIn l g B) (by decide) wl_X5_99 wi_X1_parcelsIn wv_X1_parcelsIn wz_RX1 wc_X1_parcelsIn rfl rfl (by decide +kernel) ⟨by decide, by decide⟩
    · exact fw_calV (ci := 1) (me_X1_parcelsInTime l g B) (by decide) wl_X5_153 wi_X1_parcelsInTime wv_X1_parcelsInTime wz_RX1 wc_X1_parcelsInTime rfl rfl (by decide +kernel) ⟨by decide, by decide⟩
  · exact fun q hq => nomatch hq
abbrev rm_X5_paidIn : Room := { frames := 6, cells := 1, slots := 6, locals := 146 }
theorem me_X5_paidIn (l : Launch) (g : fw_G) (B : Nat) (htr : l.stackTraces = false) : fw_Met l g B yX5_paidIn cX5_paidIn 2 (some .int) rm_X5_paidIn 1 6 (ct_X5_paidIn B) := by
  refine fw_met (own := RX5) (by decide +kernel) rfl kX5_paidIn_ok kX5_paidIn_cst fl_X5_ok ?_ ?_ (wk_X5_paidIn B)
  · intro q hq
    simp only [cal_X5_paidIn, List.mem_cons, List.not_mem_nil, or_false] at hq
    rcases hq with rfl | rfl | rfl
    · exact fw_calS (me_X5_isTicks l g B) wl_X5_93 ws_X5_isTicks wz_RX5 wc_X5_isTicks rfl rfl (by decide +kernel) ⟨by decide, by decide⟩
    · exact fw_calV (ci := 1) (me_X1_become l g B) (by decide) wl_X5_157 wi_X1_become wv_X1_become wz_RX1 wc_X1_become rfl rfl (by decide +kernel) ⟨by decide, by decide⟩
    · exact fw_calV (ci := 1) (me_X1_pass l g B) (by decide) wl_X5_103 wi_X1_pass wv_X1_pass wz_RX1 wc_X1_pass rfl rfl (by decide +kernel) ⟨by decide, by decide⟩
  · intro q hq
    simp only [List.mem_cons, List.not_mem_nil, or_false] at hq
    rcases hq with rfl
    · exact fw_thr40 htr (by decide) (by decide) (by decide) (by decide) (by decide) (by decide)
abbrev rm_X5_bestZone : Room := { frames := 6, cells := 1, slots := 6, locals := 146 }
theorem me_X5_bestZone (l : Launch) (g : fw_G) (B : Nat) (htr : l.stackTraces = false) : fw_Met l g B yX5_bestZone cX5_bestZone 8 (some .int) rm_X5_bestZone 1 6 (ct_X5_bestZone B) := by
  refine fw_met (own := RX5) (by decide +kernel) rfl kX5_bestZone_ok kX5_bestZone_cst fl_X5_ok ?_ ?_ (wk_X5_bestZone B)
  · intro q hq
    simp only [cal_X5_bestZone, List.mem_cons, List.not_mem_nil, or_false] at hq
    rcases hq with rfl | rfl | rfl | rfl | rfl | rfl
    · exact fw_calV (ci := 1) (me_X1_courierAt l g B) (by decide) wl_X5_58 wi_X1_courierAt wv_X1_courierAt wz_RX1 wc_X1_courierAt rfl rfl (by decide +kernel) ⟨by decide, by decide⟩
    · exact fw_calS (me_X5_isTicks l g B) wl_X5_93 ws_X5_isTicks wz_RX5 wc_X5_isTicks rfl rfl (by decide +kernel) ⟨by decide, by decide⟩
    · exact fw_calV (ci := 1) (me_X1_become l g B) (by decide) wl_X5_157 wi_X1_become wv_X1_become wz_RX1 wc_X1_become rfl rfl (by decide +kernel) ⟨by decide, by decide⟩
    · exact fw_calV (ci := 1) (me_X1_pass l g B) (by decide) wl_X5_103 wi_X1_pass wv_X1_pass wz_RX1 wc_X1_pass rfl rfl (by decide +kernel) ⟨by decide, by decide⟩
    · exact fw_calS (me_X5_holds l g B) wl_X5_160 ws_X5_holds wz_RX5 wc_X5_holds rfl rfl (by decide +kernel) ⟨by decide, by decide⟩
    · exact fw_calV (ci := 1) (me_X1_widen l g B) (by decide) wl_X5_164 wi_X1_widen wv_X1_widen wz_RX1 wc_X1_widen rfl rfl (by decide +kernel) ⟨by decide, by decide⟩
  · intro q hq
    simp only [List.mem_cons, List.not_mem_nil, or_false] at hq
    rcases hq with rfl | rfl
    · exact fw_thr62 htr (by decide) (by decide) (by decide) (by decide) (by decide) (by decide)
    · exact fw_thr40 htr (by decide) (by decide) (by decide) (by decide) (by decide) (by decide)
abbrev rm_X5_worth : Room := { frames := 6, cells := 1, slots := 6, locals := 146 }
theorem me_X5_worth (l : Launch) (g : fw_G) (B : Nat) (htr : l.stackTraces = false) : fw_Met l g B yX5_worth cX5_worth 4 (some .int) rm_X5_worth 1 6 (ct_X5_worth B) := by
  refine fw_met (own := RX5) (by decide +kernel) rfl kX5_worth_ok kX5_worth_cst fl_X5_ok ?_ ?_ (wk_X5_worth B)
  · intro q hq
    simp only [cal_X5_worth, List.mem_cons, List.not_mem_nil, or_false] at hq
    rcases hq with rfl | rfl | rfl | rfl | rfl
    · exact fw_calV (ci := 1) (me_X1_courierAt l g B) (by decide) wl_X5_58 wi_X1_courierAt wv_X1_courierAt wz_RX1 wc_X1_courierAt rfl rfl (by decide +kernel) ⟨by decide, by decide⟩
    · exact fw_calS (me_X5_isTicks l g B) wl_X5_93 ws_X5_isTicks wz_RX5 wc_X5_isTicks rfl rfl (by decide +kernel) ⟨by decide, by decide⟩
    · exact fw_calV (ci := 1) (me_X1_become l g B) (by decide) wl_X5_157 wi_X1_become wv_X1_become wz_RX1 wc_X1_become rfl rfl (by decide +kernel) ⟨by decide, by decide⟩
    · exact fw_calV (ci := 1) (me_X1_pass l g B) (by decide) wl_X5_103 wi_X1_pass wv_X1_pass wz_RX1 wc_X1_pass rfl rfl (by decide +kernel) ⟨by decide, by decide⟩
    · exact fw_calV (ci := 1) (me_X1_retire l g B) (by decide) wl_X5_168 wi_X1_retire wv_X1_retire wz_RX1 wc_X1_retire rfl rfl (by decide +kernel) ⟨by decide, by decide⟩
  · intro q hq
    simp only [List.mem_cons, List.not_mem_nil, or_false] at hq
    rcases hq with rfl | rfl
    · exact fw_thr62 htr (by decide) (by decide) (by decide) (by decide) (by decide) (by decide)
    · exact fw_thr40 htr (by decide) (by decide) (by decide) (by decide) (by decide) (by decide)
abbrev rm_X5_doneIn : Room := { frames := 6, cells := 0, slots := 0, locals := 144 }
theorem me_X5_doneIn (l : Launch) (g : fw_G) (B : Nat) : fw_Met l g B yX5_doneIn cX5_doneIn 1 (some .int) rm_X5_doneIn 0 0 (ct_X5_doneIn B) := by
  refine fw_met (own := RX5) (by decide +kernel) rfl kX5_doneIn_ok kX5_doneIn_cst fl_X5_ok ?_ ?_ (wk_X5_doneIn B)
  · intro q hq
    simp only [cal_X5_doneIn, List.mem_cons, List.not_mem_nil, or_false] at hq
    rcases hq with rfl | rfl
    · exact fw_calV (ci := 1) (me_X1_become l g B) (by decide) wl_X5_157 wi_X1_become wv_X1_become wz_RX1 wc_X1_become rfl rfl (by decide +kernel) ⟨by decide, by decide⟩
    · exact fw_calV (ci := 1) (me_X1_ticksUntilDone l g B) (by decide) wl_X5_172 wi_X1_ticksUntilDone wv_X1_ticksUntilDone wz_RX1 wc_X1_ticksUntilDone rfl rfl (by decide +kernel) ⟨by decide, by decide⟩
  · exact fun q hq => nomatch hq
abbrev rm_X5_append : Room := { frames := 6, cells := 1, slots := 6, locals := 81 }
theorem me_X5_append (l : Launch) (g : fw_G) (B : Nat) (htr : l.stackTraces = false) : fw_Met l g B yX5_append cX5_append 2 (some .int) rm_X5_append 1 6 (ct_X5_append B) := by
  refine fw_met (own := RX5) (by decide +kernel) rfl kX5_append_ok kX5_append_cst fl_X5_ok ?_ ?_ (wk_X5_append B)
  · intro q hq
    simp only [cal_X5_append, List.mem_cons, List.not_mem_nil, or_false] at hq
    rcases hq with rfl
    · exact fw_calV (ci := 4) (me_X4_add l g B) (by decide) wl_X5_178 wi_X4_add wv_X4_add wz_RX4 wc_X4_add rfl rfl (by decide +kernel) ⟨by decide, by decide⟩
  · intro q hq
    simp only [List.mem_cons, List.not_mem_nil, or_false] at hq
    rcases hq with rfl | rfl
    · exact fw_thr40 htr (by decide) (by decide) (by decide) (by decide) (by decide) (by decide)
    · exact fw_thr47 htr (by decide) (by decide) (by decide) (by decide) (by decide) (by decide)
abbrev rm_X5_clearText : Room := { frames := 0, cells := 0, slots := 0, locals := 0 }
theorem me_X5_clearText (l : Launch) (g : fw_G) (B : Nat) : fw_Met l g B yX5_clearText cX5_clearText 2 (some .int) rm_X5_clearText 0 0 (ct_X5_clearText B) := by
  refine fw_met (own := RX5) (by decide +kernel) rfl kX5_clearText_ok kX5_clearText_cst fl_X5_ok ?_ ?_ (wk_X5_clearText B)
  · intro q hq
    simp only [cal_X5_clearText, List.mem_cons, List.not_mem_nil, or_false] at hq
  · exact fun q hq => nomatch hq
abbrev rm_X5_parse : Room := { frames := 6, cells := 0, slots := 0, locals := 148 }
theorem me_X5_parse (l : Launch) (g : fw_G) (B : Nat) : fw_Met l g B yX5_parse cX5_parse 3 (some .int) rm_X5_parse 0 0 (ct_X5_parse B) := by
  refine fw_met (own := RX5) (by decide +kernel) rfl kX5_parse_ok kX5_parse_cst fl_X5_ok ?_ ?_ (wk_X5_parse B)
  · intro q hq
    simp only [cal_X5_parse, List.mem_cons, List.not_mem_nil, or_false] at hq
    rcases hq with rfl | rfl | rfl | rfl
    · exact fw_calV (ci := 4) (me_X4_read l g B) (by decide) wl_X5_181 wi_X4_read wv_X4_read wz_RX4 wc_X4_read rfl rfl (by decide +kernel) ⟨by decide, by decide⟩
    · exact fw_calV (ci := 2) (me_X2_save l g B) (by decide) wl_X5_50 wi_X2_save wv_X2_save wz_RX2 wc_X2_save rfl rfl (by decide +kernel) ⟨by decide, by decide⟩
    · exact fw_calV (ci := 4) (me_X4_numberOf l g B) (by decide) wl_X5_187 wi_X4_numberOf wv_X4_numberOf wz_RX4 wc_X4_numberOf rfl rfl (by decide +kernel) ⟨by decide, by decide⟩
    · exact fw_calV (ci := 1) (me_X1_accept l g B) (by decide) wl_X5_79 wi_X1_accept wv_X1_accept wz_RX1 wc_X1_accept rfl rfl (by decide +kernel) ⟨by decide, by decide⟩
  · exact fun q hq => nomatch hq
abbrev rm_X5_undo : Room := { frames := 6, cells := 1, slots := 6, locals := 148 }
theorem me_X5_undo (l : Launch) (g : fw_G) (B : Nat) (htr : l.stackTraces = false) : fw_Met l g B yX5_undo cX5_undo 1 (some .int) rm_X5_undo 1 6 (ct_X5_undo B) := by
  refine fw_met (own := RX5) (by decide +kernel) rfl kX5_undo_ok kX5_undo_cst fl_X5_ok ?_ ?_ (wk_X5_undo B)
  · intro q hq
    simp only [cal_X5_undo, List.mem_cons, List.not_mem_nil, or_false] at hq
    rcases hq with rfl
    · exact fw_calV (ci := 2) (me_X2_restore l g B) (by decide) wl_X5_193 wi_X2_restore wv_X2_restore wz_RX2 wc_X2_restore rfl rfl (by decide +kernel) ⟨by decide, by decide⟩
  · intro q hq
    simp only [List.mem_cons, List.not_mem_nil, or_false] at hq
    rcases hq with rfl
    · exact fw_thr47 htr (by decide) (by decide) (by decide) (by decide) (by decide) (by decide)
abbrev rm_X5_digest : Room := { frames := 5, cells := 0, slots := 0, locals := 116 }
theorem me_X5_digest (l : Launch) (g : fw_G) (B : Nat) : fw_Met l g B yX5_digest cX5_digest 4 (some .long) rm_X5_digest 0 0 (ct_X5_digest B) := by
  refine fw_met (own := RX5) (by decide +kernel) rfl kX5_digest_ok kX5_digest_cst fl_X5_ok ?_ ?_ (wk_X5_digest B)
  · intro q hq
    simp only [cal_X5_digest, List.mem_cons, List.not_mem_nil, or_false] at hq
    rcases hq with rfl | rfl | rfl
    · exact fw_calV (ci := 1) (me_X1_figure l g B) (by decide) wl_X5_106 wi_X1_figure wv_X1_figure wz_RX1 wc_X1_figure rfl rfl (by decide +kernel) ⟨by decide, by decide⟩
    · exact fw_calV (ci := 1) (me_X1_hashCouriers l g B) (by decide) wl_X5_200 wi_X1_hashCouriers wv_X1_hashCouriers wz_RX1 wc_X1_hashCouriers rfl rfl (by decide +kernel) ⟨by decide, by decide⟩
    · exact fw_calV (ci := 1) (me_X1_hashParcels l g B) (by decide) wl_X5_204 wi_X1_hashParcels wv_X1_hashParcels wz_RX1 wc_X1_hashParcels rfl rfl (by decide +kernel) ⟨by decide, by decide⟩
  · exact fun q hq => nomatch hq
end

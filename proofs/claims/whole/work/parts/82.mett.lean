/-! contracts out of walks (printed by program) -/
section
abbrev rm_X4_isDigit : Room := { frames := 0, cells := 0, slots := 0, locals := 0 }
theorem me_X4_isDigit (l : Launch) (g : fw_G) (B : Nat) : fw_Met l g B yX4_isDigit cX4_isDigit 1 (some .boolean) rm_X4_isDigit 0 0 (ct_X4_isDigit B) := by
  refine fw_met (own := RX4) (by decide +kernel) rfl kX4_isDigit_ok kX4_isDigit_cst fl_X4_ok ?_ ?_ (wk_X4_isDigit B)
  · intro q hq
    simp only [cal_X4_isDigit, List.mem_cons, List.not_mem_nil, or_false] at hq
  · exact fun q hq => nomatch hq
abbrev rm_X4_mostDigits : Room := { frames := 0, cells := 0, slots := 0, locals := 0 }
theorem me_X4_mostDigits (l : Launch) (g : fw_G) (B : Nat) : fw_Met l g B yX4_mostDigits cX4_mostDigits 1 (some .int) rm_X4_mostDigits 0 0 (ct_X4_mostDigits B) := by
  refine fw_met (own := RX4) (by decide +kernel) rfl kX4_mostDigits_ok kX4_mostDigits_cst fl_X4_ok ?_ ?_ (wk_X4_mostDigits B)
  · intro q hq
    simp only [cal_X4_mostDigits, List.mem_cons, List.not_mem_nil, or_false] at hq
  · exact fun q hq => nomatch hq
abbrev rm_X4_endOf : Room := { frames := 0, cells := 0, slots := 0, locals := 0 }
theorem me_X4_endOf (l : Launch) (g : fw_G) (B : Nat) : fw_Met l g B yX4_endOf cX4_endOf 1 (some .int) rm_X4_endOf 0 0 (ct_X4_endOf B) := by
  refine fw_met (own := RX4) (by decide +kernel) rfl kX4_endOf_ok kX4_endOf_cst fl_X4_ok ?_ ?_ (wk_X4_endOf B)
  · intro q hq
    simp only [cal_X4_endOf, List.mem_cons, List.not_mem_nil, or_false] at hq
  · exact fun q hq => nomatch hq
abbrev rm_X4_numberOf : Room := { frames := 1, cells := 0, slots := 0, locals := 21 }
theorem me_X4_numberOf (l : Launch) (g : fw_G) (B : Nat) : fw_Met l g B yX4_numberOf cX4_numberOf 3 (some .int) rm_X4_numberOf 0 0 (ct_X4_numberOf B) := by
  refine fw_met (own := RX4) (by decide +kernel) rfl kX4_numberOf_ok kX4_numberOf_cst fl_X4_ok ?_ ?_ (wk_X4_numberOf B)
  · intro q hq
    simp only [cal_X4_numberOf, List.mem_cons, List.not_mem_nil, or_false] at hq
    rcases hq with rfl
    · exact fw_calSN (me_X5_at l g B) (List.mem_append_left _ (List.mem_map.mpr ⟨(RX4, 22, yX5_at, "CourierRelay"), List.mem_of_getElem? (i := 9) rfl, rfl⟩)) ws_X5_at wz_RX5 wc_X5_at rfl rfl (by decide +kernel) ⟨by decide, by decide⟩
  · exact fun q hq => nomatch hq
abbrev rm_X4_keep : Room := { frames := 0, cells := 0, slots := 0, locals := 0 }
theorem me_X4_keep (l : Launch) (g : fw_G) (B : Nat) : fw_Met l g B yX4_keep cX4_keep 4 (none) rm_X4_keep 0 0 (ct_X4_keep B) := by
  refine fw_met (own := RX4) (by decide +kernel) rfl kX4_keep_ok kX4_keep_cst fl_X4_ok ?_ ?_ (wk_X4_keep B)
  · intro q hq
    simp only [cal_X4_keep, List.mem_cons, List.not_mem_nil, or_false] at hq
  · exact fun q hq => nomatch hq
abbrev rm_X4_fits : Room := { frames := 2, cells := 0, slots := 0, locals := 43 }
theorem me_X4_fits (l : Launch) (g : fw_G) (B : Nat) : fw_Met l g B yX4_fits cX4_fits 3 (some .boolean) rm_X4_fits 0 0 (ct_X4_fits B) := by
  refine fw_met (own := RX4) (by decide +kernel) rfl kX4_fits_ok kX4_fits_cst fl_X4_ok ?_ ?_ (wk_X4_fits B)
  · intro q hq
    simp only [cal_X4_fits, List.mem_cons, List.not_mem_nil, or_false] at hq
    rcases hq with rfl | rfl | rfl | rfl
    · exact fw_calSN (me_X5_isZone l g B) (List.mem_append_left _ (List.mem_map.mpr ⟨(RX4, 58, yX5_isZone, "CourierRelay"), List.mem_of_getElem? (i := 10) rfl, rfl⟩)) ws_X5_isZone wz_RX5 wc_X5_isZone rfl rfl (by decide +kernel) ⟨by decide, by decide⟩
    · exact fw_calV (ci := 4) (me_X4_numberOf l g B) (by decide) wl_X4_61 wi_X4_numberOf wv_X4_numberOf wz_RX4 wc_X4_numberOf rfl rfl (by decide +kernel) ⟨by decide, by decide⟩
    · exact fw_calSN (me_X5_isCutOff l g B) (List.mem_append_left _ (List.mem_map.mpr ⟨(RX4, 65, yX5_isCutOff, "CourierRelay"), List.mem_of_getElem? (i := 11) rfl, rfl⟩)) ws_X5_isCutOff wz_RX5 wc_X5_isCutOff rfl rfl (by decide +kernel) ⟨by decide, by decide⟩
    · exact fw_calSN (me_X5_isTip l g B) (List.mem_append_left _ (List.mem_map.mpr ⟨(RX4, 68, yX5_isTip, "CourierRelay"), List.mem_of_getElem? (i := 12) rfl, rfl⟩)) ws_X5_isTip wz_RX5 wc_X5_isTip rfl rfl (by decide +kernel) ⟨by decide, by decide⟩
  · exact fun q hq => nomatch hq
abbrev rm_X4_add : Room := { frames := 0, cells := 0, slots := 0, locals := 0 }
theorem me_X4_add (l : Launch) (g : fw_G) (B : Nat) : fw_Met l g B yX4_add cX4_add 2 (none) rm_X4_add 0 0 (ct_X4_add B) := by
  refine fw_met (own := RX4) (by decide +kernel) rfl kX4_add_ok kX4_add_cst fl_X4_ok ?_ ?_ (wk_X4_add B)
  · intro q hq
    simp only [cal_X4_add, List.mem_cons, List.not_mem_nil, or_false] at hq
  · exact fun q hq => nomatch hq
abbrev rm_X4_readNumber : Room := { frames := 3, cells := 0, slots := 0, locals := 65 }
theorem me_X4_readNumber (l : Launch) (g : fw_G) (B : Nat) : fw_Met l g B yX4_readNumber cX4_readNumber 4 (some .int) rm_X4_readNumber 0 0 (ct_X4_readNumber B) := by
  refine fw_met (own := RX4) (by decide +kernel) rfl kX4_readNumber_ok kX4_readNumber_cst fl_X4_ok ?_ ?_ (wk_X4_readNumber B)
  · intro q hq
    simp only [cal_X4_readNumber, List.mem_cons, List.not_mem_nil, or_false] at hq
    rcases hq with rfl | rfl | rfl | rfl | rfl | rfl
    · exact fw_calSN (me_X5_at l g B) (List.mem_append_left _ (List.mem_map.mpr ⟨(RX4, 22, yX5_at, "CourierRelay"), List.mem_of_getElem? (i := 9) rfl, rfl⟩)) ws_X5_at wz_RX5 wc_X5_at rfl rfl (by decide +kernel) ⟨by decide, by decide⟩
    · exact fw_calS (me_X4_isDigit l g B) wl_X4_40 ws_X4_isDigit wz_RX4 wc_X4_isDigit rfl rfl (by decide +kernel) ⟨by decide, by decide⟩
    · exact fw_calS (me_X4_mostDigits l g B) wl_X4_44 ws_X4_mostDigits wz_RX4 wc_X4_mostDigits rfl rfl (by decide +kernel) ⟨by decide, by decide⟩
    · exact fw_calV (ci := 4) (me_X4_fits l g B) (by decide) wl_X4_47 wi_X4_fits wv_X4_fits wz_RX4 wc_X4_fits rfl rfl (by decide +kernel) ⟨by decide, by decide⟩
    · exact fw_calS (me_X4_endOf l g B) wl_X4_51 ws_X4_endOf wz_RX4 wc_X4_endOf rfl rfl (by decide +kernel) ⟨by decide, by decide⟩
    · exact fw_calV (ci := 4) (me_X4_keep l g B) (by decide) wl_X4_54 wi_X4_keep wv_X4_keep wz_RX4 wc_X4_keep rfl rfl (by decide +kernel) ⟨by decide, by decide⟩
  · exact fun q hq => nomatch hq
abbrev rm_X4_readItem : Room := { frames := 4, cells := 0, slots := 0, locals := 88 }
theorem me_X4_readItem (l : Launch) (g : fw_G) (B : Nat) : fw_Met l g B yX4_readItem cX4_readItem 3 (some .int) rm_X4_readItem 0 0 (ct_X4_readItem B) := by
  refine fw_met (own := RX4) (by decide +kernel) rfl kX4_readItem_ok kX4_readItem_cst fl_X4_ok ?_ ?_ (wk_X4_readItem B)
  · intro q hq
    simp only [cal_X4_readItem, List.mem_cons, List.not_mem_nil, or_false] at hq
    rcases hq with rfl
    · exact fw_calV (ci := 4) (me_X4_readNumber l g B) (by decide) wl_X4_36 wi_X4_readNumber wv_X4_readNumber wz_RX4 wc_X4_readNumber rfl rfl (by decide +kernel) ⟨by decide, by decide⟩
  · exact fun q hq => nomatch hq
abbrev rm_X4_read : Room := { frames := 5, cells := 0, slots := 0, locals := 110 }
theorem me_X4_read (l : Launch) (g : fw_G) (B : Nat) : fw_Met l g B yX4_read cX4_read 3 (some .int) rm_X4_read 0 0 (ct_X4_read B) := by
  refine fw_met (own := RX4) (by decide +kernel) rfl kX4_read_ok kX4_read_cst fl_X4_ok ?_ ?_ (wk_X4_read B)
  · intro q hq
    simp only [cal_X4_read, List.mem_cons, List.not_mem_nil, or_false] at hq
    rcases hq with rfl
    · exact fw_calV (ci := 4) (me_X4_readItem l g B) (by decide) wl_X4_32 wi_X4_readItem wv_X4_readItem wz_RX4 wc_X4_readItem rfl rfl (by decide +kernel) ⟨by decide, by decide⟩
  · exact fun q hq => nomatch hq
end

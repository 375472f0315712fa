/-! contracts out of walks (printed by program) -/
section
abbrev rm_X3_begin : Room := { frames := 0, cells := 0, slots := 0, locals := 0 }
theorem me_X3_begin (l : Launch) (g : fw_G) (B : Nat) : fw_Met l g B yX3_begin cX3_begin 6 (none) rm_X3_begin 0 0 (ct_X3_begin B) := by
  refine fw_met (own := RX3) (by decide +kernel) rfl kX3_begin_ok kX3_begin_cst fl_X3_ok ?_ ?_ (wk_X3_begin B)
  · intro q hq
    simp only [cal_X3_begin, List.mem_cons, List.not_mem_nil, or_false] at hq
  · exact fun q hq => nomatch hq
abbrev rm_X3_become : Room := { frames := 2, cells := 0, slots := 0, locals := 81 }
theorem me_X3_become (l : Launch) (g : fw_G) (B : Nat) : fw_Met l g B yX3_become cX3_become 2 (none) rm_X3_become 0 0 (ct_X3_become B) := by
  refine fw_met (own := RX3) (by decide +kernel) rfl kX3_become_ok kX3_become_cst fl_X3_ok ?_ ?_ (wk_X3_become B)
  · intro q hq
    simp only [cal_X3_become, List.mem_cons, List.not_mem_nil, or_false] at hq
    rcases hq with rfl
    · exact fw_calSN (me_X5_copyRow l g B) (List.mem_append_left _ (List.mem_map.mpr ⟨(RX3, 43, yX5_copyRow, "CourierRelay"), List.mem_of_getElem? (i := 4) rfl, rfl⟩)) ws_X5_copyRow wz_RX5 wc_X5_copyRow rfl rfl (by decide +kernel) ⟨by decide, by decide⟩
  · exact fun q hq => nomatch hq
abbrev rm_X3_isOpen : Room := { frames := 0, cells := 0, slots := 0, locals := 0 }
theorem me_X3_isOpen (l : Launch) (g : fw_G) (B : Nat) : fw_Met l g B yX3_isOpen cX3_isOpen 1 (some .boolean) rm_X3_isOpen 0 0 (ct_X3_isOpen B) := by
  refine fw_met (own := RX3) (by decide +kernel) rfl kX3_isOpen_ok kX3_isOpen_cst fl_X3_ok ?_ ?_ (wk_X3_isOpen B)
  · intro q hq
    simp only [cal_X3_isOpen, List.mem_cons, List.not_mem_nil, or_false] at hq
  · exact fun q hq => nomatch hq
abbrev rm_X3_suits : Room := { frames := 1, cells := 0, slots := 0, locals := 23 }
theorem me_X3_suits (l : Launch) (g : fw_G) (B : Nat) : fw_Met l g B yX3_suits cX3_suits 2 (some .boolean) rm_X3_suits 0 0 (ct_X3_suits B) := by
  refine fw_met (own := RX3) (by decide +kernel) rfl kX3_suits_ok kX3_suits_cst fl_X3_ok ?_ ?_ (wk_X3_suits B)
  · intro q hq
    simp only [cal_X3_suits, List.mem_cons, List.not_mem_nil, or_false] at hq
    rcases hq with rfl | rfl
    · exact fw_calSN (me_X5_holds l g B) (List.mem_append_left _ (List.mem_map.mpr ⟨(RX3, 47, yX5_holds, "CourierRelay"), List.mem_of_getElem? (i := 5) rfl, rfl⟩)) ws_X5_holds wz_RX5 wc_X5_holds rfl rfl (by decide +kernel) ⟨by decide, by decide⟩
    · exact fw_calSN (me_X5_nextZone l g B) (List.mem_append_left _ (List.mem_map.mpr ⟨(RX3, 51, yX5_nextZone, "CourierRelay"), List.mem_of_getElem? (i := 6) rfl, rfl⟩)) ws_X5_nextZone wz_RX5 wc_X5_nextZone rfl rfl (by decide +kernel) ⟨by decide, by decide⟩
  · exact fun q hq => nomatch hq
abbrev rm_X3_legsOf : Room := { frames := 1, cells := 0, slots := 0, locals := 21 }
theorem me_X3_legsOf (l : Launch) (g : fw_G) (B : Nat) : fw_Met l g B yX3_legsOf cX3_legsOf 2 (some .int) rm_X3_legsOf 0 0 (ct_X3_legsOf B) := by
  refine fw_met (own := RX3) (by decide +kernel) rfl kX3_legsOf_ok kX3_legsOf_cst fl_X3_ok ?_ ?_ (wk_X3_legsOf B)
  · intro q hq
    simp only [cal_X3_legsOf, List.mem_cons, List.not_mem_nil, or_false] at hq
    rcases hq with rfl
    · exact fw_calSN (me_X5_at l g B) (List.mem_append_left _ (List.mem_map.mpr ⟨(RX3, 55, yX5_at, "CourierRelay"), List.mem_of_getElem? (i := 7) rfl, rfl⟩)) ws_X5_at wz_RX5 wc_X5_at rfl rfl (by decide +kernel) ⟨by decide, by decide⟩
  · exact fun q hq => nomatch hq
abbrev rm_X3_shareOf : Room := { frames := 1, cells := 0, slots := 0, locals := 21 }
theorem me_X3_shareOf (l : Launch) (g : fw_G) (B : Nat) : fw_Met l g B yX3_shareOf cX3_shareOf 2 (some .int) rm_X3_shareOf 0 0 (ct_X3_shareOf B) := by
  refine fw_met (own := RX3) (by decide +kernel) rfl kX3_shareOf_ok kX3_shareOf_cst fl_X3_ok ?_ ?_ (wk_X3_shareOf B)
  · intro q hq
    simp only [cal_X3_shareOf, List.mem_cons, List.not_mem_nil, or_false] at hq
    rcases hq with rfl
    · exact fw_calSN (me_X5_at l g B) (List.mem_append_left _ (List.mem_map.mpr ⟨(RX3, 55, yX5_at, "CourierRelay"), List.mem_of_getElem? (i := 7) rfl, rfl⟩)) ws_X5_at wz_RX5 wc_X5_at rfl rfl (by decide +kernel) ⟨by decide, by decide⟩
  · exact fun q hq => nomatch hq
abbrev rm_X3_addLeg : Room := { frames := 0, cells := 0, slots := 0, locals := 0 }
theorem me_X3_addLeg (l : Launch) (g : fw_G) (B : Nat) : fw_Met l g B yX3_addLeg cX3_addLeg 2 (none) rm_X3_addLeg 0 0 (ct_X3_addLeg B) := by
  refine fw_met (own := RX3) (by decide +kernel) rfl kX3_addLeg_ok kX3_addLeg_cst fl_X3_ok ?_ ?_ (wk_X3_addLeg B)
  · intro q hq
    simp only [cal_X3_addLeg, List.mem_cons, List.not_mem_nil, or_false] at hq
  · exact fun q hq => nomatch hq
abbrev rm_X3_rankOf : Room := { frames := 0, cells := 0, slots := 0, locals := 0 }
theorem me_X3_rankOf (l : Launch) (g : fw_G) (B : Nat) : fw_Met l g B yX3_rankOf cX3_rankOf 7 (some .int) rm_X3_rankOf 0 0 (ct_X3_rankOf B) := by
  refine fw_met (own := RX3) (by decide +kernel) rfl kX3_rankOf_ok kX3_rankOf_cst fl_X3_ok ?_ ?_ (wk_X3_rankOf B)
  · intro q hq
    simp only [cal_X3_rankOf, List.mem_cons, List.not_mem_nil, or_false] at hq
  · exact fun q hq => nomatch hq
abbrev rm_X3_sharePaid : Room := { frames := 1, cells := 0, slots := 0, locals := 26 }
theorem me_X3_sharePaid (l : Launch) (g : fw_G) (B : Nat) : fw_Met l g B yX3_sharePaid cX3_sharePaid 4 (none) rm_X3_sharePaid 0 0 (ct_X3_sharePaid B) := by
  refine fw_met (own := RX3) (by decide +kernel) rfl kX3_sharePaid_ok kX3_sharePaid_cst fl_X3_ok ?_ ?_ (wk_X3_sharePaid B)
  · intro q hq
    simp only [cal_X3_sharePaid, List.mem_cons, List.not_mem_nil, or_false] at hq
    rcases hq with rfl | rfl
    · exact fw_calSN (me_X5_sum l g B) (List.mem_append_left _ (List.mem_map.mpr ⟨(RX3, 59, yX5_sum, "CourierRelay"), List.mem_of_getElem? (i := 8) rfl, rfl⟩)) ws_X5_sum wz_RX5 wc_X5_sum rfl rfl (by decide +kernel) ⟨by decide, by decide⟩
    · exact fw_calV (ci := 3) (me_X3_rankOf l g B) (by decide) wl_X3_63 wi_X3_rankOf wv_X3_rankOf wz_RX3 wc_X3_rankOf rfl rfl (by decide +kernel) ⟨by decide, by decide⟩
  · exact fun q hq => nomatch hq
abbrev rm_X3_figure : Room := { frames := 1, cells := 0, slots := 0, locals := 22 }
theorem me_X3_figure (l : Launch) (g : fw_G) (B : Nat) : fw_Met l g B yX3_figure cX3_figure 2 (some .int) rm_X3_figure 0 0 (ct_X3_figure B) := by
  refine fw_met (own := RX3) (by decide +kernel) rfl kX3_figure_ok kX3_figure_cst fl_X3_ok ?_ ?_ (wk_X3_figure B)
  · intro q hq
    simp only [cal_X3_figure, List.mem_cons, List.not_mem_nil, or_false] at hq
    rcases hq with rfl
    · exact fw_calSN (me_X5_sum l g B) (List.mem_append_left _ (List.mem_map.mpr ⟨(RX3, 59, yX5_sum, "CourierRelay"), List.mem_of_getElem? (i := 8) rfl, rfl⟩)) ws_X5_sum wz_RX5 wc_X5_sum rfl rfl (by decide +kernel) ⟨by decide, by decide⟩
  · exact fun q hq => nomatch hq
end

/-! contracts out of walks (printed by program) -/
section
abbrev rm_X5_isZone : Room := { frames := 0, cells := 0, slots := 0, locals := 0 }
theorem me_X5_isZone (l : Launch) (g : fw_G) (B : Nat) : fw_Met l g B yX5_isZone cX5_isZone 1 (some .boolean) rm_X5_isZone 0 0 (ct_X5_isZone B) := by
  refine fw_met (own := RX5) (by decide +kernel) rfl kX5_isZone_ok kX5_isZone_cst fl_X5_ok ?_ ?_ (wk_X5_isZone B)
  · intro q hq
    simp only [cal_X5_isZone, List.mem_cons, List.not_mem_nil, or_false] at hq
  · exact fun q hq => nomatch hq
abbrev rm_X5_isArea : Room := { frames := 0, cells := 0, slots := 0, locals := 0 }
theorem me_X5_isArea (l : Launch) (g : fw_G) (B : Nat) : fw_Met l g B yX5_isArea cX5_isArea 1 (some .boolean) rm_X5_isArea 0 0 (ct_X5_isArea B) := by
  refine fw_met (own := RX5) (by decide +kernel) rfl kX5_isArea_ok kX5_isArea_cst fl_X5_ok ?_ ?_ (wk_X5_isArea B)
  · intro q hq
    simp only [cal_X5_isArea, List.mem_cons, List.not_mem_nil, or_false] at hq
  · exact fun q hq => nomatch hq
abbrev rm_X5_isCutOff : Room := { frames := 0, cells := 0, slots := 0, locals := 0 }
theorem me_X5_isCutOff (l : Launch) (g : fw_G) (B : Nat) : fw_Met l g B yX5_isCutOff cX5_isCutOff 1 (some .boolean) rm_X5_isCutOff 0 0 (ct_X5_isCutOff B) := by
  refine fw_met (own := RX5) (by decide +kernel) rfl kX5_isCutOff_ok kX5_isCutOff_cst fl_X5_ok ?_ ?_ (wk_X5_isCutOff B)
  · intro q hq
    simp only [cal_X5_isCutOff, List.mem_cons, List.not_mem_nil, or_false] at hq
  · exact fun q hq => nomatch hq
abbrev rm_X5_isTip : Room := { frames := 0, cells := 0, slots := 0, locals := 0 }
theorem me_X5_isTip (l : Launch) (g : fw_G) (B : Nat) : fw_Met l g B yX5_isTip cX5_isTip 1 (some .boolean) rm_X5_isTip 0 0 (ct_X5_isTip B) := by
  refine fw_met (own := RX5) (by decide +kernel) rfl kX5_isTip_ok kX5_isTip_cst fl_X5_ok ?_ ?_ (wk_X5_isTip B)
  · intro q hq
    simp only [cal_X5_isTip, List.mem_cons, List.not_mem_nil, or_false] at hq
  · exact fun q hq => nomatch hq
abbrev rm_X5_isTicks : Room := { frames := 0, cells := 0, slots := 0, locals := 0 }
theorem me_X5_isTicks (l : Launch) (g : fw_G) (B : Nat) : fw_Met l g B yX5_isTicks cX5_isTicks 1 (some .boolean) rm_X5_isTicks 0 0 (ct_X5_isTicks B) := by
  refine fw_met (own := RX5) (by decide +kernel) rfl kX5_isTicks_ok kX5_isTicks_cst fl_X5_ok ?_ ?_ (wk_X5_isTicks B)
  · intro q hq
    simp only [cal_X5_isTicks, List.mem_cons, List.not_mem_nil, or_false] at hq
  · exact fun q hq => nomatch hq
abbrev rm_X5_holds : Room := { frames := 0, cells := 0, slots := 0, locals := 0 }
theorem me_X5_holds (l : Launch) (g : fw_G) (B : Nat) : fw_Met l g B yX5_holds cX5_holds 2 (some .boolean) rm_X5_holds 0 0 (ct_X5_holds B) := by
  refine fw_met (own := RX5) (by decide +kernel) rfl kX5_holds_ok kX5_holds_cst fl_X5_ok ?_ ?_ (wk_X5_holds B)
  · intro q hq
    simp only [cal_X5_holds, List.mem_cons, List.not_mem_nil, or_false] at hq
  · exact fun q hq => nomatch hq
abbrev rm_X5_nextZone : Room := { frames := 0, cells := 0, slots := 0, locals := 0 }
theorem me_X5_nextZone (l : Launch) (g : fw_G) (B : Nat) : fw_Met l g B yX5_nextZone cX5_nextZone 4 (some .int) rm_X5_nextZone 0 0 (ct_X5_nextZone B) := by
  refine fw_met (own := RX5) (by decide +kernel) rfl kX5_nextZone_ok kX5_nextZone_cst fl_X5_ok ?_ ?_ (wk_X5_nextZone B)
  · intro q hq
    simp only [cal_X5_nextZone, List.mem_cons, List.not_mem_nil, or_false] at hq
  · exact fun q hq => nomatch hq
abbrev rm_X5_at : Room := { frames := 0, cells := 0, slots := 0, locals := 0 }
theorem me_X5_at (l : Launch) (g : fw_G) (B : Nat) : fw_Met l g B yX5_at cX5_at 2 (some .int) rm_X5_at 0 0 (ct_X5_at B) := by
  refine fw_met (own := RX5) (by decide +kernel) rfl kX5_at_ok kX5_at_cst fl_X5_ok ?_ ?_ (wk_X5_at B)
  · intro q hq
    simp only [cal_X5_at, List.mem_cons, List.not_mem_nil, or_false] at hq
  · exact fun q hq => nomatch hq
abbrev rm_X5_sum : Room := { frames := 0, cells := 0, slots := 0, locals := 0 }
theorem me_X5_sum (l : Launch) (g : fw_G) (B : Nat) : fw_Met l g B yX5_sum cX5_sum 3 (some .int) rm_X5_sum 0 0 (ct_X5_sum B) := by
  refine fw_met (own := RX5) (by decide +kernel) rfl kX5_sum_ok kX5_sum_cst fl_X5_ok ?_ ?_ (wk_X5_sum B)
  · intro q hq
    simp only [cal_X5_sum, List.mem_cons, List.not_mem_nil, or_false] at hq
  · exact fun q hq => nomatch hq
abbrev rm_X5_copyRow : Room := { frames := 1, cells := 0, slots := 0, locals := 60 }
theorem me_X5_copyRow (l : Launch) (g : fw_G) (B : Nat) : fw_Met l g B yX5_copyRow cX5_copyRow 2 (none) rm_X5_copyRow 0 0 (ct_X5_copyRow B) := by
  refine fw_met (own := RX5) (by decide +kernel) rfl kX5_copyRow_ok kX5_copyRow_cst fl_X5_ok ?_ ?_ (wk_X5_copyRow B)
  · intro q hq
    simp only [cal_X5_copyRow, List.mem_cons, List.not_mem_nil, or_false] at hq
    rcases hq with rfl | rfl
    · exact fw_calMin wl_X5_208 ws_J9_min_7cf53 wz_Math wc_J9_min_7cf53 (by decide) (by decide)
    · exact fw_calCopy wl_X5_211 wn_arraycopy ws_arraycopy wz_System (by decide) (by decide +kernel)
  · exact fun q hq => nomatch hq
end

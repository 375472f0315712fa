/-! contracts out of walks (printed by program) -/
section
abbrev rm_X1_courierAt : Room := { frames := 0, cells := 0, slots := 0, locals := 0 }
theorem me_X1_courierAt (l : Launch) (g : fw_G) (B : Nat) : fw_Met l g B yX1_courierAt cX1_courierAt 2 (Option.some (Jvm.ClassFile.FieldType.object "CourierRelay$Courier")) rm_X1_courierAt 0 0 (ct_X1_courierAt B) := by
  refine fw_met (own := RX1) (by decide +kernel) rfl kX1_courierAt_ok kX1_courierAt_cst fl_X1_ok ?_ ?_ (wk_X1_courierAt B)
  · intro q hq
    simp only [cal_X1_courierAt, List.mem_cons, List.not_mem_nil, or_false] at hq
  · exact fun q hq => nomatch hq
abbrev rm_X1_parcelAt : Room := { frames := 0, cells := 0, slots := 0, locals := 0 }
theorem me_X1_parcelAt (l : Launch) (g : fw_G) (B : Nat) : fw_Met l g B yX1_parcelAt cX1_parcelAt 2 (Option.some (Jvm.ClassFile.FieldType.object "CourierRelay$Parcel")) rm_X1_parcelAt 0 0 (ct_X1_parcelAt B) := by
  refine fw_met (own := RX1) (by decide +kernel) rfl kX1_parcelAt_ok kX1_parcelAt_cst fl_X1_ok ?_ ?_ (wk_X1_parcelAt B)
  · intro q hq
    simp only [cal_X1_parcelAt, List.mem_cons, List.not_mem_nil, or_false] at hq
  · exact fun q hq => nomatch hq
abbrev rm_X1_become : Room := { frames := 3, cells := 0, slots := 0, locals := 102 }
theorem me_X1_become (l : Launch) (g : fw_G) (B : Nat) : fw_Met l g B yX1_become cX1_become 5 (none) rm_X1_become 0 0 (ct_X1_become B) := by
  refine fw_met (own := RX1) (by decide +kernel) rfl kX1_become_ok kX1_become_cst fl_X1_ok ?_ ?_ (wk_X1_become B)
  · intro q hq
    simp only [cal_X1_become, List.mem_cons, List.not_mem_nil, or_false] at hq
    rcases hq with rfl | rfl | rfl | rfl
    · exact fw_calV (ci := 1) (me_X1_courierAt l g B) (by decide) wl_X1_47 wi_X1_courierAt wv_X1_courierAt wz_RX1 wc_X1_courierAt rfl rfl (by decide +kernel) ⟨by decide, by decide⟩
    · exact fw_calV (ci := 0) (me_X0_become l g B) (by decide) wl_X1_51 wi_X0_become wv_X0_become wz_RX0 wc_X0_become rfl rfl (by decide +kernel) ⟨by decide, by decide⟩
    · exact fw_calV (ci := 1) (me_X1_parcelAt l g B) (by decide) wl_X1_55 wi_X1_parcelAt wv_X1_parcelAt wz_RX1 wc_X1_parcelAt rfl rfl (by decide +kernel) ⟨by decide, by decide⟩
    · exact fw_calV (ci := 3) (me_X3_become l g B) (by decide) wl_X1_59 wi_X3_become wv_X3_become wz_RX3 wc_X3_become rfl rfl (by decide +kernel) ⟨by decide, by decide⟩
  · exact fun q hq => nomatch hq
abbrev rm_X1_join : Room := { frames := 2, cells := 0, slots := 0, locals := 42 }
theorem me_X1_join (l : Launch) (g : fw_G) (B : Nat) : fw_Met l g B yX1_join cX1_join 5 (some .int) rm_X1_join 0 0 (ct_X1_join B) := by
  refine fw_met (own := RX1) (by decide +kernel) rfl kX1_join_ok kX1_join_cst fl_X1_ok ?_ ?_ (wk_X1_join B)
  · intro q hq
    simp only [cal_X1_join, List.mem_cons, List.not_mem_nil, or_false] at hq
    rcases hq with rfl | rfl
    · exact fw_calV (ci := 1) (me_X1_courierAt l g B) (by decide) wl_X1_47 wi_X1_courierAt wv_X1_courierAt wz_RX1 wc_X1_courierAt rfl rfl (by decide +kernel) ⟨by decide, by decide⟩
    · exact fw_calV (ci := 0) (me_X0_begin l g B) (by decide) wl_X1_62 wi_X0_begin wv_X0_begin wz_RX0 wc_X0_begin rfl rfl (by decide +kernel) ⟨by decide, by decide⟩
  · exact fun q hq => nomatch hq
abbrev rm_X1_accept : Room := { frames := 1, cells := 0, slots := 0, locals := 25 }
theorem me_X1_accept (l : Launch) (g : fw_G) (B : Nat) : fw_Met l g B yX1_accept cX1_accept 7 (some .int) rm_X1_accept 0 0 (ct_X1_accept B) := by
  refine fw_met (own := RX1) (by decide +kernel) rfl kX1_accept_ok kX1_accept_cst fl_X1_ok ?_ ?_ (wk_X1_accept B)
  · intro q hq
    simp only [cal_X1_accept, List.mem_cons, List.not_mem_nil, or_false] at hq
    rcases hq with rfl | rfl
    · exact fw_calV (ci := 1) (me_X1_parcelAt l g B) (by decide) wl_X1_55 wi_X1_parcelAt wv_X1_parcelAt wz_RX1 wc_X1_parcelAt rfl rfl (by decide +kernel) ⟨by decide, by decide⟩
    · exact fw_calV (ci := 3) (me_X3_begin l g B) (by decide) wl_X1_66 wi_X3_begin wv_X3_begin wz_RX3 wc_X3_begin rfl rfl (by decide +kernel) ⟨by decide, by decide⟩
  · exact fun q hq => nomatch hq
abbrev rm_X1_release : Room := { frames := 1, cells := 0, slots := 0, locals := 21 }
theorem me_X1_release (l : Launch) (g : fw_G) (B : Nat) : fw_Met l g B yX1_release cX1_release 3 (none) rm_X1_release 0 0 (ct_X1_release B) := by
  refine fw_met (own := RX1) (by decide +kernel) rfl kX1_release_ok kX1_release_cst fl_X1_ok ?_ ?_ (wk_X1_release B)
  · intro q hq
    simp only [cal_X1_release, List.mem_cons, List.not_mem_nil, or_false] at hq
    rcases hq with rfl | rfl
    · exact fw_calV (ci := 1) (me_X1_parcelAt l g B) (by decide) wl_X1_55 wi_X1_parcelAt wv_X1_parcelAt wz_RX1 wc_X1_parcelAt rfl rfl (by decide +kernel) ⟨by decide, by decide⟩
    · exact fw_calV (ci := 0) (me_X0_setFree l g B) (by decide) wl_X1_75 wi_X0_setFree wv_X0_setFree wz_RX0 wc_X0_setFree rfl rfl (by decide +kernel) ⟨by decide, by decide⟩
  · exact fun q hq => nomatch hq
abbrev rm_X1_deliver : Room := { frames := 2, cells := 0, slots := 0, locals := 49 }
theorem me_X1_deliver (l : Launch) (g : fw_G) (B : Nat) : fw_Met l g B yX1_deliver cX1_deliver 4 (none) rm_X1_deliver 0 0 (ct_X1_deliver B) := by
  refine fw_met (own := RX1) (by decide +kernel) rfl kX1_deliver_ok kX1_deliver_cst fl_X1_ok ?_ ?_ (wk_X1_deliver B)
  · intro q hq
    simp only [cal_X1_deliver, List.mem_cons, List.not_mem_nil, or_false] at hq
    rcases hq with rfl | rfl | rfl
    · exact fw_calV (ci := 3) (me_X3_sharePaid l g B) (by decide) wl_X1_141 wi_X3_sharePaid wv_X3_sharePaid wz_RX3 wc_X3_sharePaid rfl rfl (by decide +kernel) ⟨by decide, by decide⟩
    · exact fw_calV (ci := 1) (me_X1_courierAt l g B) (by decide) wl_X1_47 wi_X1_courierAt wv_X1_courierAt wz_RX1 wc_X1_courierAt rfl rfl (by decide +kernel) ⟨by decide, by decide⟩
    · exact fw_calV (ci := 3) (me_X3_shareOf l g B) (by decide) wl_X1_147 wi_X3_shareOf wv_X3_shareOf wz_RX3 wc_X3_shareOf rfl rfl (by decide +kernel) ⟨by decide, by decide⟩
  · exact fun q hq => nomatch hq
abbrev rm_X1_carry : Room := { frames := 3, cells := 0, slots := 0, locals := 72 }
theorem me_X1_carry (l : Launch) (g : fw_G) (B : Nat) : fw_Met l g B yX1_carry cX1_carry 5 (none) rm_X1_carry 0 0 (ct_X1_carry B) := by
  refine fw_met (own := RX1) (by decide +kernel) rfl kX1_carry_ok kX1_carry_cst fl_X1_ok ?_ ?_ (wk_X1_carry B)
  · intro q hq
    simp only [cal_X1_carry, List.mem_cons, List.not_mem_nil, or_false] at hq
    rcases hq with rfl | rfl | rfl | rfl | rfl
    · exact fw_calSN (me_X5_nextZone l g B) (List.mem_append_left _ (List.mem_map.mpr ⟨(RX1, 115, yX5_nextZone, "CourierRelay"), List.mem_of_getElem? (i := 2) rfl, rfl⟩)) ws_X5_nextZone wz_RX5 wc_X5_nextZone rfl rfl (by decide +kernel) ⟨by decide, by decide⟩
    · exact fw_calSN (me_X5_holds l g B) (List.mem_append_left _ (List.mem_map.mpr ⟨(RX1, 119, yX5_holds, "CourierRelay"), List.mem_of_getElem? (i := 3) rfl, rfl⟩)) ws_X5_holds wz_RX5 wc_X5_holds rfl rfl (by decide +kernel) ⟨by decide, by decide⟩
    · exact fw_calV (ci := 0) (me_X0_setFree l g B) (by decide) wl_X1_75 wi_X0_setFree wv_X0_setFree wz_RX0 wc_X0_setFree rfl rfl (by decide +kernel) ⟨by decide, by decide⟩
    · exact fw_calV (ci := 3) (me_X3_addLeg l g B) (by decide) wl_X1_124 wi_X3_addLeg wv_X3_addLeg wz_RX3 wc_X3_addLeg rfl rfl (by decide +kernel) ⟨by decide, by decide⟩
    · exact fw_calV (ci := 1) (me_X1_deliver l g B) (by decide) wl_X1_128 wi_X1_deliver wv_X1_deliver wz_RX1 wc_X1_deliver rfl rfl (by decide +kernel) ⟨by decide, by decide⟩
  · exact fun q hq => nomatch hq
abbrev rm_X1_approach : Room := { frames := 1, cells := 0, slots := 0, locals := 23 }
theorem me_X1_approach (l : Launch) (g : fw_G) (B : Nat) : fw_Met l g B yX1_approach cX1_approach 3 (none) rm_X1_approach 0 0 (ct_X1_approach B) := by
  refine fw_met (own := RX1) (by decide +kernel) rfl kX1_approach_ok kX1_approach_cst fl_X1_ok ?_ ?_ (wk_X1_approach B)
  · intro q hq
    simp only [cal_X1_approach, List.mem_cons, List.not_mem_nil, or_false] at hq
    rcases hq with rfl
    · exact fw_calSN (me_X5_nextZone l g B) (List.mem_append_left _ (List.mem_map.mpr ⟨(RX1, 115, yX5_nextZone, "CourierRelay"), List.mem_of_getElem? (i := 2) rfl, rfl⟩)) ws_X5_nextZone wz_RX5 wc_X5_nextZone rfl rfl (by decide +kernel) ⟨by decide, by decide⟩
  · exact fun q hq => nomatch hq
abbrev rm_X1_isSought : Room := { frames := 1, cells := 0, slots := 0, locals := 21 }
theorem me_X1_isSought (l : Launch) (g : fw_G) (B : Nat) : fw_Met l g B yX1_isSought cX1_isSought 4 (some .boolean) rm_X1_isSought 0 0 (ct_X1_isSought B) := by
  refine fw_met (own := RX1) (by decide +kernel) rfl kX1_isSought_ok kX1_isSought_cst fl_X1_ok ?_ ?_ (wk_X1_isSought B)
  · intro q hq
    simp only [cal_X1_isSought, List.mem_cons, List.not_mem_nil, or_false] at hq
    rcases hq with rfl
    · exact fw_calV (ci := 1) (me_X1_courierAt l g B) (by decide) wl_X1_47 wi_X1_courierAt wv_X1_courierAt wz_RX1 wc_X1_courierAt rfl rfl (by decide +kernel) ⟨by decide, by decide⟩
  · exact fun q hq => nomatch hq
abbrev rm_X1_choose : Room := { frames := 2, cells := 0, slots := 0, locals := 44 }
theorem me_X1_choose (l : Launch) (g : fw_G) (B : Nat) : fw_Met l g B yX1_choose cX1_choose 6 (none) rm_X1_choose 0 0 (ct_X1_choose B) := by
  refine fw_met (own := RX1) (by decide +kernel) rfl kX1_choose_ok kX1_choose_cst fl_X1_ok ?_ ?_ (wk_X1_choose B)
  · intro q hq
    simp only [cal_X1_choose, List.mem_cons, List.not_mem_nil, or_false] at hq
    rcases hq with rfl | rfl | rfl | rfl
    · exact fw_calV (ci := 0) (me_X0_setFree l g B) (by decide) wl_X1_75 wi_X0_setFree wv_X0_setFree wz_RX0 wc_X0_setFree rfl rfl (by decide +kernel) ⟨by decide, by decide⟩
    · exact fw_calV (ci := 1) (me_X1_parcelAt l g B) (by decide) wl_X1_55 wi_X1_parcelAt wv_X1_parcelAt wz_RX1 wc_X1_parcelAt rfl rfl (by decide +kernel) ⟨by decide, by decide⟩
    · exact fw_calV (ci := 3) (me_X3_suits l g B) (by decide) wl_X1_150 wi_X3_suits wv_X3_suits wz_RX3 wc_X3_suits rfl rfl (by decide +kernel) ⟨by decide, by decide⟩
    · exact fw_calV (ci := 1) (me_X1_isSought l g B) (by decide) wl_X1_154 wi_X1_isSought wv_X1_isSought wz_RX1 wc_X1_isSought rfl rfl (by decide +kernel) ⟨by decide, by decide⟩
  · exact fun q hq => nomatch hq
abbrev rm_X1_freeCouriersOf : Room := { frames := 1, cells := 0, slots := 0, locals := 21 }
theorem me_X1_freeCouriersOf (l : Launch) (g : fw_G) (B : Nat) : fw_Met l g B yX1_freeCouriersOf cX1_freeCouriersOf 4 (none) rm_X1_freeCouriersOf 0 0 (ct_X1_freeCouriersOf B) := by
  refine fw_met (own := RX1) (by decide +kernel) rfl kX1_freeCouriersOf_ok kX1_freeCouriersOf_cst fl_X1_ok ?_ ?_ (wk_X1_freeCouriersOf B)
  · intro q hq
    simp only [cal_X1_freeCouriersOf, List.mem_cons, List.not_mem_nil, or_false] at hq
    rcases hq with rfl | rfl
    · exact fw_calV (ci := 1) (me_X1_courierAt l g B) (by decide) wl_X1_47 wi_X1_courierAt wv_X1_courierAt wz_RX1 wc_X1_courierAt rfl rfl (by decide +kernel) ⟨by decide, by decide⟩
    · exact fw_calV (ci := 0) (me_X0_setFree l g B) (by decide) wl_X1_75 wi_X0_setFree wv_X0_setFree wz_RX0 wc_X0_setFree rfl rfl (by decide +kernel) ⟨by decide, by decide⟩
  · exact fun q hq => nomatch hq
abbrev rm_X1_failLateParcels : Room := { frames := 2, cells := 0, slots := 0, locals := 44 }
theorem me_X1_failLateParcels (l : Launch) (g : fw_G) (B : Nat) : fw_Met l g B yX1_failLateParcels cX1_failLateParcels 3 (none) rm_X1_failLateParcels 0 0 (ct_X1_failLateParcels B) := by
  refine fw_met (own := RX1) (by decide +kernel) rfl kX1_failLateParcels_ok kX1_failLateParcels_cst fl_X1_ok ?_ ?_ (wk_X1_failLateParcels B)
  · intro q hq
    simp only [cal_X1_failLateParcels, List.mem_cons, List.not_mem_nil, or_false] at hq
    rcases hq with rfl | rfl | rfl
    · exact fw_calV (ci := 1) (me_X1_parcelAt l g B) (by decide) wl_X1_55 wi_X1_parcelAt wv_X1_parcelAt wz_RX1 wc_X1_parcelAt rfl rfl (by decide +kernel) ⟨by decide, by decide⟩
    · exact fw_calV (ci := 3) (me_X3_isOpen l g B) (by decide) wl_X1_157 wi_X3_isOpen wv_X3_isOpen wz_RX3 wc_X3_isOpen rfl rfl (by decide +kernel) ⟨by decide, by decide⟩
    · exact fw_calV (ci := 1) (me_X1_freeCouriersOf l g B) (by decide) wl_X1_161 wi_X1_freeCouriersOf wv_X1_freeCouriersOf wz_RX1 wc_X1_freeCouriersOf rfl rfl (by decide +kernel) ⟨by decide, by decide⟩
  · exact fun q hq => nomatch hq
abbrev rm_X1_tick : Room := { frames := 4, cells := 0, slots := 0, locals := 96 }
theorem me_X1_tick (l : Launch) (g : fw_G) (B : Nat) : fw_Met l g B yX1_tick cX1_tick 7 (some .boolean) rm_X1_tick 0 0 (ct_X1_tick B) := by
  refine fw_met (own := RX1) (by decide +kernel) rfl kX1_tick_ok kX1_tick_cst fl_X1_ok ?_ ?_ (wk_X1_tick B)
  · intro q hq
    simp only [cal_X1_tick, List.mem_cons, List.not_mem_nil, or_false] at hq
    rcases hq with rfl | rfl | rfl | rfl | rfl | rfl
    · exact fw_calV (ci := 1) (me_X1_courierAt l g B) (by decide) wl_X1_47 wi_X1_courierAt wv_X1_courierAt wz_RX1 wc_X1_courierAt rfl rfl (by decide +kernel) ⟨by decide, by decide⟩
    · exact fw_calV (ci := 1) (me_X1_parcelAt l g B) (by decide) wl_X1_55 wi_X1_parcelAt wv_X1_parcelAt wz_RX1 wc_X1_parcelAt rfl rfl (by decide +kernel) ⟨by decide, by decide⟩
    · exact fw_calV (ci := 1) (me_X1_carry l g B) (by decide) wl_X1_95 wi_X1_carry wv_X1_carry wz_RX1 wc_X1_carry rfl rfl (by decide +kernel) ⟨by decide, by decide⟩
    · exact fw_calV (ci := 1) (me_X1_approach l g B) (by decide) wl_X1_99 wi_X1_approach wv_X1_approach wz_RX1 wc_X1_approach rfl rfl (by decide +kernel) ⟨by decide, by decide⟩
    · exact fw_calV (ci := 1) (me_X1_choose l g B) (by decide) wl_X1_103 wi_X1_choose wv_X1_choose wz_RX1 wc_X1_choose rfl rfl (by decide +kernel) ⟨by decide, by decide⟩
    · exact fw_calV (ci := 1) (me_X1_failLateParcels l g B) (by decide) wl_X1_106 wi_X1_failLateParcels wv_X1_failLateParcels wz_RX1 wc_X1_failLateParcels rfl rfl (by decide +kernel) ⟨by decide, by decide⟩
  · exact fun q hq => nomatch hq
abbrev rm_X1_pass : Room := { frames := 5, cells := 0, slots := 0, locals := 122 }
theorem me_X1_pass (l : Launch) (g : fw_G) (B : Nat) : fw_Met l g B yX1_pass cX1_pass 5 (some .int) rm_X1_pass 0 0 (ct_X1_pass B) := by
  refine fw_met (own := RX1) (by decide +kernel) rfl kX1_pass_ok kX1_pass_cst fl_X1_ok ?_ ?_ (wk_X1_pass B)
  · intro q hq
    simp only [cal_X1_pass, List.mem_cons, List.not_mem_nil, or_false] at hq
    rcases hq with rfl
    · exact fw_calV (ci := 1) (me_X1_tick l g B) (by decide) wl_X1_84 wi_X1_tick wv_X1_tick wz_RX1 wc_X1_tick rfl rfl (by decide +kernel) ⟨by decide, by decide⟩
  · exact fun q hq => nomatch hq
abbrev rm_X1_parcelsIn : Room := { frames := 1, cells := 0, slots := 0, locals := 21 }
theorem me_X1_parcelsIn (l : Launch) (g : fw_G) (B : Nat) : fw_Met l g B yX1_parcelsIn cX1_parcelsIn 5 (some .int) rm_X1_parcelsIn 0 0 (ct_X1_parcelsIn B) := by
  refine fw_met (own := RX1) (by decide +kernel) rfl kX1_parcelsIn_ok kX1_parcelsIn_cst fl_X1_ok ?_ ?_ (wk_X1_parcelsIn B)
  · intro q hq
    simp only [cal_X1_parcelsIn, List.mem_cons, List.not_mem_nil, or_false] at hq
    rcases hq with rfl
    · exact fw_calV (ci := 1) (me_X1_parcelAt l g B) (by decide) wl_X1_55 wi_X1_parcelAt wv_X1_parcelAt wz_RX1 wc_X1_parcelAt rfl rfl (by decide +kernel) ⟨by decide, by decide⟩
  · exact fun q hq => nomatch hq
abbrev rm_X1_legsBy : Room := { frames := 2, cells := 0, slots := 0, locals := 42 }
theorem me_X1_legsBy (l : Launch) (g : fw_G) (B : Nat) : fw_Met l g B yX1_legsBy cX1_legsBy 5 (some .int) rm_X1_legsBy 0 0 (ct_X1_legsBy B) := by
  refine fw_met (own := RX1) (by decide +kernel) rfl kX1_legsBy_ok kX1_legsBy_cst fl_X1_ok ?_ ?_ (wk_X1_legsBy B)
  · intro q hq
    simp only [cal_X1_legsBy, List.mem_cons, List.not_mem_nil, or_false] at hq
    rcases hq with rfl | rfl
    · exact fw_calV (ci := 1) (me_X1_parcelAt l g B) (by decide) wl_X1_55 wi_X1_parcelAt wv_X1_parcelAt wz_RX1 wc_X1_parcelAt rfl rfl (by decide +kernel) ⟨by decide, by decide⟩
    · exact fw_calV (ci := 3) (me_X3_legsOf l g B) (by decide) wl_X1_167 wi_X3_legsOf wv_X3_legsOf wz_RX3 wc_X3_legsOf rfl rfl (by decide +kernel) ⟨by decide, by decide⟩
  · exact fun q hq => nomatch hq
abbrev rm_X1_figure : Room := { frames := 2, cells := 0, slots := 0, locals := 45 }
theorem me_X1_figure (l : Launch) (g : fw_G) (B : Nat) : fw_Met l g B yX1_figure cX1_figure 2 (some .int) rm_X1_figure 0 0 (ct_X1_figure B) := by
  refine fw_met (own := RX1) (by decide +kernel) rfl kX1_figure_ok kX1_figure_cst fl_X1_ok ?_ ?_ (wk_X1_figure B)
  · intro q hq
    simp only [cal_X1_figure, List.mem_cons, List.not_mem_nil, or_false] at hq
    rcases hq with rfl
    · exact fw_calV (ci := 1) (me_X1_parcelsIn l g B) (by decide) wl_X1_88 wi_X1_parcelsIn wv_X1_parcelsIn wz_RX1 wc_X1_parcelsIn rfl rfl (by decide +kernel) ⟨by decide, by decide⟩
  · exact fun q hq => nomatch hq
abbrev rm_X1_courierFigure : Room := { frames := 3, cells := 0, slots := 0, locals := 66 }
theorem me_X1_courierFigure (l : Launch) (g : fw_G) (B : Nat) : fw_Met l g B yX1_courierFigure cX1_courierFigure 4 (some .int) rm_X1_courierFigure 0 0 (ct_X1_courierFigure B) := by
  refine fw_met (own := RX1) (by decide +kernel) rfl kX1_courierFigure_ok kX1_courierFigure_cst fl_X1_ok ?_ ?_ (wk_X1_courierFigure B)
  · intro q hq
    simp only [cal_X1_courierFigure, List.mem_cons, List.not_mem_nil, or_false] at hq
    rcases hq with rfl
    · exact fw_calV (ci := 1) (me_X1_legsBy l g B) (by decide) wl_X1_170 wi_X1_legsBy wv_X1_legsBy wz_RX1 wc_X1_legsBy rfl rfl (by decide +kernel) ⟨by decide, by decide⟩
  · exact fun q hq => nomatch hq
end

/-! contracts out of walks (printed by program) -/
section
abbrev rm_X6_ends : Room := { frames := 1, cells := 0, slots := 0, locals := 21 }
theorem me_X6_ends (l : Launch) (g : fw_G) (B : Nat) : fw_Met l g B yX6_ends cX6_ends 3 (some .int) rm_X6_ends 0 0 (ct_X6_ends B) := by
  refine fw_met (own := RX6) (by decide +kernel) rfl kX6_ends_ok kX6_ends_cst fl_X6_ok ?_ ?_ (wk_X6_ends B)
  · intro q hq
    simp only [cal_X6_ends, List.mem_cons, List.not_mem_nil, or_false] at hq
    rcases hq with rfl
    · exact fw_calV (ci := 6) (me_X6_tells l g B) (by decide) wl_X6_36 wi_X6_tells wv_X6_tells wz_RX6 wc_X6_tells rfl rfl (by decide +kernel) ⟨by decide, by decide⟩
  · exact fun q hq => nomatch hq
abbrev rm_X6_inState : Room := { frames := 1, cells := 0, slots := 0, locals := 22 }
theorem me_X6_inState (l : Launch) (g : fw_G) (B : Nat) : fw_Met l g B yX6_inState cX6_inState 4 (some .int) rm_X6_inState 0 0 (ct_X6_inState B) := by
  refine fw_met (own := RX6) (by decide +kernel) rfl kX6_inState_ok kX6_inState_cst fl_X6_ok ?_ ?_ (wk_X6_inState B)
  · intro q hq
    simp only [cal_X6_inState, List.mem_cons, List.not_mem_nil, or_false] at hq
    rcases hq with rfl
    · exact fw_calV (ci := 6) (me_X6_its l g B) (by decide) wl_X6_52 wi_X6_its wv_X6_its wz_RX6 wc_X6_its rfl rfl (by decide +kernel) ⟨by decide, by decide⟩
  · exact fun q hq => nomatch hq
abbrev rm_X6_comes : Room := { frames := 1, cells := 0, slots := 0, locals := 23 }
theorem me_X6_comes (l : Launch) (g : fw_G) (B : Nat) : fw_Met l g B yX6_comes cX6_comes 7 (none) rm_X6_comes 0 0 (ct_X6_comes B) := by
  refine fw_met (own := RX6) (by decide +kernel) rfl kX6_comes_ok kX6_comes_cst fl_X6_ok ?_ ?_ (wk_X6_comes B)
  · intro q hq
    simp only [cal_X6_comes, List.mem_cons, List.not_mem_nil, or_false] at hq
    rcases hq with rfl
    · exact fw_calV (ci := 6) (me_X6_puts l g B) (by decide) wl_X6_65 wi_X6_puts wv_X6_puts wz_RX6 wc_X6_puts rfl rfl (by decide +kernel) ⟨by decide, by decide⟩
  · exact fun q hq => nomatch hq
abbrev rm_X6_drops : Room := { frames := 2, cells := 0, slots := 0, locals := 44 }
theorem me_X6_drops (l : Launch) (g : fw_G) (B : Nat) : fw_Met l g B yX6_drops cX6_drops 3 (some .int) rm_X6_drops 0 0 (ct_X6_drops B) := by
  refine fw_met (own := RX6) (by decide +kernel) rfl kX6_drops_ok kX6_drops_cst fl_X6_ok ?_ ?_ (wk_X6_drops B)
  · intro q hq
    simp only [cal_X6_drops, List.mem_cons, List.not_mem_nil, or_false] at hq
    rcases hq with rfl | rfl | rfl
    · exact fw_calV (ci := 6) (me_X6_of l g B) (by decide) wl_X6_44 wi_X6_of wv_X6_of wz_RX6 wc_X6_of rfl rfl (by decide +kernel) ⟨by decide, by decide⟩
    · exact fw_calV (ci := 6) (me_X6_puts l g B) (by decide) wl_X6_65 wi_X6_puts wv_X6_puts wz_RX6 wc_X6_puts rfl rfl (by decide +kernel) ⟨by decide, by decide⟩
    · exact fw_calV (ci := 6) (me_X6_frees l g B) (by decide) wl_X6_72 wi_X6_frees wv_X6_frees wz_RX6 wc_X6_frees rfl rfl (by decide +kernel) ⟨by decide, by decide⟩
  · exact fun q hq => nomatch hq
abbrev rm_X6_valueOf : Room := { frames := 2, cells := 0, slots := 0, locals := 45 }
theorem me_X6_valueOf (l : Launch) (g : fw_G) (B : Nat) : fw_Met l g B yX6_valueOf cX6_valueOf 2 (some .int) rm_X6_valueOf 0 0 (ct_X6_valueOf B) := by
  refine fw_met (own := RX6) (by decide +kernel) rfl kX6_valueOf_ok kX6_valueOf_cst fl_X6_ok ?_ ?_ (wk_X6_valueOf B)
  · intro q hq
    simp only [cal_X6_valueOf, List.mem_cons, List.not_mem_nil, or_false] at hq
    rcases hq with rfl
    · exact fw_calV (ci := 6) (me_X6_inState l g B) (by decide) wl_X6_127 wi_X6_inState wv_X6_inState wz_RX6 wc_X6_inState rfl rfl (by decide +kernel) ⟨by decide, by decide⟩
  · exact fun q hq => nomatch hq
abbrev rm_X6_courierOf : Room := { frames := 1, cells := 0, slots := 0, locals := 22 }
theorem me_X6_courierOf (l : Launch) (g : fw_G) (B : Nat) : fw_Met l g B yX6_courierOf cX6_courierOf 5 (some .int) rm_X6_courierOf 0 0 (ct_X6_courierOf B) := by
  refine fw_met (own := RX6) (by decide +kernel) rfl kX6_courierOf_ok kX6_courierOf_cst fl_X6_ok ?_ ?_ (wk_X6_courierOf B)
  · intro q hq
    simp only [cal_X6_courierOf, List.mem_cons, List.not_mem_nil, or_false] at hq
    rcases hq with rfl | rfl
    · exact fw_calV (ci := 6) (me_X6_of l g B) (by decide) wl_X6_44 wi_X6_of wv_X6_of wz_RX6 wc_X6_of rfl rfl (by decide +kernel) ⟨by decide, by decide⟩
    · exact fw_calV (ci := 6) (me_X6_its l g B) (by decide) wl_X6_52 wi_X6_its wv_X6_its wz_RX6 wc_X6_its rfl rfl (by decide +kernel) ⟨by decide, by decide⟩
  · exact fun q hq => nomatch hq
abbrev rm_X6_parcelOf : Room := { frames := 2, cells := 0, slots := 0, locals := 45 }
theorem me_X6_parcelOf (l : Launch) (g : fw_G) (B : Nat) : fw_Met l g B yX6_parcelOf cX6_parcelOf 3 (some .int) rm_X6_parcelOf 0 0 (ct_X6_parcelOf B) := by
  refine fw_met (own := RX6) (by decide +kernel) rfl kX6_parcelOf_ok kX6_parcelOf_cst fl_X6_ok ?_ ?_ (wk_X6_parcelOf B)
  · intro q hq
    simp only [cal_X6_parcelOf, List.mem_cons, List.not_mem_nil, or_false] at hq
    rcases hq with rfl | rfl
    · exact fw_calV (ci := 6) (me_X6_its l g B) (by decide) wl_X6_52 wi_X6_its wv_X6_its wz_RX6 wc_X6_its rfl rfl (by decide +kernel) ⟨by decide, by decide⟩
    · exact fw_calV (ci := 6) (me_X6_legsOf l g B) (by decide) wl_X6_62 wi_X6_legsOf wv_X6_legsOf wz_RX6 wc_X6_legsOf rfl rfl (by decide +kernel) ⟨by decide, by decide⟩
  · exact fun q hq => nomatch hq
abbrev rm_X6_apart : Room := { frames := 0, cells := 0, slots := 0, locals := 0 }
theorem me_X6_apart (l : Launch) (g : fw_G) (B : Nat) : fw_Met l g B yX6_apart cX6_apart 2 (some .int) rm_X6_apart 0 0 (ct_X6_apart B) := by
  refine fw_met (own := RX6) (by decide +kernel) rfl kX6_apart_ok kX6_apart_cst fl_X6_ok ?_ ?_ (wk_X6_apart B)
  · intro q hq
    simp only [cal_X6_apart, List.mem_cons, List.not_mem_nil, or_false] at hq
  · exact fun q hq => nomatch hq
abbrev rm_X6_reach : Room := { frames := 2, cells := 0, slots := 0, locals := 44 }
theorem me_X6_reach (l : Launch) (g : fw_G) (B : Nat) : fw_Met l g B yX6_reach cX6_reach 5 (some .int) rm_X6_reach 0 0 (ct_X6_reach B) := by
  refine fw_met (own := RX6) (by decide +kernel) rfl kX6_reach_ok kX6_reach_cst fl_X6_ok ?_ ?_ (wk_X6_reach B)
  · intro q hq
    simp only [cal_X6_reach, List.mem_cons, List.not_mem_nil, or_false] at hq
    rcases hq with rfl | rfl
    · exact fw_calV (ci := 6) (me_X6_isIn l g B) (by decide) wl_X6_55 wi_X6_isIn wv_X6_isIn wz_RX6 wc_X6_isIn rfl rfl (by decide +kernel) ⟨by decide, by decide⟩
    · exact fw_calS (me_X6_next l g B) wl_X6_59 ws_X6_next wz_RX6 wc_X6_next rfl rfl (by decide +kernel) ⟨by decide, by decide⟩
  · exact fun q hq => nomatch hq
abbrev rm_X6_relays : Room := { frames := 3, cells := 0, slots := 0, locals := 68 }
theorem me_X6_relays (l : Launch) (g : fw_G) (B : Nat) : fw_Met l g B yX6_relays cX6_relays 9 (some .int) rm_X6_relays 0 0 (ct_X6_relays B) := by
  refine fw_met (own := RX6) (by decide +kernel) rfl kX6_relays_ok kX6_relays_cst fl_X6_ok ?_ ?_ (wk_X6_relays B)
  · intro q hq
    simp only [cal_X6_relays, List.mem_cons, List.not_mem_nil, or_false] at hq
    rcases hq with rfl | rfl | rfl
    · exact fw_calV (ci := 6) (me_X6_its l g B) (by decide) wl_X6_52 wi_X6_its wv_X6_its wz_RX6 wc_X6_its rfl rfl (by decide +kernel) ⟨by decide, by decide⟩
    · exact fw_calV (ci := 6) (me_X6_reach l g B) (by decide) wl_X6_148 wi_X6_reach wv_X6_reach wz_RX6 wc_X6_reach rfl rfl (by decide +kernel) ⟨by decide, by decide⟩
    · exact fw_calS (me_X6_apart l g B) wl_X6_145 ws_X6_apart wz_RX6 wc_X6_apart rfl rfl (by decide +kernel) ⟨by decide, by decide⟩
  · exact fun q hq => nomatch hq
abbrev rm_X6_more : Room := { frames := 7, cells := 0, slots := 0, locals := 164 }
theorem me_X6_more (l : Launch) (g : fw_G) (B : Nat) : fw_Met l g B yX6_more cX6_more 4 (some .int) rm_X6_more 0 0 (ct_X6_more B) := by
  refine fw_met (own := RX6) (by decide +kernel) rfl kX6_more_ok kX6_more_cst fl_X6_ok ?_ ?_ (wk_X6_more B)
  · intro q hq
    simp only [cal_X6_more, List.mem_cons, List.not_mem_nil, or_false] at hq
    rcases hq with rfl | rfl
    · exact fw_calV (ci := 6) (me_X6_ticks l g B) (by decide) wl_X6_130 wi_X6_ticks wv_X6_ticks wz_RX6 wc_X6_ticks rfl rfl (by decide +kernel) ⟨by decide, by decide⟩
    · exact fw_calS (me_X6_copies l g B) wl_X6_29 ws_X6_copies wz_RX6 wc_X6_copies rfl rfl (by decide +kernel) ⟨by decide, by decide⟩
  · exact fun q hq => nomatch hq
abbrev rm_X6_paidBy : Room := { frames := 8, cells := 0, slots := 0, locals := 187 }
theorem me_X6_paidBy (l : Launch) (g : fw_G) (B : Nat) : fw_Met l g B yX6_paidBy cX6_paidBy 2 (some .int) rm_X6_paidBy 0 0 (ct_X6_paidBy B) := by
  refine fw_met (own := RX6) (by decide +kernel) rfl kX6_paidBy_ok kX6_paidBy_cst fl_X6_ok ?_ ?_ (wk_X6_paidBy B)
  · intro q hq
    simp only [cal_X6_paidBy, List.mem_cons, List.not_mem_nil, or_false] at hq
    rcases hq with rfl | rfl
    · exact fw_calS (me_X6_copies l g B) wl_X6_29 ws_X6_copies wz_RX6 wc_X6_copies rfl rfl (by decide +kernel) ⟨by decide, by decide⟩
    · exact fw_calV (ci := 6) (me_X6_more l g B) (by decide) wl_X6_155 wi_X6_more wv_X6_more wz_RX6 wc_X6_more rfl rfl (by decide +kernel) ⟨by decide, by decide⟩
  · exact fun q hq => nomatch hq
abbrev rm_X6_isDone : Room := { frames := 2, cells := 0, slots := 0, locals := 45 }
theorem me_X6_isDone (l : Launch) (g : fw_G) (B : Nat) : fw_Met l g B yX6_isDone cX6_isDone 1 (some .boolean) rm_X6_isDone 0 0 (ct_X6_isDone B) := by
  refine fw_met (own := RX6) (by decide +kernel) rfl kX6_isDone_ok kX6_isDone_cst fl_X6_ok ?_ ?_ (wk_X6_isDone B)
  · intro q hq
    simp only [cal_X6_isDone, List.mem_cons, List.not_mem_nil, or_false] at hq
    rcases hq with rfl
    · exact fw_calV (ci := 6) (me_X6_inState l g B) (by decide) wl_X6_127 wi_X6_inState wv_X6_inState wz_RX6 wc_X6_inState rfl rfl (by decide +kernel) ⟨by decide, by decide⟩
  · exact fun q hq => nomatch hq
abbrev rm_X6_addCourier : Room := { frames := 2, cells := 0, slots := 0, locals := 44 }
theorem me_X6_addCourier (l : Launch) (g : fw_G) (B : Nat) : fw_Met l g B yX6_addCourier cX6_addCourier 4 (some .int) rm_X6_addCourier 0 0 (ct_X6_addCourier B) := by
  refine fw_met (own := RX6) (by decide +kernel) rfl kX6_addCourier_ok kX6_addCourier_cst fl_X6_ok ?_ ?_ (wk_X6_addCourier B)
  · intro q hq
    simp only [cal_X6_addCourier, List.mem_cons, List.not_mem_nil, or_false] at hq
    rcases hq with rfl | rfl | rfl | rfl | rfl | rfl | rfl
    · exact fw_calS (me_X6_isArea l g B) wl_X6_101 ws_X6_isArea wz_RX6 wc_X6_isArea rfl rfl (by decide +kernel) ⟨by decide, by decide⟩
    · exact fw_calS (me_X6_isZone l g B) wl_X6_105 ws_X6_isZone wz_RX6 wc_X6_isZone rfl rfl (by decide +kernel) ⟨by decide, by decide⟩
    · exact fw_calV (ci := 6) (me_X6_fails l g B) (by decide) wl_X6_108 wi_X6_fails wv_X6_fails wz_RX6 wc_X6_fails rfl rfl (by decide +kernel) ⟨by decide, by decide⟩
    · exact fw_calV (ci := 6) (me_X6_hold l g B) (by decide) wl_X6_111 wi_X6_hold wv_X6_hold wz_RX6 wc_X6_hold rfl rfl (by decide +kernel) ⟨by decide, by decide⟩
    · exact fw_calV (ci := 6) (me_X6_sets l g B) (by decide) wl_X6_48 wi_X6_sets wv_X6_sets wz_RX6 wc_X6_sets rfl rfl (by decide +kernel) ⟨by decide, by decide⟩
    · exact fw_calV (ci := 6) (me_X6_frees l g B) (by decide) wl_X6_72 wi_X6_frees wv_X6_frees wz_RX6 wc_X6_frees rfl rfl (by decide +kernel) ⟨by decide, by decide⟩
    · exact fw_calV (ci := 6) (me_X6_ends l g B) (by decide) wl_X6_114 wi_X6_ends wv_X6_ends wz_RX6 wc_X6_ends rfl rfl (by decide +kernel) ⟨by decide, by decide⟩
  · exact fun q hq => nomatch hq
abbrev rm_X6_setArea : Room := { frames := 2, cells := 0, slots := 0, locals := 43 }
theorem me_X6_setArea (l : Launch) (g : fw_G) (B : Nat) : fw_Met l g B yX6_setArea cX6_setArea 4 (some .int) rm_X6_setArea 0 0 (ct_X6_setArea B) := by
  refine fw_met (own := RX6) (by decide +kernel) rfl kX6_setArea_ok kX6_setArea_cst fl_X6_ok ?_ ?_ (wk_X6_setArea B)
  · intro q hq
    simp only [cal_X6_setArea, List.mem_cons, List.not_mem_nil, or_false] at hq
    rcases hq with rfl | rfl | rfl | rfl | rfl | rfl | rfl
    · exact fw_calV (ci := 6) (me_X6_isCourier l g B) (by decide) wl_X6_117 wi_X6_isCourier wv_X6_isCourier wz_RX6 wc_X6_isCourier rfl rfl (by decide +kernel) ⟨by decide, by decide⟩
    · exact fw_calV (ci := 6) (me_X6_fails l g B) (by decide) wl_X6_108 wi_X6_fails wv_X6_fails wz_RX6 wc_X6_fails rfl rfl (by decide +kernel) ⟨by decide, by decide⟩
    · exact fw_calS (me_X6_isArea l g B) wl_X6_101 ws_X6_isArea wz_RX6 wc_X6_isArea rfl rfl (by decide +kernel) ⟨by decide, by decide⟩
    · exact fw_calV (ci := 6) (me_X6_hold l g B) (by decide) wl_X6_111 wi_X6_hold wv_X6_hold wz_RX6 wc_X6_hold rfl rfl (by decide +kernel) ⟨by decide, by decide⟩
    · exact fw_calV (ci := 6) (me_X6_of l g B) (by decide) wl_X6_44 wi_X6_of wv_X6_of wz_RX6 wc_X6_of rfl rfl (by decide +kernel) ⟨by decide, by decide⟩
    · exact fw_calV (ci := 6) (me_X6_sets l g B) (by decide) wl_X6_48 wi_X6_sets wv_X6_sets wz_RX6 wc_X6_sets rfl rfl (by decide +kernel) ⟨by decide, by decide⟩
    · exact fw_calV (ci := 6) (me_X6_ends l g B) (by decide) wl_X6_114 wi_X6_ends wv_X6_ends wz_RX6 wc_X6_ends rfl rfl (by decide +kernel) ⟨by decide, by decide⟩
  · exact fun q hq => nomatch hq
abbrev rm_X6_give : Room := { frames := 2, cells := 0, slots := 0, locals := 49 }
theorem me_X6_give (l : Launch) (g : fw_G) (B : Nat) : fw_Met l g B yX6_give cX6_give 5 (some .int) rm_X6_give 0 0 (ct_X6_give B) := by
  refine fw_met (own := RX6) (by decide +kernel) rfl kX6_give_ok kX6_give_cst fl_X6_ok ?_ ?_ (wk_X6_give B)
  · intro q hq
    simp only [cal_X6_give, List.mem_cons, List.not_mem_nil, or_false] at hq
    rcases hq with rfl | rfl | rfl | rfl | rfl | rfl
    · exact fw_calS (me_X6_isZone l g B) wl_X6_105 ws_X6_isZone wz_RX6 wc_X6_isZone rfl rfl (by decide +kernel) ⟨by decide, by decide⟩
    · exact fw_calS (me_X6_in l g B) wl_X6_40 ws_X6_in wz_RX6 wc_X6_in rfl rfl (by decide +kernel) ⟨by decide, by decide⟩
    · exact fw_calV (ci := 6) (me_X6_fails l g B) (by decide) wl_X6_108 wi_X6_fails wv_X6_fails wz_RX6 wc_X6_fails rfl rfl (by decide +kernel) ⟨by decide, by decide⟩
    · exact fw_calV (ci := 6) (me_X6_hold l g B) (by decide) wl_X6_111 wi_X6_hold wv_X6_hold wz_RX6 wc_X6_hold rfl rfl (by decide +kernel) ⟨by decide, by decide⟩
    · exact fw_calV (ci := 6) (me_X6_comes l g B) (by decide) wl_X6_120 wi_X6_comes wv_X6_comes wz_RX6 wc_X6_comes rfl rfl (by decide +kernel) ⟨by decide, by decide⟩
    · exact fw_calV (ci := 6) (me_X6_ends l g B) (by decide) wl_X6_114 wi_X6_ends wv_X6_ends wz_RX6 wc_X6_ends rfl rfl (by decide +kernel) ⟨by decide, by decide⟩
  · exact fun q hq => nomatch hq
abbrev rm_X6_setGrace : Room := { frames := 2, cells := 0, slots := 0, locals := 43 }
theorem me_X6_setGrace (l : Launch) (g : fw_G) (B : Nat) : fw_Met l g B yX6_setGrace cX6_setGrace 3 (some .int) rm_X6_setGrace 0 0 (ct_X6_setGrace B) := by
  refine fw_met (own := RX6) (by decide +kernel) rfl kX6_setGrace_ok kX6_setGrace_cst fl_X6_ok ?_ ?_ (wk_X6_setGrace B)
  · intro q hq
    simp only [cal_X6_setGrace, List.mem_cons, List.not_mem_nil, or_false] at hq
    rcases hq with rfl | rfl | rfl | rfl
    · exact fw_calS (me_X6_in l g B) wl_X6_40 ws_X6_in wz_RX6 wc_X6_in rfl rfl (by decide +kernel) ⟨by decide, by decide⟩
    · exact fw_calV (ci := 6) (me_X6_fails l g B) (by decide) wl_X6_108 wi_X6_fails wv_X6_fails wz_RX6 wc_X6_fails rfl rfl (by decide +kernel) ⟨by decide, by decide⟩
    · exact fw_calV (ci := 6) (me_X6_hold l g B) (by decide) wl_X6_111 wi_X6_hold wv_X6_hold wz_RX6 wc_X6_hold rfl rfl (by decide +kernel) ⟨by decide, by decide⟩
    · exact fw_calV (ci := 6) (me_X6_ends l g B) (by decide) wl_X6_114 wi_X6_ends wv_X6_ends wz_RX6 wc_X6_ends rfl rfl (by decide +kernel) ⟨by decide, by decide⟩
  · exact fun q hq => nomatch hq
abbrev rm_X6_drop : Room := { frames := 3, cells := 0, slots := 0, locals := 66 }
theorem me_X6_drop (l : Launch) (g : fw_G) (B : Nat) : fw_Met l g B yX6_drop cX6_drop 2 (some .int) rm_X6_drop 0 0 (ct_X6_drop B) := by
  refine fw_met (own := RX6) (by decide +kernel) rfl kX6_drop_ok kX6_drop_cst fl_X6_ok ?_ ?_ (wk_X6_drop B)
  · intro q hq
    simp only [cal_X6_drop, List.mem_cons, List.not_mem_nil, or_false] at hq
    rcases hq with rfl | rfl | rfl | rfl | rfl
    · exact fw_calV (ci := 6) (me_X6_isCourier l g B) (by decide) wl_X6_117 wi_X6_isCourier wv_X6_isCourier wz_RX6 wc_X6_isCourier rfl rfl (by decide +kernel) ⟨by decide, by decide⟩
    · exact fw_calV (ci := 6) (me_X6_fails l g B) (by decide) wl_X6_108 wi_X6_fails wv_X6_fails wz_RX6 wc_X6_fails rfl rfl (by decide +kernel) ⟨by decide, by decide⟩
    · exact fw_calV (ci := 6) (me_X6_hold l g B) (by decide) wl_X6_111 wi_X6_hold wv_X6_hold wz_RX6 wc_X6_hold rfl rfl (by decide +kernel) ⟨by decide, by decide⟩
    · exact fw_calV (ci := 6) (me_X6_drops l g B) (by decide) wl_X6_124 wi_X6_drops wv_X6_drops wz_RX6 wc_X6_drops rfl rfl (by decide +kernel) ⟨by decide, by decide⟩
    · exact fw_calV (ci := 6) (me_X6_ends l g B) (by decide) wl_X6_114 wi_X6_ends wv_X6_ends wz_RX6 wc_X6_ends rfl rfl (by decide +kernel) ⟨by decide, by decide⟩
  · exact fun q hq => nomatch hq
abbrev rm_X6_run : Room := { frames := 7, cells := 0, slots := 0, locals := 164 }
theorem me_X6_run (l : Launch) (g : fw_G) (B : Nat) : fw_Met l g B yX6_run cX6_run 3 (some .int) rm_X6_run 0 0 (ct_X6_run B) := by
  refine fw_met (own := RX6) (by decide +kernel) rfl kX6_run_ok kX6_run_cst fl_X6_ok ?_ ?_ (wk_X6_run B)
  · intro q hq
    simp only [cal_X6_run, List.mem_cons, List.not_mem_nil, or_false] at hq
    rcases hq with rfl | rfl | rfl | rfl | rfl | rfl
    · exact fw_calS (me_X6_in l g B) wl_X6_40 ws_X6_in wz_RX6 wc_X6_in rfl rfl (by decide +kernel) ⟨by decide, by decide⟩
    · exact fw_calV (ci := 6) (me_X6_fails l g B) (by decide) wl_X6_108 wi_X6_fails wv_X6_fails wz_RX6 wc_X6_fails rfl rfl (by decide +kernel) ⟨by decide, by decide⟩
    · exact fw_calV (ci := 6) (me_X6_hold l g B) (by decide) wl_X6_111 wi_X6_hold wv_X6_hold wz_RX6 wc_X6_hold rfl rfl (by decide +kernel) ⟨by decide, by decide⟩
    · exact fw_calV (ci := 6) (me_X6_inState l g B) (by decide) wl_X6_127 wi_X6_inState wv_X6_inState wz_RX6 wc_X6_inState rfl rfl (by decide +kernel) ⟨by decide, by decide⟩
    · exact fw_calV (ci := 6) (me_X6_ticks l g B) (by decide) wl_X6_130 wi_X6_ticks wv_X6_ticks wz_RX6 wc_X6_ticks rfl rfl (by decide +kernel) ⟨by decide, by decide⟩
    · exact fw_calV (ci := 6) (me_X6_ends l g B) (by decide) wl_X6_114 wi_X6_ends wv_X6_ends wz_RX6 wc_X6_ends rfl rfl (by decide +kernel) ⟨by decide, by decide⟩
  · exact fun q hq => nomatch hq
abbrev rm_X6_value : Room := { frames := 3, cells := 0, slots := 0, locals := 66 }
theorem me_X6_value (l : Launch) (g : fw_G) (B : Nat) : fw_Met l g B yX6_value cX6_value 2 (some .int) rm_X6_value 0 0 (ct_X6_value B) := by
  refine fw_met (own := RX6) (by decide +kernel) rfl kX6_value_ok kX6_value_cst fl_X6_ok ?_ ?_ (wk_X6_value B)
  · intro q hq
    simp only [cal_X6_value, List.mem_cons, List.not_mem_nil, or_false] at hq
    rcases hq with rfl | rfl | rfl | rfl
    · exact fw_calS (me_X6_in l g B) wl_X6_40 ws_X6_in wz_RX6 wc_X6_in rfl rfl (by decide +kernel) ⟨by decide, by decide⟩
    · exact fw_calV (ci := 6) (me_X6_valueOf l g B) (by decide) wl_X6_133 wi_X6_valueOf wv_X6_valueOf wz_RX6 wc_X6_valueOf rfl rfl (by decide +kernel) ⟨by decide, by decide⟩
    · exact fw_calV (ci := 6) (me_X6_tells l g B) (by decide) wl_X6_36 wi_X6_tells wv_X6_tells wz_RX6 wc_X6_tells rfl rfl (by decide +kernel) ⟨by decide, by decide⟩
    · exact fw_calV (ci := 6) (me_X6_fails l g B) (by decide) wl_X6_108 wi_X6_fails wv_X6_fails wz_RX6 wc_X6_fails rfl rfl (by decide +kernel) ⟨by decide, by decide⟩
  · exact fun q hq => nomatch hq
abbrev rm_X6_courier : Room := { frames := 2, cells := 0, slots := 0, locals := 46 }
theorem me_X6_courier (l : Launch) (g : fw_G) (B : Nat) : fw_Met l g B yX6_courier cX6_courier 3 (some .int) rm_X6_courier 0 0 (ct_X6_courier B) := by
  refine fw_met (own := RX6) (by decide +kernel) rfl kX6_courier_ok kX6_courier_cst fl_X6_ok ?_ ?_ (wk_X6_courier B)
  · intro q hq
    simp only [cal_X6_courier, List.mem_cons, List.not_mem_nil, or_false] at hq
    rcases hq with rfl | rfl | rfl | rfl | rfl
    · exact fw_calV (ci := 6) (me_X6_isCourier l g B) (by decide) wl_X6_117 wi_X6_isCourier wv_X6_isCourier wz_RX6 wc_X6_isCourier rfl rfl (by decide +kernel) ⟨by decide, by decide⟩
    · exact fw_calV (ci := 6) (me_X6_fails l g B) (by decide) wl_X6_108 wi_X6_fails wv_X6_fails wz_RX6 wc_X6_fails rfl rfl (by decide +kernel) ⟨by decide, by decide⟩
    · exact fw_calS (me_X6_in l g B) wl_X6_40 ws_X6_in wz_RX6 wc_X6_in rfl rfl (by decide +kernel) ⟨by decide, by decide⟩
    · exact fw_calV (ci := 6) (me_X6_courierOf l g B) (by decide) wl_X6_136 wi_X6_courierOf wv_X6_courierOf wz_RX6 wc_X6_courierOf rfl rfl (by decide +kernel) ⟨by decide, by decide⟩
    · exact fw_calV (ci := 6) (me_X6_tells l g B) (by decide) wl_X6_36 wi_X6_tells wv_X6_tells wz_RX6 wc_X6_tells rfl rfl (by decide +kernel) ⟨by decide, by decide⟩
  · exact fun q hq => nomatch hq
abbrev rm_X6_parcel : Room := { frames := 3, cells := 0, slots := 0, locals := 67 }
theorem me_X6_parcel (l : Launch) (g : fw_G) (B : Nat) : fw_Met l g B yX6_parcel cX6_parcel 3 (some .int) rm_X6_parcel 0 0 (ct_X6_parcel B) := by
  refine fw_met (own := RX6) (by decide +kernel) rfl kX6_parcel_ok kX6_parcel_cst fl_X6_ok ?_ ?_ (wk_X6_parcel B)
  · intro q hq
    simp only [cal_X6_parcel, List.mem_cons, List.not_mem_nil, or_false] at hq
    rcases hq with rfl | rfl | rfl | rfl | rfl
    · exact fw_calV (ci := 6) (me_X6_isParcel l g B) (by decide) wl_X6_139 wi_X6_isParcel wv_X6_isParcel wz_RX6 wc_X6_isParcel rfl rfl (by decide +kernel) ⟨by decide, by decide⟩
    · exact fw_calV (ci := 6) (me_X6_fails l g B) (by decide) wl_X6_108 wi_X6_fails wv_X6_fails wz_RX6 wc_X6_fails rfl rfl (by decide +kernel) ⟨by decide, by decide⟩
    · exact fw_calS (me_X6_in l g B) wl_X6_40 ws_X6_in wz_RX6 wc_X6_in rfl rfl (by decide +kernel) ⟨by decide, by decide⟩
    · exact fw_calV (ci := 6) (me_X6_parcelOf l g B) (by decide) wl_X6_142 wi_X6_parcelOf wv_X6_parcelOf wz_RX6 wc_X6_parcelOf rfl rfl (by decide +kernel) ⟨by decide, by decide⟩
    · exact fw_calV (ci := 6) (me_X6_tells l g B) (by decide) wl_X6_36 wi_X6_tells wv_X6_tells wz_RX6 wc_X6_tells rfl rfl (by decide +kernel) ⟨by decide, by decide⟩
  · exact fun q hq => nomatch hq
abbrev rm_X6_legs : Room := { frames := 2, cells := 0, slots := 0, locals := 43 }
theorem me_X6_legs (l : Launch) (g : fw_G) (B : Nat) : fw_Met l g B yX6_legs cX6_legs 4 (some .int) rm_X6_legs 0 0 (ct_X6_legs B) := by
  refine fw_met (own := RX6) (by decide +kernel) rfl kX6_legs_ok kX6_legs_cst fl_X6_ok ?_ ?_ (wk_X6_legs B)
  · intro q hq
    simp only [cal_X6_legs, List.mem_cons, List.not_mem_nil, or_false] at hq
    rcases hq with rfl | rfl | rfl | rfl | rfl
    · exact fw_calV (ci := 6) (me_X6_isParcel l g B) (by decide) wl_X6_139 wi_X6_isParcel wv_X6_isParcel wz_RX6 wc_X6_isParcel rfl rfl (by decide +kernel) ⟨by decide, by decide⟩
    · exact fw_calV (ci := 6) (me_X6_isCourier l g B) (by decide) wl_X6_117 wi_X6_isCourier wv_X6_isCourier wz_RX6 wc_X6_isCourier rfl rfl (by decide +kernel) ⟨by decide, by decide⟩
    · exact fw_calV (ci := 6) (me_X6_fails l g B) (by decide) wl_X6_108 wi_X6_fails wv_X6_fails wz_RX6 wc_X6_fails rfl rfl (by decide +kernel) ⟨by decide, by decide⟩
    · exact fw_calV (ci := 6) (me_X6_its l g B) (by decide) wl_X6_52 wi_X6_its wv_X6_its wz_RX6 wc_X6_its rfl rfl (by decide +kernel) ⟨by decide, by decide⟩
    · exact fw_calV (ci := 6) (me_X6_tells l g B) (by decide) wl_X6_36 wi_X6_tells wv_X6_tells wz_RX6 wc_X6_tells rfl rfl (by decide +kernel) ⟨by decide, by decide⟩
  · exact fun q hq => nomatch hq
abbrev rm_X6_distance : Room := { frames := 2, cells := 0, slots := 0, locals := 42 }
theorem me_X6_distance (l : Launch) (g : fw_G) (B : Nat) : fw_Met l g B yX6_distance cX6_distance 3 (some .int) rm_X6_distance 0 0 (ct_X6_distance B) := by
  refine fw_met (own := RX6) (by decide +kernel) rfl kX6_distance_ok kX6_distance_cst fl_X6_ok ?_ ?_ (wk_X6_distance B)
  · intro q hq
    simp only [cal_X6_distance, List.mem_cons, List.not_mem_nil, or_false] at hq
    rcases hq with rfl | rfl | rfl | rfl
    · exact fw_calS (me_X6_isZone l g B) wl_X6_105 ws_X6_isZone wz_RX6 wc_X6_isZone rfl rfl (by decide +kernel) ⟨by decide, by decide⟩
    · exact fw_calV (ci := 6) (me_X6_fails l g B) (by decide) wl_X6_108 wi_X6_fails wv_X6_fails wz_RX6 wc_X6_fails rfl rfl (by decide +kernel) ⟨by decide, by decide⟩
    · exact fw_calS (me_X6_apart l g B) wl_X6_145 ws_X6_apart wz_RX6 wc_X6_apart rfl rfl (by decide +kernel) ⟨by decide, by decide⟩
    · exact fw_calV (ci := 6) (me_X6_tells l g B) (by decide) wl_X6_36 wi_X6_tells wv_X6_tells wz_RX6 wc_X6_tells rfl rfl (by decide +kernel) ⟨by decide, by decide⟩
  · exact fun q hq => nomatch hq
abbrev rm_X6_suited : Room := { frames := 3, cells := 0, slots := 0, locals := 66 }
theorem me_X6_suited (l : Launch) (g : fw_G) (B : Nat) : fw_Met l g B yX6_suited cX6_suited 4 (some .int) rm_X6_suited 0 0 (ct_X6_suited B) := by
  refine fw_met (own := RX6) (by decide +kernel) rfl kX6_suited_ok kX6_suited_cst fl_X6_ok ?_ ?_ (wk_X6_suited B)
  · intro q hq
    simp only [cal_X6_suited, List.mem_cons, List.not_mem_nil, or_false] at hq
    rcases hq with rfl | rfl | rfl | rfl | rfl
    · exact fw_calV (ci := 6) (me_X6_isParcel l g B) (by decide) wl_X6_139 wi_X6_isParcel wv_X6_isParcel wz_RX6 wc_X6_isParcel rfl rfl (by decide +kernel) ⟨by decide, by decide⟩
    · exact fw_calV (ci := 6) (me_X6_fails l g B) (by decide) wl_X6_108 wi_X6_fails wv_X6_fails wz_RX6 wc_X6_fails rfl rfl (by decide +kernel) ⟨by decide, by decide⟩
    · exact fw_calV (ci := 6) (me_X6_its l g B) (by decide) wl_X6_52 wi_X6_its wv_X6_its wz_RX6 wc_X6_its rfl rfl (by decide +kernel) ⟨by decide, by decide⟩
    · exact fw_calV (ci := 6) (me_X6_suits l g B) (by decide) wl_X6_79 wi_X6_suits wv_X6_suits wz_RX6 wc_X6_suits rfl rfl (by decide +kernel) ⟨by decide, by decide⟩
    · exact fw_calV (ci := 6) (me_X6_tells l g B) (by decide) wl_X6_36 wi_X6_tells wv_X6_tells wz_RX6 wc_X6_tells rfl rfl (by decide +kernel) ⟨by decide, by decide⟩
  · exact fun q hq => nomatch hq
abbrev rm_X6_leastRelay : Room := { frames := 4, cells := 0, slots := 0, locals := 96 }
theorem me_X6_leastRelay (l : Launch) (g : fw_G) (B : Nat) : fw_Met l g B yX6_leastRelay cX6_leastRelay 2 (some .int) rm_X6_leastRelay 0 0 (ct_X6_leastRelay B) := by
  refine fw_met (own := RX6) (by decide +kernel) rfl kX6_leastRelay_ok kX6_leastRelay_cst fl_X6_ok ?_ ?_ (wk_X6_leastRelay B)
  · intro q hq
    simp only [cal_X6_leastRelay, List.mem_cons, List.not_mem_nil, or_false] at hq
    rcases hq with rfl | rfl | rfl | rfl
    · exact fw_calV (ci := 6) (me_X6_isParcel l g B) (by decide) wl_X6_139 wi_X6_isParcel wv_X6_isParcel wz_RX6 wc_X6_isParcel rfl rfl (by decide +kernel) ⟨by decide, by decide⟩
    · exact fw_calV (ci := 6) (me_X6_relays l g B) (by decide) wl_X6_152 wi_X6_relays wv_X6_relays wz_RX6 wc_X6_relays rfl rfl (by decide +kernel) ⟨by decide, by decide⟩
    · exact fw_calV (ci := 6) (me_X6_tells l g B) (by decide) wl_X6_36 wi_X6_tells wv_X6_tells wz_RX6 wc_X6_tells rfl rfl (by decide +kernel) ⟨by decide, by decide⟩
    · exact fw_calV (ci := 6) (me_X6_fails l g B) (by decide) wl_X6_108 wi_X6_fails wv_X6_fails wz_RX6 wc_X6_fails rfl rfl (by decide +kernel) ⟨by decide, by decide⟩
  · exact fun q hq => nomatch hq
abbrev rm_X6_punctuality : Room := { frames := 1, cells := 0, slots := 0, locals := 22 }
theorem me_X6_punctuality (l : Launch) (g : fw_G) (B : Nat) : fw_Met l g B yX6_punctuality cX6_punctuality 4 (some .double) rm_X6_punctuality 0 0 (ct_X6_punctuality B) := by
  refine fw_met (own := RX6) (by decide +kernel) rfl kX6_punctuality_ok kX6_punctuality_cst fl_X6_ok ?_ ?_ (wk_X6_punctuality B)
  · intro q hq
    simp only [cal_X6_punctuality, List.mem_cons, List.not_mem_nil, or_false] at hq
    rcases hq with rfl
    · exact fw_calV (ci := 6) (me_X6_its l g B) (by decide) wl_X6_52 wi_X6_its wv_X6_its wz_RX6 wc_X6_its rfl rfl (by decide +kernel) ⟨by decide, by decide⟩
  · exact fun q hq => nomatch hq
abbrev rm_X6_paidIn : Room := { frames := 9, cells := 0, slots := 0, locals := 208 }
theorem me_X6_paidIn (l : Launch) (g : fw_G) (B : Nat) : fw_Met l g B yX6_paidIn cX6_paidIn 2 (some .int) rm_X6_paidIn 0 0 (ct_X6_paidIn B) := by
  refine fw_met (own := RX6) (by decide +kernel) rfl kX6_paidIn_ok kX6_paidIn_cst fl_X6_ok ?_ ?_ (wk_X6_paidIn B)
  · intro q hq
    simp only [cal_X6_paidIn, List.mem_cons, List.not_mem_nil, or_false] at hq
    rcases hq with rfl | rfl | rfl | rfl
    · exact fw_calS (me_X6_isMany l g B) wl_X6_158 ws_X6_isMany wz_RX6 wc_X6_isMany rfl rfl (by decide +kernel) ⟨by decide, by decide⟩
    · exact fw_calV (ci := 6) (me_X6_paidBy l g B) (by decide) wl_X6_161 wi_X6_paidBy wv_X6_paidBy wz_RX6 wc_X6_paidBy rfl rfl (by decide +kernel) ⟨by decide, by decide⟩
    · exact fw_calV (ci := 6) (me_X6_tells l g B) (by decide) wl_X6_36 wi_X6_tells wv_X6_tells wz_RX6 wc_X6_tells rfl rfl (by decide +kernel) ⟨by decide, by decide⟩
    · exact fw_calV (ci := 6) (me_X6_fails l g B) (by decide) wl_X6_108 wi_X6_fails wv_X6_fails wz_RX6 wc_X6_fails rfl rfl (by decide +kernel) ⟨by decide, by decide⟩
  · exact fun q hq => nomatch hq
abbrev rm_X6_bestZone : Room := { frames := 9, cells := 0, slots := 0, locals := 208 }
theorem me_X6_bestZone (l : Launch) (g : fw_G) (B : Nat) : fw_Met l g B yX6_bestZone cX6_bestZone 7 (some .int) rm_X6_bestZone 0 0 (ct_X6_bestZone B) := by
  refine fw_met (own := RX6) (by decide +kernel) rfl kX6_bestZone_ok kX6_bestZone_cst fl_X6_ok ?_ ?_ (wk_X6_bestZone B)
  · intro q hq
    simp only [cal_X6_bestZone, List.mem_cons, List.not_mem_nil, or_false] at hq
    rcases hq with rfl | rfl | rfl | rfl | rfl | rfl | rfl | rfl | rfl
    · exact fw_calV (ci := 6) (me_X6_isCourier l g B) (by decide) wl_X6_117 wi_X6_isCourier wv_X6_isCourier wz_RX6 wc_X6_isCourier rfl rfl (by decide +kernel) ⟨by decide, by decide⟩
    · exact fw_calV (ci := 6) (me_X6_fails l g B) (by decide) wl_X6_108 wi_X6_fails wv_X6_fails wz_RX6 wc_X6_fails rfl rfl (by decide +kernel) ⟨by decide, by decide⟩
    · exact fw_calS (me_X6_isMany l g B) wl_X6_158 ws_X6_isMany wz_RX6 wc_X6_isMany rfl rfl (by decide +kernel) ⟨by decide, by decide⟩
    · exact fw_calV (ci := 6) (me_X6_paidBy l g B) (by decide) wl_X6_161 wi_X6_paidBy wv_X6_paidBy wz_RX6 wc_X6_paidBy rfl rfl (by decide +kernel) ⟨by decide, by decide⟩
    · exact fw_calV (ci := 6) (me_X6_isIn l g B) (by decide) wl_X6_55 wi_X6_isIn wv_X6_isIn wz_RX6 wc_X6_isIn rfl rfl (by decide +kernel) ⟨by decide, by decide⟩
    · exact fw_calV (ci := 6) (me_X6_of l g B) (by decide) wl_X6_44 wi_X6_of wv_X6_of wz_RX6 wc_X6_of rfl rfl (by decide +kernel) ⟨by decide, by decide⟩
    · exact fw_calV (ci := 6) (me_X6_sets l g B) (by decide) wl_X6_48 wi_X6_sets wv_X6_sets wz_RX6 wc_X6_sets rfl rfl (by decide +kernel) ⟨by decide, by decide⟩
    · exact fw_calV (ci := 6) (me_X6_more l g B) (by decide) wl_X6_155 wi_X6_more wv_X6_more wz_RX6 wc_X6_more rfl rfl (by decide +kernel) ⟨by decide, by decide⟩
    · exact fw_calV (ci := 6) (me_X6_tells l g B) (by decide) wl_X6_36 wi_X6_tells wv_X6_tells wz_RX6 wc_X6_tells rfl rfl (by decide +kernel) ⟨by decide, by decide⟩
  · exact fun q hq => nomatch hq
abbrev rm_X6_worth : Room := { frames := 9, cells := 0, slots := 0, locals := 208 }
theorem me_X6_worth (l : Launch) (g : fw_G) (B : Nat) : fw_Met l g B yX6_worth cX6_worth 4 (some .int) rm_X6_worth 0 0 (ct_X6_worth B) := by
  refine fw_met (own := RX6) (by decide +kernel) rfl kX6_worth_ok kX6_worth_cst fl_X6_ok ?_ ?_ (wk_X6_worth B)
  · intro q hq
    simp only [cal_X6_worth, List.mem_cons, List.not_mem_nil, or_false] at hq
    rcases hq with rfl | rfl | rfl | rfl | rfl | rfl | rfl | rfl
    · exact fw_calV (ci := 6) (me_X6_isCourier l g B) (by decide) wl_X6_117 wi_X6_isCourier wv_X6_isCourier wz_RX6 wc_X6_isCourier rfl rfl (by decide +kernel) ⟨by decide, by decide⟩
    · exact fw_calV (ci := 6) (me_X6_fails l g B) (by decide) wl_X6_108 wi_X6_fails wv_X6_fails wz_RX6 wc_X6_fails rfl rfl (by decide +kernel) ⟨by decide, by decide⟩
    · exact fw_calS (me_X6_isMany l g B) wl_X6_158 ws_X6_isMany wz_RX6 wc_X6_isMany rfl rfl (by decide +kernel) ⟨by decide, by decide⟩
    · exact fw_calV (ci := 6) (me_X6_paidBy l g B) (by decide) wl_X6_161 wi_X6_paidBy wv_X6_paidBy wz_RX6 wc_X6_paidBy rfl rfl (by decide +kernel) ⟨by decide, by decide⟩
    · exact fw_calV (ci := 6) (me_X6_drops l g B) (by decide) wl_X6_124 wi_X6_drops wv_X6_drops wz_RX6 wc_X6_drops rfl rfl (by decide +kernel) ⟨by decide, by decide⟩
    · exact fw_calV (ci := 6) (me_X6_sets l g B) (by decide) wl_X6_48 wi_X6_sets wv_X6_sets wz_RX6 wc_X6_sets rfl rfl (by decide +kernel) ⟨by decide, by decide⟩
    · exact fw_calV (ci := 6) (me_X6_more l g B) (by decide) wl_X6_155 wi_X6_more wv_X6_more wz_RX6 wc_X6_more rfl rfl (by decide +kernel) ⟨by decide, by decide⟩
    · exact fw_calV (ci := 6) (me_X6_tells l g B) (by decide) wl_X6_36 wi_X6_tells wv_X6_tells wz_RX6 wc_X6_tells rfl rfl (by decide +kernel) ⟨by decide, by decide⟩
  · exact fun q hq => nomatch hq
abbrev rm_X6_doneIn : Room := { frames := 6, cells := 0, slots := 0, locals := 142 }
theorem me_X6_doneIn (l : Launch) (g : fw_G) (B : Nat) : fw_Met l g B yX6_doneIn cX6_doneIn 3 (some .int) rm_X6_doneIn 0 0 (ct_X6_doneIn B) := by
  refine fw_met (own := RX6) (by decide +kernel) rfl kX6_doneIn_ok kX6_doneIn_cst fl_X6_ok ?_ ?_ (wk_X6_doneIn B)
  · intro q hq
    simp only [cal_X6_doneIn, List.mem_cons, List.not_mem_nil, or_false] at hq
    rcases hq with rfl | rfl | rfl | rfl
    · exact fw_calS (me_X6_copies l g B) wl_X6_29 ws_X6_copies wz_RX6 wc_X6_copies rfl rfl (by decide +kernel) ⟨by decide, by decide⟩
    · exact fw_calV (ci := 6) (me_X6_isDone l g B) (by decide) wl_X6_164 wi_X6_isDone wv_X6_isDone wz_RX6 wc_X6_isDone rfl rfl (by decide +kernel) ⟨by decide, by decide⟩
    · exact fw_calV (ci := 6) (me_X6_tick l g B) (by decide) wl_X6_97 wi_X6_tick wv_X6_tick wz_RX6 wc_X6_tick rfl rfl (by decide +kernel) ⟨by decide, by decide⟩
    · exact fw_calV (ci := 6) (me_X6_tells l g B) (by decide) wl_X6_36 wi_X6_tells wv_X6_tells wz_RX6 wc_X6_tells rfl rfl (by decide +kernel) ⟨by decide, by decide⟩
  · exact fun q hq => nomatch hq
abbrev rm_X6_append : Room := { frames := 1, cells := 0, slots := 0, locals := 22 }
theorem me_X6_append (l : Launch) (g : fw_G) (B : Nat) : fw_Met l g B yX6_append cX6_append 2 (some .int) rm_X6_append 0 0 (ct_X6_append B) := by
  refine fw_met (own := RX6) (by decide +kernel) rfl kX6_append_ok kX6_append_cst fl_X6_ok ?_ ?_ (wk_X6_append B)
  · intro q hq
    simp only [cal_X6_append, List.mem_cons, List.not_mem_nil, or_false] at hq
    rcases hq with rfl | rfl | rfl
    · exact fw_calS (me_X6_in l g B) wl_X6_40 ws_X6_in wz_RX6 wc_X6_in rfl rfl (by decide +kernel) ⟨by decide, by decide⟩
    · exact fw_calV (ci := 6) (me_X6_fails l g B) (by decide) wl_X6_108 wi_X6_fails wv_X6_fails wz_RX6 wc_X6_fails rfl rfl (by decide +kernel) ⟨by decide, by decide⟩
    · exact fw_calV (ci := 6) (me_X6_tells l g B) (by decide) wl_X6_36 wi_X6_tells wv_X6_tells wz_RX6 wc_X6_tells rfl rfl (by decide +kernel) ⟨by decide, by decide⟩
  · exact fun q hq => nomatch hq
abbrev rm_X6_clearText : Room := { frames := 1, cells := 0, slots := 0, locals := 21 }
theorem me_X6_clearText (l : Launch) (g : fw_G) (B : Nat) : fw_Met l g B yX6_clearText cX6_clearText 2 (some .int) rm_X6_clearText 0 0 (ct_X6_clearText B) := by
  refine fw_met (own := RX6) (by decide +kernel) rfl kX6_clearText_ok kX6_clearText_cst fl_X6_ok ?_ ?_ (wk_X6_clearText B)
  · intro q hq
    simp only [cal_X6_clearText, List.mem_cons, List.not_mem_nil, or_false] at hq
    rcases hq with rfl
    · exact fw_calV (ci := 6) (me_X6_tells l g B) (by decide) wl_X6_36 wi_X6_tells wv_X6_tells wz_RX6 wc_X6_tells rfl rfl (by decide +kernel) ⟨by decide, by decide⟩
  · exact fun q hq => nomatch hq
abbrev rm_X6_undo : Room := { frames := 1, cells := 0, slots := 0, locals := 21 }
theorem me_X6_undo (l : Launch) (g : fw_G) (B : Nat) : fw_Met l g B yX6_undo cX6_undo 2 (some .int) rm_X6_undo 0 0 (ct_X6_undo B) := by
  refine fw_met (own := RX6) (by decide +kernel) rfl kX6_undo_ok kX6_undo_cst fl_X6_ok ?_ ?_ (wk_X6_undo B)
  · intro q hq
    simp only [cal_X6_undo, List.mem_cons, List.not_mem_nil, or_false] at hq
    rcases hq with rfl | rfl
    · exact fw_calV (ci := 6) (me_X6_fails l g B) (by decide) wl_X6_108 wi_X6_fails wv_X6_fails wz_RX6 wc_X6_fails rfl rfl (by decide +kernel) ⟨by decide, by decide⟩
    · exact fw_calV (ci := 6) (me_X6_tells l g B) (by decide) wl_X6_36 wi_X6_tells wv_X6_tells wz_RX6 wc_X6_tells rfl rfl (by decide +kernel) ⟨by decide, by decide⟩
  · exact fun q hq => nomatch hq
abbrev rm_X6_isAt : Room := { frames := 1, cells := 0, slots := 0, locals := 22 }
theorem me_X6_isAt (l : Launch) (g : fw_G) (B : Nat) : fw_Met l g B yX6_isAt cX6_isAt 3 (some .boolean) rm_X6_isAt 0 0 (ct_X6_isAt B) := by
  refine fw_met (own := RX6) (by decide +kernel) rfl kX6_isAt_ok kX6_isAt_cst fl_X6_ok ?_ ?_ (wk_X6_isAt B)
  · intro q hq
    simp only [cal_X6_isAt, List.mem_cons, List.not_mem_nil, or_false] at hq
    rcases hq with rfl
    · exact fw_calS (me_X6_in l g B) wl_X6_40 ws_X6_in wz_RX6 wc_X6_in rfl rfl (by decide +kernel) ⟨by decide, by decide⟩
  · exact fun q hq => nomatch hq
abbrev rm_X6_isNumber : Room := { frames := 2, cells := 0, slots := 0, locals := 44 }
theorem me_X6_isNumber (l : Launch) (g : fw_G) (B : Nat) : fw_Met l g B yX6_isNumber cX6_isNumber 8 (some .boolean) rm_X6_isNumber 0 0 (ct_X6_isNumber B) := by
  refine fw_met (own := RX6) (by decide +kernel) rfl kX6_isNumber_ok kX6_isNumber_cst fl_X6_ok ?_ ?_ (wk_X6_isNumber B)
  · intro q hq
    simp only [cal_X6_isNumber, List.mem_cons, List.not_mem_nil, or_false] at hq
    rcases hq with rfl | rfl
    · exact fw_calV (ci := 6) (me_X6_isAt l g B) (by decide) wl_X6_177 wi_X6_isAt wv_X6_isAt wz_RX6 wc_X6_isAt rfl rfl (by decide +kernel) ⟨by decide, by decide⟩
    · exact fw_calS (me_X6_in l g B) wl_X6_40 ws_X6_in wz_RX6 wc_X6_in rfl rfl (by decide +kernel) ⟨by decide, by decide⟩
  · exact fun q hq => nomatch hq
abbrev rm_X6_isItem : Room := { frames := 3, cells := 0, slots := 0, locals := 71 }
theorem me_X6_isItem (l : Launch) (g : fw_G) (B : Nat) : fw_Met l g B yX6_isItem cX6_isItem 4 (some .boolean) rm_X6_isItem 0 0 (ct_X6_isItem B) := by
  refine fw_met (own := RX6) (by decide +kernel) rfl kX6_isItem_ok kX6_isItem_cst fl_X6_ok ?_ ?_ (wk_X6_isItem B)
  · intro q hq
    simp only [cal_X6_isItem, List.mem_cons, List.not_mem_nil, or_false] at hq
    rcases hq with rfl | rfl
    · exact fw_calV (ci := 6) (me_X6_isNumber l g B) (by decide) wl_X6_180 wi_X6_isNumber wv_X6_isNumber wz_RX6 wc_X6_isNumber rfl rfl (by decide +kernel) ⟨by decide, by decide⟩
    · exact fw_calV (ci := 6) (me_X6_comes l g B) (by decide) wl_X6_120 wi_X6_comes wv_X6_comes wz_RX6 wc_X6_comes rfl rfl (by decide +kernel) ⟨by decide, by decide⟩
  · exact fun q hq => nomatch hq
abbrev rm_X6_parse : Room := { frames := 4, cells := 0, slots := 0, locals := 94 }
theorem me_X6_parse (l : Launch) (g : fw_G) (B : Nat) : fw_Met l g B yX6_parse cX6_parse 1 (some .int) rm_X6_parse 0 0 (ct_X6_parse B) := by
  refine fw_met (own := RX6) (by decide +kernel) rfl kX6_parse_ok kX6_parse_cst fl_X6_ok ?_ ?_ (wk_X6_parse B)
  · intro q hq
    simp only [cal_X6_parse, List.mem_cons, List.not_mem_nil, or_false] at hq
    rcases hq with rfl | rfl | rfl | rfl
    · exact fw_calV (ci := 6) (me_X6_hold l g B) (by decide) wl_X6_111 wi_X6_hold wv_X6_hold wz_RX6 wc_X6_hold rfl rfl (by decide +kernel) ⟨by decide, by decide⟩
    · exact fw_calV (ci := 6) (me_X6_isItem l g B) (by decide) wl_X6_184 wi_X6_isItem wv_X6_isItem wz_RX6 wc_X6_isItem rfl rfl (by decide +kernel) ⟨by decide, by decide⟩
    · exact fw_calS (me_X6_copies l g B) wl_X6_29 ws_X6_copies wz_RX6 wc_X6_copies rfl rfl (by decide +kernel) ⟨by decide, by decide⟩
    · exact fw_calV (ci := 6) (me_X6_ends l g B) (by decide) wl_X6_114 wi_X6_ends wv_X6_ends wz_RX6 wc_X6_ends rfl rfl (by decide +kernel) ⟨by decide, by decide⟩
  · exact fun q hq => nomatch hq
abbrev rm_X6_mix : Room := { frames := 0, cells := 0, slots := 0, locals := 0 }
theorem me_X6_mix (l : Launch) (g : fw_G) (B : Nat) : fw_Met l g B yX6_mix cX6_mix 2 (none) rm_X6_mix 0 0 (ct_X6_mix B) := by
  refine fw_met (own := RX6) (by decide +kernel) rfl kX6_mix_ok kX6_mix_cst fl_X6_ok ?_ ?_ (wk_X6_mix B)
  · intro q hq
    simp only [cal_X6_mix, List.mem_cons, List.not_mem_nil, or_false] at hq
  · exact fun q hq => nomatch hq
abbrev rm_X6_digest : Room := { frames := 3, cells := 0, slots := 0, locals := 67 }
theorem me_X6_digest (l : Launch) (g : fw_G) (B : Nat) : fw_Met l g B yX6_digest cX6_digest 3 (some .long) rm_X6_digest 0 0 (ct_X6_digest B) := by
  refine fw_met (own := RX6) (by decide +kernel) rfl kX6_digest_ok kX6_digest_cst fl_X6_ok ?_ ?_ (wk_X6_digest B)
  · intro q hq
    simp only [cal_X6_digest, List.mem_cons, List.not_mem_nil, or_false] at hq
    rcases hq with rfl | rfl | rfl | rfl | rfl
    · exact fw_calV (ci := 6) (me_X6_mix l g B) (by decide) wl_X6_195 wi_X6_mix wv_X6_mix wz_RX6 wc_X6_mix rfl rfl (by decide +kernel) ⟨by decide, by decide⟩
    · exact fw_calV (ci := 6) (me_X6_valueOf l g B) (by decide) wl_X6_133 wi_X6_valueOf wv_X6_valueOf wz_RX6 wc_X6_valueOf rfl rfl (by decide +kernel) ⟨by decide, by decide⟩
    · exact fw_calV (ci := 6) (me_X6_courierOf l g B) (by decide) wl_X6_136 wi_X6_courierOf wv_X6_courierOf wz_RX6 wc_X6_courierOf rfl rfl (by decide +kernel) ⟨by decide, by decide⟩
    · exact fw_calV (ci := 6) (me_X6_parcelOf l g B) (by decide) wl_X6_142 wi_X6_parcelOf wv_X6_parcelOf wz_RX6 wc_X6_parcelOf rfl rfl (by decide +kernel) ⟨by decide, by decide⟩
    · exact fw_calV (ci := 6) (me_X6_its l g B) (by decide) wl_X6_52 wi_X6_its wv_X6_its wz_RX6 wc_X6_its rfl rfl (by decide +kernel) ⟨by decide, by decide⟩
  · exact fun q hq => nomatch hq
end

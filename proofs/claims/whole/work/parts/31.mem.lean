/-! contracts out of walks (printed by program) -/
section
abbrev rm_X6_thrown : Room := { frames := 0, cells := 0, slots := 0, locals := 0 }
theorem me_X6_thrown (l : Launch) (g : fw_G) (B : Nat) : fw_Met l g B yX6_thrown cX6_thrown 1 (some .int) rm_X6_thrown 0 0 (ct_X6_thrown B) := by
  refine fw_met (own := RX6) (by decide +kernel) rfl kX6_thrown_ok kX6_thrown_cst fl_X6_ok ?_ ?_ (wk_X6_thrown B)
  · intro q hq
    simp only [cal_X6_thrown, List.mem_cons, List.not_mem_nil, or_false] at hq
  · exact fun q hq => nomatch hq
abbrev rm_X6_in : Room := { frames := 0, cells := 0, slots := 0, locals := 0 }
theorem me_X6_in (l : Launch) (g : fw_G) (B : Nat) : fw_Met l g B yX6_in cX6_in 3 (some .boolean) rm_X6_in 0 0 (ct_X6_in B) := by
  refine fw_met (own := RX6) (by decide +kernel) rfl kX6_in_ok kX6_in_cst fl_X6_ok ?_ ?_ (wk_X6_in B)
  · intro q hq
    simp only [cal_X6_in, List.mem_cons, List.not_mem_nil, or_false] at hq
  · exact fun q hq => nomatch hq
abbrev rm_X6_fails : Room := { frames := 0, cells := 0, slots := 0, locals := 0 }
theorem me_X6_fails (l : Launch) (g : fw_G) (B : Nat) : fw_Met l g B yX6_fails cX6_fails 2 (some .int) rm_X6_fails 0 0 (ct_X6_fails B) := by
  refine fw_met (own := RX6) (by decide +kernel) rfl kX6_fails_ok kX6_fails_cst fl_X6_ok ?_ ?_ (wk_X6_fails B)
  · intro q hq
    simp only [cal_X6_fails, List.mem_cons, List.not_mem_nil, or_false] at hq
  · exact fun q hq => nomatch hq
abbrev rm_X6_tells : Room := { frames := 0, cells := 0, slots := 0, locals := 0 }
theorem me_X6_tells (l : Launch) (g : fw_G) (B : Nat) : fw_Met l g B yX6_tells cX6_tells 2 (some .int) rm_X6_tells 0 0 (ct_X6_tells B) := by
  refine fw_met (own := RX6) (by decide +kernel) rfl kX6_tells_ok kX6_tells_cst fl_X6_ok ?_ ?_ (wk_X6_tells B)
  · intro q hq
    simp only [cal_X6_tells, List.mem_cons, List.not_mem_nil, or_false] at hq
  · exact fun q hq => nomatch hq
abbrev rm_X6_copies : Room := { frames := 0, cells := 0, slots := 0, locals := 0 }
theorem me_X6_copies (l : Launch) (g : fw_G) (B : Nat) : fw_Met l g B yX6_copies cX6_copies 3 (none) rm_X6_copies 0 0 (ct_X6_copies B) := by
  refine fw_met (own := RX6) (by decide +kernel) rfl kX6_copies_ok kX6_copies_cst fl_X6_ok ?_ ?_ (wk_X6_copies B)
  · intro q hq
    simp only [cal_X6_copies, List.mem_cons, List.not_mem_nil, or_false] at hq
  · exact fun q hq => nomatch hq
abbrev rm_X6_hold : Room := { frames := 1, cells := 0, slots := 0, locals := 22 }
theorem me_X6_hold (l : Launch) (g : fw_G) (B : Nat) : fw_Met l g B yX6_hold cX6_hold 1 (none) rm_X6_hold 0 0 (ct_X6_hold B) := by
  refine fw_met (own := RX6) (by decide +kernel) rfl kX6_hold_ok kX6_hold_cst fl_X6_ok ?_ ?_ (wk_X6_hold B)
  · intro q hq
    simp only [cal_X6_hold, List.mem_cons, List.not_mem_nil, or_false] at hq
    rcases hq with rfl
    · exact fw_calS (me_X6_copies l g B) wl_X6_29 ws_X6_copies wz_RX6 wc_X6_copies rfl rfl (by decide +kernel) ⟨by decide, by decide⟩
  · exact fun q hq => nomatch hq
abbrev rm_X6_isCourier : Room := { frames := 1, cells := 0, slots := 0, locals := 22 }
theorem me_X6_isCourier (l : Launch) (g : fw_G) (B : Nat) : fw_Met l g B yX6_isCourier cX6_isCourier 2 (some .boolean) rm_X6_isCourier 0 0 (ct_X6_isCourier B) := by
  refine fw_met (own := RX6) (by decide +kernel) rfl kX6_isCourier_ok kX6_isCourier_cst fl_X6_ok ?_ ?_ (wk_X6_isCourier B)
  · intro q hq
    simp only [cal_X6_isCourier, List.mem_cons, List.not_mem_nil, or_false] at hq
    rcases hq with rfl
    · exact fw_calS (me_X6_in l g B) wl_X6_40 ws_X6_in wz_RX6 wc_X6_in rfl rfl (by decide +kernel) ⟨by decide, by decide⟩
  · exact fun q hq => nomatch hq
abbrev rm_X6_isParcel : Room := { frames := 1, cells := 0, slots := 0, locals := 22 }
theorem me_X6_isParcel (l : Launch) (g : fw_G) (B : Nat) : fw_Met l g B yX6_isParcel cX6_isParcel 2 (some .boolean) rm_X6_isParcel 0 0 (ct_X6_isParcel B) := by
  refine fw_met (own := RX6) (by decide +kernel) rfl kX6_isParcel_ok kX6_isParcel_cst fl_X6_ok ?_ ?_ (wk_X6_isParcel B)
  · intro q hq
    simp only [cal_X6_isParcel, List.mem_cons, List.not_mem_nil, or_false] at hq
    rcases hq with rfl
    · exact fw_calS (me_X6_in l g B) wl_X6_40 ws_X6_in wz_RX6 wc_X6_in rfl rfl (by decide +kernel) ⟨by decide, by decide⟩
  · exact fun q hq => nomatch hq
abbrev rm_X6_isZone : Room := { frames := 1, cells := 0, slots := 0, locals := 22 }
theorem me_X6_isZone (l : Launch) (g : fw_G) (B : Nat) : fw_Met l g B yX6_isZone cX6_isZone 1 (some .boolean) rm_X6_isZone 0 0 (ct_X6_isZone B) := by
  refine fw_met (own := RX6) (by decide +kernel) rfl kX6_isZone_ok kX6_isZone_cst fl_X6_ok ?_ ?_ (wk_X6_isZone B)
  · intro q hq
    simp only [cal_X6_isZone, List.mem_cons, List.not_mem_nil, or_false] at hq
    rcases hq with rfl
    · exact fw_calS (me_X6_in l g B) wl_X6_40 ws_X6_in wz_RX6 wc_X6_in rfl rfl (by decide +kernel) ⟨by decide, by decide⟩
  · exact fun q hq => nomatch hq
abbrev rm_X6_isArea : Room := { frames := 1, cells := 0, slots := 0, locals := 22 }
theorem me_X6_isArea (l : Launch) (g : fw_G) (B : Nat) : fw_Met l g B yX6_isArea cX6_isArea 1 (some .boolean) rm_X6_isArea 0 0 (ct_X6_isArea B) := by
  refine fw_met (own := RX6) (by decide +kernel) rfl kX6_isArea_ok kX6_isArea_cst fl_X6_ok ?_ ?_ (wk_X6_isArea B)
  · intro q hq
    simp only [cal_X6_isArea, List.mem_cons, List.not_mem_nil, or_false] at hq
    rcases hq with rfl
    · exact fw_calS (me_X6_in l g B) wl_X6_40 ws_X6_in wz_RX6 wc_X6_in rfl rfl (by decide +kernel) ⟨by decide, by decide⟩
  · exact fun q hq => nomatch hq
abbrev rm_X6_isMany : Room := { frames := 1, cells := 0, slots := 0, locals := 22 }
theorem me_X6_isMany (l : Launch) (g : fw_G) (B : Nat) : fw_Met l g B yX6_isMany cX6_isMany 1 (some .boolean) rm_X6_isMany 0 0 (ct_X6_isMany B) := by
  refine fw_met (own := RX6) (by decide +kernel) rfl kX6_isMany_ok kX6_isMany_cst fl_X6_ok ?_ ?_ (wk_X6_isMany B)
  · intro q hq
    simp only [cal_X6_isMany, List.mem_cons, List.not_mem_nil, or_false] at hq
    rcases hq with rfl
    · exact fw_calS (me_X6_in l g B) wl_X6_40 ws_X6_in wz_RX6 wc_X6_in rfl rfl (by decide +kernel) ⟨by decide, by decide⟩
  · exact fun q hq => nomatch hq
abbrev rm_X6_of : Room := { frames := 0, cells := 0, slots := 0, locals := 0 }
theorem me_X6_of (l : Launch) (g : fw_G) (B : Nat) : fw_Met l g B yX6_of cX6_of 3 (some .int) rm_X6_of 0 0 (ct_X6_of B) := by
  refine fw_met (own := RX6) (by decide +kernel) rfl kX6_of_ok kX6_of_cst fl_X6_ok ?_ ?_ (wk_X6_of B)
  · intro q hq
    simp only [cal_X6_of, List.mem_cons, List.not_mem_nil, or_false] at hq
  · exact fun q hq => nomatch hq
abbrev rm_X6_sets : Room := { frames := 0, cells := 0, slots := 0, locals := 0 }
theorem me_X6_sets (l : Launch) (g : fw_G) (B : Nat) : fw_Met l g B yX6_sets cX6_sets 4 (none) rm_X6_sets 0 0 (ct_X6_sets B) := by
  refine fw_met (own := RX6) (by decide +kernel) rfl kX6_sets_ok kX6_sets_cst fl_X6_ok ?_ ?_ (wk_X6_sets B)
  · intro q hq
    simp only [cal_X6_sets, List.mem_cons, List.not_mem_nil, or_false] at hq
  · exact fun q hq => nomatch hq
abbrev rm_X6_its : Room := { frames := 0, cells := 0, slots := 0, locals := 0 }
theorem me_X6_its (l : Launch) (g : fw_G) (B : Nat) : fw_Met l g B yX6_its cX6_its 3 (some .int) rm_X6_its 0 0 (ct_X6_its B) := by
  refine fw_met (own := RX6) (by decide +kernel) rfl kX6_its_ok kX6_its_cst fl_X6_ok ?_ ?_ (wk_X6_its B)
  · intro q hq
    simp only [cal_X6_its, List.mem_cons, List.not_mem_nil, or_false] at hq
  · exact fun q hq => nomatch hq
abbrev rm_X6_puts : Room := { frames := 0, cells := 0, slots := 0, locals := 0 }
theorem me_X6_puts (l : Launch) (g : fw_G) (B : Nat) : fw_Met l g B yX6_puts cX6_puts 4 (none) rm_X6_puts 0 0 (ct_X6_puts B) := by
  refine fw_met (own := RX6) (by decide +kernel) rfl kX6_puts_ok kX6_puts_cst fl_X6_ok ?_ ?_ (wk_X6_puts B)
  · intro q hq
    simp only [cal_X6_puts, List.mem_cons, List.not_mem_nil, or_false] at hq
  · exact fun q hq => nomatch hq
abbrev rm_X6_isIn : Room := { frames := 1, cells := 0, slots := 0, locals := 22 }
theorem me_X6_isIn (l : Launch) (g : fw_G) (B : Nat) : fw_Met l g B yX6_isIn cX6_isIn 3 (some .boolean) rm_X6_isIn 0 0 (ct_X6_isIn B) := by
  refine fw_met (own := RX6) (by decide +kernel) rfl kX6_isIn_ok kX6_isIn_cst fl_X6_ok ?_ ?_ (wk_X6_isIn B)
  · intro q hq
    simp only [cal_X6_isIn, List.mem_cons, List.not_mem_nil, or_false] at hq
    rcases hq with rfl
    · exact fw_calV (ci := 6) (me_X6_of l g B) (by decide) wl_X6_44 wi_X6_of wv_X6_of wz_RX6 wc_X6_of rfl rfl (by decide +kernel) ⟨by decide, by decide⟩
  · exact fun q hq => nomatch hq
abbrev rm_X6_next : Room := { frames := 0, cells := 0, slots := 0, locals := 0 }
theorem me_X6_next (l : Launch) (g : fw_G) (B : Nat) : fw_Met l g B yX6_next cX6_next 2 (some .int) rm_X6_next 0 0 (ct_X6_next B) := by
  refine fw_met (own := RX6) (by decide +kernel) rfl kX6_next_ok kX6_next_cst fl_X6_ok ?_ ?_ (wk_X6_next B)
  · intro q hq
    simp only [cal_X6_next, List.mem_cons, List.not_mem_nil, or_false] at hq
  · exact fun q hq => nomatch hq
abbrev rm_X6_frees : Room := { frames := 1, cells := 0, slots := 0, locals := 23 }
theorem me_X6_frees (l : Launch) (g : fw_G) (B : Nat) : fw_Met l g B yX6_frees cX6_frees 2 (none) rm_X6_frees 0 0 (ct_X6_frees B) := by
  refine fw_met (own := RX6) (by decide +kernel) rfl kX6_frees_ok kX6_frees_cst fl_X6_ok ?_ ?_ (wk_X6_frees B)
  · intro q hq
    simp only [cal_X6_frees, List.mem_cons, List.not_mem_nil, or_false] at hq
    rcases hq with rfl
    · exact fw_calV (ci := 6) (me_X6_sets l g B) (by decide) wl_X6_48 wi_X6_sets wv_X6_sets wz_RX6 wc_X6_sets rfl rfl (by decide +kernel) ⟨by decide, by decide⟩
  · exact fun q hq => nomatch hq
abbrev rm_X6_suits : Room := { frames := 2, cells := 0, slots := 0, locals := 44 }
theorem me_X6_suits (l : Launch) (g : fw_G) (B : Nat) : fw_Met l g B yX6_suits cX6_suits 3 (some .boolean) rm_X6_suits 0 0 (ct_X6_suits B) := by
  refine fw_met (own := RX6) (by decide +kernel) rfl kX6_suits_ok kX6_suits_cst fl_X6_ok ?_ ?_ (wk_X6_suits B)
  · intro q hq
    simp only [cal_X6_suits, List.mem_cons, List.not_mem_nil, or_false] at hq
    rcases hq with rfl | rfl | rfl
    · exact fw_calV (ci := 6) (me_X6_its l g B) (by decide) wl_X6_52 wi_X6_its wv_X6_its wz_RX6 wc_X6_its rfl rfl (by decide +kernel) ⟨by decide, by decide⟩
    · exact fw_calV (ci := 6) (me_X6_isIn l g B) (by decide) wl_X6_55 wi_X6_isIn wv_X6_isIn wz_RX6 wc_X6_isIn rfl rfl (by decide +kernel) ⟨by decide, by decide⟩
    · exact fw_calS (me_X6_next l g B) wl_X6_59 ws_X6_next wz_RX6 wc_X6_next rfl rfl (by decide +kernel) ⟨by decide, by decide⟩
  · exact fun q hq => nomatch hq
abbrev rm_X6_legsOf : Room := { frames := 1, cells := 0, slots := 0, locals := 22 }
theorem me_X6_legsOf (l : Launch) (g : fw_G) (B : Nat) : fw_Met l g B yX6_legsOf cX6_legsOf 4 (some .int) rm_X6_legsOf 0 0 (ct_X6_legsOf B) := by
  refine fw_met (own := RX6) (by decide +kernel) rfl kX6_legsOf_ok kX6_legsOf_cst fl_X6_ok ?_ ?_ (wk_X6_legsOf B)
  · intro q hq
    simp only [cal_X6_legsOf, List.mem_cons, List.not_mem_nil, or_false] at hq
    rcases hq with rfl
    · exact fw_calV (ci := 6) (me_X6_its l g B) (by decide) wl_X6_52 wi_X6_its wv_X6_its wz_RX6 wc_X6_its rfl rfl (by decide +kernel) ⟨by decide, by decide⟩
  · exact fun q hq => nomatch hq
abbrev rm_X6_shares : Room := { frames := 2, cells := 0, slots := 0, locals := 45 }
theorem me_X6_shares (l : Launch) (g : fw_G) (B : Nat) : fw_Met l g B yX6_shares cX6_shares 10 (none) rm_X6_shares 0 0 (ct_X6_shares B) := by
  refine fw_met (own := RX6) (by decide +kernel) rfl kX6_shares_ok kX6_shares_cst fl_X6_ok ?_ ?_ (wk_X6_shares B)
  · intro q hq
    simp only [cal_X6_shares, List.mem_cons, List.not_mem_nil, or_false] at hq
    rcases hq with rfl | rfl | rfl | rfl | rfl
    · exact fw_calV (ci := 6) (me_X6_legsOf l g B) (by decide) wl_X6_62 wi_X6_legsOf wv_X6_legsOf wz_RX6 wc_X6_legsOf rfl rfl (by decide +kernel) ⟨by decide, by decide⟩
    · exact fw_calV (ci := 6) (me_X6_its l g B) (by decide) wl_X6_52 wi_X6_its wv_X6_its wz_RX6 wc_X6_its rfl rfl (by decide +kernel) ⟨by decide, by decide⟩
    · exact fw_calV (ci := 6) (me_X6_puts l g B) (by decide) wl_X6_65 wi_X6_puts wv_X6_puts wz_RX6 wc_X6_puts rfl rfl (by decide +kernel) ⟨by decide, by decide⟩
    · exact fw_calV (ci := 6) (me_X6_of l g B) (by decide) wl_X6_44 wi_X6_of wv_X6_of wz_RX6 wc_X6_of rfl rfl (by decide +kernel) ⟨by decide, by decide⟩
    · exact fw_calV (ci := 6) (me_X6_sets l g B) (by decide) wl_X6_48 wi_X6_sets wv_X6_sets wz_RX6 wc_X6_sets rfl rfl (by decide +kernel) ⟨by decide, by decide⟩
  · exact fun q hq => nomatch hq
abbrev rm_X6_delivers : Room := { frames := 3, cells := 0, slots := 0, locals := 74 }
theorem me_X6_delivers (l : Launch) (g : fw_G) (B : Nat) : fw_Met l g B yX6_delivers cX6_delivers 4 (none) rm_X6_delivers 0 0 (ct_X6_delivers B) := by
  refine fw_met (own := RX6) (by decide +kernel) rfl kX6_delivers_ok kX6_delivers_cst fl_X6_ok ?_ ?_ (wk_X6_delivers B)
  · intro q hq
    simp only [cal_X6_delivers, List.mem_cons, List.not_mem_nil, or_false] at hq
    rcases hq with rfl | rfl | rfl | rfl
    · exact fw_calV (ci := 6) (me_X6_its l g B) (by decide) wl_X6_52 wi_X6_its wv_X6_its wz_RX6 wc_X6_its rfl rfl (by decide +kernel) ⟨by decide, by decide⟩
    · exact fw_calV (ci := 6) (me_X6_puts l g B) (by decide) wl_X6_65 wi_X6_puts wv_X6_puts wz_RX6 wc_X6_puts rfl rfl (by decide +kernel) ⟨by decide, by decide⟩
    · exact fw_calV (ci := 6) (me_X6_shares l g B) (by decide) wl_X6_68 wi_X6_shares wv_X6_shares wz_RX6 wc_X6_shares rfl rfl (by decide +kernel) ⟨by decide, by decide⟩
    · exact fw_calV (ci := 6) (me_X6_frees l g B) (by decide) wl_X6_72 wi_X6_frees wv_X6_frees wz_RX6 wc_X6_frees rfl rfl (by decide +kernel) ⟨by decide, by decide⟩
  · exact fun q hq => nomatch hq
abbrev rm_X6_carries : Room := { frames := 4, cells := 0, slots := 0, locals := 97 }
theorem me_X6_carries (l : Launch) (g : fw_G) (B : Nat) : fw_Met l g B yX6_carries cX6_carries 4 (none) rm_X6_carries 0 0 (ct_X6_carries B) := by
  refine fw_met (own := RX6) (by decide +kernel) rfl kX6_carries_ok kX6_carries_cst fl_X6_ok ?_ ?_ (wk_X6_carries B)
  · intro q hq
    simp only [cal_X6_carries, List.mem_cons, List.not_mem_nil, or_false] at hq
    rcases hq with rfl | rfl | rfl | rfl | rfl | rfl | rfl | rfl
    · exact fw_calV (ci := 6) (me_X6_of l g B) (by decide) wl_X6_44 wi_X6_of wv_X6_of wz_RX6 wc_X6_of rfl rfl (by decide +kernel) ⟨by decide, by decide⟩
    · exact fw_calV (ci := 6) (me_X6_its l g B) (by decide) wl_X6_52 wi_X6_its wv_X6_its wz_RX6 wc_X6_its rfl rfl (by decide +kernel) ⟨by decide, by decide⟩
    · exact fw_calS (me_X6_next l g B) wl_X6_59 ws_X6_next wz_RX6 wc_X6_next rfl rfl (by decide +kernel) ⟨by decide, by decide⟩
    · exact fw_calV (ci := 6) (me_X6_isIn l g B) (by decide) wl_X6_55 wi_X6_isIn wv_X6_isIn wz_RX6 wc_X6_isIn rfl rfl (by decide +kernel) ⟨by decide, by decide⟩
    · exact fw_calV (ci := 6) (me_X6_puts l g B) (by decide) wl_X6_65 wi_X6_puts wv_X6_puts wz_RX6 wc_X6_puts rfl rfl (by decide +kernel) ⟨by decide, by decide⟩
    · exact fw_calV (ci := 6) (me_X6_frees l g B) (by decide) wl_X6_72 wi_X6_frees wv_X6_frees wz_RX6 wc_X6_frees rfl rfl (by decide +kernel) ⟨by decide, by decide⟩
    · exact fw_calV (ci := 6) (me_X6_sets l g B) (by decide) wl_X6_48 wi_X6_sets wv_X6_sets wz_RX6 wc_X6_sets rfl rfl (by decide +kernel) ⟨by decide, by decide⟩
    · exact fw_calV (ci := 6) (me_X6_delivers l g B) (by decide) wl_X6_76 wi_X6_delivers wv_X6_delivers wz_RX6 wc_X6_delivers rfl rfl (by decide +kernel) ⟨by decide, by decide⟩
  · exact fun q hq => nomatch hq
abbrev rm_X6_goes : Room := { frames := 1, cells := 0, slots := 0, locals := 23 }
theorem me_X6_goes (l : Launch) (g : fw_G) (B : Nat) : fw_Met l g B yX6_goes cX6_goes 3 (none) rm_X6_goes 0 0 (ct_X6_goes B) := by
  refine fw_met (own := RX6) (by decide +kernel) rfl kX6_goes_ok kX6_goes_cst fl_X6_ok ?_ ?_ (wk_X6_goes B)
  · intro q hq
    simp only [cal_X6_goes, List.mem_cons, List.not_mem_nil, or_false] at hq
    rcases hq with rfl | rfl | rfl | rfl | rfl
    · exact fw_calV (ci := 6) (me_X6_of l g B) (by decide) wl_X6_44 wi_X6_of wv_X6_of wz_RX6 wc_X6_of rfl rfl (by decide +kernel) ⟨by decide, by decide⟩
    · exact fw_calV (ci := 6) (me_X6_its l g B) (by decide) wl_X6_52 wi_X6_its wv_X6_its wz_RX6 wc_X6_its rfl rfl (by decide +kernel) ⟨by decide, by decide⟩
    · exact fw_calV (ci := 6) (me_X6_sets l g B) (by decide) wl_X6_48 wi_X6_sets wv_X6_sets wz_RX6 wc_X6_sets rfl rfl (by decide +kernel) ⟨by decide, by decide⟩
    · exact fw_calV (ci := 6) (me_X6_puts l g B) (by decide) wl_X6_65 wi_X6_puts wv_X6_puts wz_RX6 wc_X6_puts rfl rfl (by decide +kernel) ⟨by decide, by decide⟩
    · exact fw_calS (me_X6_next l g B) wl_X6_59 ws_X6_next wz_RX6 wc_X6_next rfl rfl (by decide +kernel) ⟨by decide, by decide⟩
  · exact fun q hq => nomatch hq
abbrev rm_X6_isAsked : Room := { frames := 1, cells := 0, slots := 0, locals := 22 }
theorem me_X6_isAsked (l : Launch) (g : fw_G) (B : Nat) : fw_Met l g B yX6_isAsked cX6_isAsked 5 (some .boolean) rm_X6_isAsked 0 0 (ct_X6_isAsked B) := by
  refine fw_met (own := RX6) (by decide +kernel) rfl kX6_isAsked_ok kX6_isAsked_cst fl_X6_ok ?_ ?_ (wk_X6_isAsked B)
  · intro q hq
    simp only [cal_X6_isAsked, List.mem_cons, List.not_mem_nil, or_false] at hq
    rcases hq with rfl
    · exact fw_calV (ci := 6) (me_X6_of l g B) (by decide) wl_X6_44 wi_X6_of wv_X6_of wz_RX6 wc_X6_of rfl rfl (by decide +kernel) ⟨by decide, by decide⟩
  · exact fun q hq => nomatch hq
abbrev rm_X6_chooses : Room := { frames := 3, cells := 0, slots := 0, locals := 66 }
theorem me_X6_chooses (l : Launch) (g : fw_G) (B : Nat) : fw_Met l g B yX6_chooses cX6_chooses 5 (none) rm_X6_chooses 0 0 (ct_X6_chooses B) := by
  refine fw_met (own := RX6) (by decide +kernel) rfl kX6_chooses_ok kX6_chooses_cst fl_X6_ok ?_ ?_ (wk_X6_chooses B)
  · intro q hq
    simp only [cal_X6_chooses, List.mem_cons, List.not_mem_nil, or_false] at hq
    rcases hq with rfl | rfl | rfl | rfl
    · exact fw_calV (ci := 6) (me_X6_its l g B) (by decide) wl_X6_52 wi_X6_its wv_X6_its wz_RX6 wc_X6_its rfl rfl (by decide +kernel) ⟨by decide, by decide⟩
    · exact fw_calV (ci := 6) (me_X6_suits l g B) (by decide) wl_X6_79 wi_X6_suits wv_X6_suits wz_RX6 wc_X6_suits rfl rfl (by decide +kernel) ⟨by decide, by decide⟩
    · exact fw_calV (ci := 6) (me_X6_isAsked l g B) (by decide) wl_X6_82 wi_X6_isAsked wv_X6_isAsked wz_RX6 wc_X6_isAsked rfl rfl (by decide +kernel) ⟨by decide, by decide⟩
    · exact fw_calV (ci := 6) (me_X6_sets l g B) (by decide) wl_X6_48 wi_X6_sets wv_X6_sets wz_RX6 wc_X6_sets rfl rfl (by decide +kernel) ⟨by decide, by decide⟩
  · exact fun q hq => nomatch hq
abbrev rm_X6_failsOf : Room := { frames := 2, cells := 0, slots := 0, locals := 44 }
theorem me_X6_failsOf (l : Launch) (g : fw_G) (B : Nat) : fw_Met l g B yX6_failsOf cX6_failsOf 3 (none) rm_X6_failsOf 0 0 (ct_X6_failsOf B) := by
  refine fw_met (own := RX6) (by decide +kernel) rfl kX6_failsOf_ok kX6_failsOf_cst fl_X6_ok ?_ ?_ (wk_X6_failsOf B)
  · intro q hq
    simp only [cal_X6_failsOf, List.mem_cons, List.not_mem_nil, or_false] at hq
    rcases hq with rfl | rfl | rfl
    · exact fw_calV (ci := 6) (me_X6_puts l g B) (by decide) wl_X6_65 wi_X6_puts wv_X6_puts wz_RX6 wc_X6_puts rfl rfl (by decide +kernel) ⟨by decide, by decide⟩
    · exact fw_calV (ci := 6) (me_X6_of l g B) (by decide) wl_X6_44 wi_X6_of wv_X6_of wz_RX6 wc_X6_of rfl rfl (by decide +kernel) ⟨by decide, by decide⟩
    · exact fw_calV (ci := 6) (me_X6_frees l g B) (by decide) wl_X6_72 wi_X6_frees wv_X6_frees wz_RX6 wc_X6_frees rfl rfl (by decide +kernel) ⟨by decide, by decide⟩
  · exact fun q hq => nomatch hq
abbrev rm_X6_tick : Room := { frames := 5, cells := 0, slots := 0, locals := 120 }
theorem me_X6_tick (l : Launch) (g : fw_G) (B : Nat) : fw_Met l g B yX6_tick cX6_tick 3 (none) rm_X6_tick 0 0 (ct_X6_tick B) := by
  refine fw_met (own := RX6) (by decide +kernel) rfl kX6_tick_ok kX6_tick_cst fl_X6_ok ?_ ?_ (wk_X6_tick B)
  · intro q hq
    simp only [cal_X6_tick, List.mem_cons, List.not_mem_nil, or_false] at hq
    rcases hq with rfl | rfl | rfl | rfl | rfl | rfl
    · exact fw_calV (ci := 6) (me_X6_of l g B) (by decide) wl_X6_44 wi_X6_of wv_X6_of wz_RX6 wc_X6_of rfl rfl (by decide +kernel) ⟨by decide, by decide⟩
    · exact fw_calV (ci := 6) (me_X6_carries l g B) (by decide) wl_X6_85 wi_X6_carries wv_X6_carries wz_RX6 wc_X6_carries rfl rfl (by decide +kernel) ⟨by decide, by decide⟩
    · exact fw_calV (ci := 6) (me_X6_its l g B) (by decide) wl_X6_52 wi_X6_its wv_X6_its wz_RX6 wc_X6_its rfl rfl (by decide +kernel) ⟨by decide, by decide⟩
    · exact fw_calV (ci := 6) (me_X6_goes l g B) (by decide) wl_X6_88 wi_X6_goes wv_X6_goes wz_RX6 wc_X6_goes rfl rfl (by decide +kernel) ⟨by decide, by decide⟩
    · exact fw_calV (ci := 6) (me_X6_chooses l g B) (by decide) wl_X6_91 wi_X6_chooses wv_X6_chooses wz_RX6 wc_X6_chooses rfl rfl (by decide +kernel) ⟨by decide, by decide⟩
    · exact fw_calV (ci := 6) (me_X6_failsOf l g B) (by decide) wl_X6_94 wi_X6_failsOf wv_X6_failsOf wz_RX6 wc_X6_failsOf rfl rfl (by decide +kernel) ⟨by decide, by decide⟩
  · exact fun q hq => nomatch hq
abbrev rm_X6_ticks : Room := { frames := 6, cells := 0, slots := 0, locals := 142 }
theorem me_X6_ticks (l : Launch) (g : fw_G) (B : Nat) : fw_Met l g B yX6_ticks cX6_ticks 3 (none) rm_X6_ticks 0 0 (ct_X6_ticks B) := by
  refine fw_met (own := RX6) (by decide +kernel) rfl kX6_ticks_ok kX6_ticks_cst fl_X6_ok ?_ ?_ (wk_X6_ticks B)
  · intro q hq
    simp only [cal_X6_ticks, List.mem_cons, List.not_mem_nil, or_false] at hq
    rcases hq with rfl
    · exact fw_calV (ci := 6) (me_X6_tick l g B) (by decide) wl_X6_97 wi_X6_tick wv_X6_tick wz_RX6 wc_X6_tick rfl rfl (by decide +kernel) ⟨by decide, by decide⟩
  · exact fun q hq => nomatch hq
end

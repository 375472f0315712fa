/-! contracts out of walks (printed by program) -/
section
abbrev rm_L_area : Room := { frames := 0, cells := 0, slots := 0, locals := 0 }
theorem me_L_area (l : Launch) (g : fw_G) (B : Nat) : fw_Met l g B yL_area cL_area 3 (some .int) rm_L_area 0 0 (ct_L_area B) := by
  refine fw_met (own := RL) (by decide +kernel) rfl kL_area_ok kL_area_cst fl_L_ok ?_ ?_ (wk_L_area B)
  · intro q hq
    simp only [cal_L_area, List.mem_cons, List.not_mem_nil, or_false] at hq
  · exact fun q hq => nomatch hq
abbrev rm_L_low : Room := { frames := 0, cells := 0, slots := 0, locals := 0 }
theorem me_L_low (l : Launch) (g : fw_G) (B : Nat) : fw_Met l g B yL_low cL_low 2 (some .int) rm_L_low 0 0 (ct_L_low B) := by
  refine fw_met (own := RL) (by decide +kernel) rfl kL_low_ok kL_low_cst fl_L_ok ?_ ?_ (wk_L_low B)
  · intro q hq
    simp only [cal_L_low, List.mem_cons, List.not_mem_nil, or_false] at hq
  · exact fun q hq => nomatch hq
abbrev rm_L_towards : Room := { frames := 0, cells := 0, slots := 0, locals := 0 }
theorem me_L_towards (l : Launch) (g : fw_G) (B : Nat) : fw_Met l g B yL_towards cL_towards 4 (some .int) rm_L_towards 0 0 (ct_L_towards B) := by
  refine fw_met (own := RL) (by decide +kernel) rfl kL_towards_ok kL_towards_cst fl_L_ok ?_ ?_ (wk_L_towards B)
  · intro q hq
    simp only [cal_L_towards, List.mem_cons, List.not_mem_nil, or_false] at hq
  · exact fun q hq => nomatch hq
abbrev rm_L_has : Room := { frames := 0, cells := 0, slots := 0, locals := 0 }
theorem me_L_has (l : Launch) (g : fw_G) (B : Nat) : fw_Met l g B yL_has cL_has 2 (some .boolean) rm_L_has 0 0 (ct_L_has B) := by
  refine fw_met (own := RL) (by decide +kernel) rfl kL_has_ok kL_has_cst fl_L_ok ?_ ?_ (wk_L_has B)
  · intro q hq
    simp only [cal_L_has, List.mem_cons, List.not_mem_nil, or_false] at hq
  · exact fun q hq => nomatch hq
abbrev rm_L_suits : Room := { frames := 1, cells := 0, slots := 0, locals := 23 }
theorem me_L_suits (l : Launch) (g : fw_G) (B : Nat) : fw_Met l g B yL_suits cL_suits 4 (some .boolean) rm_L_suits 0 0 (ct_L_suits B) := by
  refine fw_met (own := RL) (by decide +kernel) rfl kL_suits_ok kL_suits_cst fl_L_ok ?_ ?_ (wk_L_suits B)
  · intro q hq
    simp only [cal_L_suits, List.mem_cons, List.not_mem_nil, or_false] at hq
    rcases hq with rfl | rfl
    · exact fw_calS (me_L_has l g B) wl_L_9 ws_L_has wz_RL wc_L_has rfl rfl (by decide +kernel) ⟨by decide, by decide⟩
    · exact fw_calS (me_L_towards l g B) wl_L_15 ws_L_towards wz_RL wc_L_towards rfl rfl (by decide +kernel) ⟨by decide, by decide⟩
  · exact fun q hq => nomatch hq
abbrev rm_L_free : Room := { frames := 0, cells := 0, slots := 0, locals := 0 }
theorem me_L_free (l : Launch) (g : fw_G) (B : Nat) : fw_Met l g B yL_free cL_free 2 (none) rm_L_free 0 0 (ct_L_free B) := by
  refine fw_met (own := RL) (by decide +kernel) rfl kL_free_ok kL_free_cst fl_L_ok ?_ ?_ (wk_L_free B)
  · intro q hq
    simp only [cal_L_free, List.mem_cons, List.not_mem_nil, or_false] at hq
  · exact fun q hq => nomatch hq
abbrev rm_L_pays : Room := { frames := 0, cells := 0, slots := 0, locals := 0 }
theorem me_L_pays (l : Launch) (g : fw_G) (B : Nat) : fw_Met l g B yL_pays cL_pays 14 (none) rm_L_pays 0 0 (ct_L_pays B) := by
  refine fw_met (own := RL) (by decide +kernel) rfl kL_pays_ok kL_pays_cst fl_L_ok ?_ ?_ (wk_L_pays B)
  · intro q hq
    simp only [cal_L_pays, List.mem_cons, List.not_mem_nil, or_false] at hq
  · exact fun q hq => nomatch hq
abbrev rm_L_does : Room := { frames := 2, cells := 0, slots := 0, locals := 46 }
theorem me_L_does (l : Launch) (g : fw_G) (B : Nat) : fw_Met l g B yL_does cL_does 12 (none) rm_L_does 0 0 (ct_L_does B) := by
  refine fw_met (own := RL) (by decide +kernel) rfl kL_does_ok kL_does_cst fl_L_ok ?_ ?_ (wk_L_does B)
  · intro q hq
    simp only [cal_L_does, List.mem_cons, List.not_mem_nil, or_false] at hq
    rcases hq with rfl | rfl | rfl | rfl | rfl
    · exact fw_calS (me_L_towards l g B) wl_L_15 ws_L_towards wz_RL wc_L_towards rfl rfl (by decide +kernel) ⟨by decide, by decide⟩
    · exact fw_calS (me_L_has l g B) wl_L_9 ws_L_has wz_RL wc_L_has rfl rfl (by decide +kernel) ⟨by decide, by decide⟩
    · exact fw_calS (me_L_free l g B) wl_L_19 ws_L_free wz_RL wc_L_free rfl rfl (by decide +kernel) ⟨by decide, by decide⟩
    · exact fw_calS (me_L_pays l g B) wl_L_23 ws_L_pays wz_RL wc_L_pays rfl rfl (by decide +kernel) ⟨by decide, by decide⟩
    · exact fw_calS (me_L_suits l g B) wl_L_27 ws_L_suits wz_RL wc_L_suits rfl rfl (by decide +kernel) ⟨by decide, by decide⟩
  · exact fun q hq => nomatch hq
abbrev rm_L_ticks : Room := { frames := 3, cells := 0, slots := 0, locals := 77 }
theorem me_L_ticks (l : Launch) (g : fw_G) (B : Nat) : fw_Met l g B yL_ticks cL_ticks 10 (none) rm_L_ticks 0 0 (ct_L_ticks B) := by
  refine fw_met (own := RL) (by decide +kernel) rfl kL_ticks_ok kL_ticks_cst fl_L_ok ?_ ?_ (wk_L_ticks B)
  · intro q hq
    simp only [cal_L_ticks, List.mem_cons, List.not_mem_nil, or_false] at hq
    rcases hq with rfl | rfl
    · exact fw_calS (me_L_does l g B) wl_L_31 ws_L_does wz_RL wc_L_does rfl rfl (by decide +kernel) ⟨by decide, by decide⟩
    · exact fw_calS (me_L_free l g B) wl_L_19 ws_L_free wz_RL wc_L_free rfl rfl (by decide +kernel) ⟨by decide, by decide⟩
  · exact fun q hq => nomatch hq
abbrev rm_L_drops : Room := { frames := 1, cells := 0, slots := 0, locals := 21 }
theorem me_L_drops (l : Launch) (g : fw_G) (B : Nat) : fw_Met l g B yL_drops cL_drops 4 (some .int) rm_L_drops 0 0 (ct_L_drops B) := by
  refine fw_met (own := RL) (by decide +kernel) rfl kL_drops_ok kL_drops_cst fl_L_ok ?_ ?_ (wk_L_drops B)
  · intro q hq
    simp only [cal_L_drops, List.mem_cons, List.not_mem_nil, or_false] at hq
    rcases hq with rfl
    · exact fw_calS (me_L_free l g B) wl_L_19 ws_L_free wz_RL wc_L_free rfl rfl (by decide +kernel) ⟨by decide, by decide⟩
  · exact fun q hq => nomatch hq
abbrev rm_L_delivered : Room := { frames := 0, cells := 0, slots := 0, locals := 0 }
theorem me_L_delivered (l : Launch) (g : fw_G) (B : Nat) : fw_Met l g B yL_delivered cL_delivered 4 (some .int) rm_L_delivered 0 0 (ct_L_delivered B) := by
  refine fw_met (own := RL) (by decide +kernel) rfl kL_delivered_ok kL_delivered_cst fl_L_ok ?_ ?_ (wk_L_delivered B)
  · intro q hq
    simp only [cal_L_delivered, List.mem_cons, List.not_mem_nil, or_false] at hq
  · exact fun q hq => nomatch hq
end

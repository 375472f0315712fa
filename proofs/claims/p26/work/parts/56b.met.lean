/-! contracts out of walks (printed by program) -/
section
abbrev rm_X0_setFree : Room := { frames := 0, cells := 0, slots := 0, locals := 0 }
theorem me_X0_setFree (l : Launch) (g : fw_G) (B : Nat) : fw_Met l g B yX0_setFree cX0_setFree 1 (none) rm_X0_setFree 0 0 (ct_X0_setFree B) := by
  refine fw_met (own := RX0) (by decide +kernel) rfl kX0_setFree_ok kX0_setFree_cst fl_X0_ok ?_ ?_ (wk_X0_setFree B)
  · intro q hq
    simp only [cal_X0_setFree, List.mem_cons, List.not_mem_nil, or_false] at hq
  · exact fun q hq => nomatch hq
abbrev rm_X0_begin : Room := { frames := 1, cells := 0, slots := 0, locals := 20 }
theorem me_X0_begin (l : Launch) (g : fw_G) (B : Nat) : fw_Met l g B yX0_begin cX0_begin 3 (none) rm_X0_begin 0 0 (ct_X0_begin B) := by
  refine fw_met (own := RX0) (by decide +kernel) rfl kX0_begin_ok kX0_begin_cst fl_X0_ok ?_ ?_ (wk_X0_begin B)
  · intro q hq
    simp only [cal_X0_begin, List.mem_cons, List.not_mem_nil, or_false] at hq
    rcases hq with rfl
    · exact fw_calV (ci := 0) (me_X0_setFree l g B) (by decide) wl_X0_24 wi_X0_setFree wv_X0_setFree wz_RX0 wc_X0_setFree rfl rfl (by decide +kernel) ⟨by decide, by decide⟩
  · exact fun q hq => nomatch hq
abbrev rm_X0_become : Room := { frames := 0, cells := 0, slots := 0, locals := 0 }
theorem me_X0_become (l : Launch) (g : fw_G) (B : Nat) : fw_Met l g B yX0_become cX0_become 2 (none) rm_X0_become 0 0 (ct_X0_become B) := by
  refine fw_met (own := RX0) (by decide +kernel) rfl kX0_become_ok kX0_become_cst fl_X0_ok ?_ ?_ (wk_X0_become B)
  · intro q hq
    simp only [cal_X0_become, List.mem_cons, List.not_mem_nil, or_false] at hq
  · exact fun q hq => nomatch hq
end

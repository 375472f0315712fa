/-! contracts out of walks (printed by program) -/
section
abbrev rm_X2_stateAt : Room := { frames := 0, cells := 0, slots := 0, locals := 0 }
theorem me_X2_stateAt (l : Launch) (g : fw_G) (B : Nat) : fw_Met l g B yX2_stateAt cX2_stateAt 3 (Option.some (Jvm.ClassFile.FieldType.object "CourierRelay$Exchange")) rm_X2_stateAt 0 0 (ct_X2_stateAt B) := by
  refine fw_met (own := RX2) (by decide +kernel) rfl kX2_stateAt_ok kX2_stateAt_cst fl_X2_ok ?_ ?_ (wk_X2_stateAt B)
  · intro q hq
    simp only [cal_X2_stateAt, List.mem_cons, List.not_mem_nil, or_false] at hq
  · exact fun q hq => nomatch hq
abbrev rm_X2_save : Room := { frames := 4, cells := 0, slots := 0, locals := 126 }
theorem me_X2_save (l : Launch) (g : fw_G) (B : Nat) : fw_Met l g B yX2_save cX2_save 3 (none) rm_X2_save 0 0 (ct_X2_save B) := by
  refine fw_met (own := RX2) (by decide +kernel) rfl kX2_save_ok kX2_save_cst fl_X2_ok ?_ ?_ (wk_X2_save B)
  · intro q hq
    simp only [cal_X2_save, List.mem_cons, List.not_mem_nil, or_false] at hq
    rcases hq with rfl | rfl
    · exact fw_calV (ci := 2) (me_X2_stateAt l g B) (by decide) wl_X2_25 wi_X2_stateAt wv_X2_stateAt wz_RX2 wc_X2_stateAt rfl rfl (by decide +kernel) ⟨by decide, by decide⟩
    · exact fw_calV (ci := 1) (me_X1_become l g B) (by decide) wl_X2_29 wi_X1_become wv_X1_become wz_RX1 wc_X1_become rfl rfl (by decide +kernel) ⟨by decide, by decide⟩
  · exact fun q hq => nomatch hq
end

/-! THE LAW: cell, isSo, acts: contracts out of their walks -/
section MLC
theorem wa_int0 : Cond.arrayClass .int ∈ fw_LW := fw_tin (by decide +kernel) (by decide +kernel)
abbrev rm_L_cell : Room := { frames := 0, cells := 0, slots := 0, locals := 0 }
theorem me_L_cell (l : Launch) (g : fw_G) (B b L : Nat) (xs : Nat → Int32) (hL : L ≤ 260) : fw_MetX l g B (fw_XS g B b L xs) yL_cell cL_cell 2 (some .int) rm_L_cell 0 0 (ct_L_cell b L xs) := by
  refine fw_metS (own := RL) (by decide +kernel) rfl kL_cell_ok kL_cell_cst ?_
  intro as M Q QX h
  unfold ct_L_cell at h
  split at h
  · obtain ⟨rfl, j, hj, rfl, h⟩ := h
    refine ⟨rfl, 40, And.intro rfl (And.intro (fun _ => h _) (fun h1 => And.intro rfl (And.intro (vn_i ?_ (by omega)) (h _))))⟩
    have h1 : ¬ nI L ≤ nI j := h1
    rw [n_ge (by omega) (by omega)] at h1
    omega
  · exact h.elim
abbrev rm_L_isSo : Room := { frames := 8, cells := 302, slots := 1810, locals := 140 }
theorem me_L_isSo (l : Launch) (g : fw_G) (B : Nat) (h0 : g.2.2 = 0) (htr : l.stackTraces = false) : fw_MetX l g B fw_NC yL_isSo cL_isSo 16 (some .boolean) rm_L_isSo 302 1810 (ct_L_isSo B) := by
  refine fw_metA (own := RL) (K := 300) h0 (by decide +kernel) rfl kL_isSo_ok kL_isSo_cst wa_int0 (by decide +kernel) (by decide +kernel) (by decide +kernel) (by decide) ?_ (by decide) (by decide) (by decide) (by decide) (wk_L_isSo B)
  intro n q hq
  simp only [cal_L_isSo, List.mem_cons, List.not_mem_nil, or_false] at hq
  rcases hq with rfl | rfl | rfl | rfl | rfl
  · exact fw_lwT (me_L_valueOf l _ B htr) wl_L_121 ws_L_valueOf wz_RL wc_L_valueOf rfl rfl (by decide +kernel) ⟨by decide, by decide⟩ ⟨by decide, by decide⟩
  · exact fw_lwT (me_L_courierOf l _ B htr) wl_L_124 ws_L_courierOf wz_RL wc_L_courierOf rfl rfl (by decide +kernel) ⟨by decide, by decide⟩ ⟨by decide, by decide⟩
  · exact fw_lwT (me_L_parcelOf l _ B htr) wl_L_127 ws_L_parcelOf wz_RL wc_L_parcelOf rfl rfl (by decide +kernel) ⟨by decide, by decide⟩ ⟨by decide, by decide⟩
  · exact fw_lwT (me_L_legsOf l _ B htr) wl_L_130 ws_L_legsOf wz_RL wc_L_legsOf rfl rfl (by decide +kernel) ⟨by decide, by decide⟩ ⟨by decide, by decide⟩
  · exact fw_lwT (me_L_farOf l _ B htr) wl_L_134 ws_L_farOf wz_RL wc_L_farOf rfl rfl (by decide +kernel) ⟨by decide, by decide⟩ ⟨by decide, by decide⟩
abbrev rm_L_acts : Room := { frames := 8, cells := 21, slots := 126, locals := 200 }
theorem me_L_acts (l : Launch) (g : fw_G) (B : Nat) (htr : l.stackTraces = false) : fw_MetX l g B fw_NC yL_acts cL_acts 16 (some .boolean) rm_L_acts 21 126 (ct_L_acts B) := by
  refine fw_metN (own := RL) (K := 20) (by decide +kernel) rfl kL_acts_ok kL_acts_cst ?_ (by decide) (by decide) (wk_L_acts B)
  intro q hq
  simp only [cal_L_acts, List.mem_cons, List.not_mem_nil, or_false] at hq
  rcases hq with rfl | rfl | rfl | rfl | rfl | rfl | rfl | rfl | rfl | rfl | rfl | rfl
  · exact fw_lwS (me_L_low l g B) (fun _ _ _ _ h => h) wl_L_36 ws_L_low wz_RL wc_L_low rfl rfl (by decide +kernel) ⟨by decide, by decide⟩ ⟨by decide, by decide⟩
  · exact fw_lwS (me_L_area l g B) (fun _ _ _ _ h => h) wl_L_39 ws_L_area wz_RL wc_L_area rfl rfl (by decide +kernel) ⟨by decide, by decide⟩ ⟨by decide, by decide⟩
  · exact fw_lwT (me_L_adds l g B htr) wl_L_43 ws_L_adds wz_RL wc_L_adds rfl rfl (by decide +kernel) ⟨by decide, by decide⟩ ⟨by decide, by decide⟩
  · exact fw_lwS (me_L_free l g B) (fun _ _ _ _ h => h) wl_L_19 ws_L_free wz_RL wc_L_free rfl rfl (by decide +kernel) ⟨by decide, by decide⟩ ⟨by decide, by decide⟩
  · exact fw_lwT (me_L_areas l g B htr) wl_L_48 ws_L_areas wz_RL wc_L_areas rfl rfl (by decide +kernel) ⟨by decide, by decide⟩ ⟨by decide, by decide⟩
  · exact fw_lwT (me_L_gives l g B htr) wl_L_52 ws_L_gives wz_RL wc_L_gives rfl rfl (by decide +kernel) ⟨by decide, by decide⟩ ⟨by decide, by decide⟩
  · exact fw_lwT (me_L_graces l g B htr) wl_L_57 ws_L_graces wz_RL wc_L_graces rfl rfl (by decide +kernel) ⟨by decide, by decide⟩ ⟨by decide, by decide⟩
  · exact fw_lwT (me_L_dropsOf l g B htr) wl_L_61 ws_L_dropsOf wz_RL wc_L_dropsOf rfl rfl (by decide +kernel) ⟨by decide, by decide⟩ ⟨by decide, by decide⟩
  · exact fw_lwS (me_L_drops l g B) (fun _ _ _ _ h => h) wl_L_64 ws_L_drops wz_RL wc_L_drops rfl rfl (by decide +kernel) ⟨by decide, by decide⟩ ⟨by decide, by decide⟩
  · exact fw_lwT (me_L_runs l g B htr) wl_L_68 ws_L_runs wz_RL wc_L_runs rfl rfl (by decide +kernel) ⟨by decide, by decide⟩ ⟨by decide, by decide⟩
  · exact fw_lwS (me_L_delivered l g B) (fun _ _ _ _ h => h) wl_L_71 ws_L_delivered wz_RL wc_L_delivered rfl rfl (by decide +kernel) ⟨by decide, by decide⟩ ⟨by decide, by decide⟩
  · exact fw_lwS (me_L_ticks l g B) (fun _ _ _ _ h => h) wl_L_75 ws_L_ticks wz_RL wc_L_ticks rfl rfl (by decide +kernel) ⟨by decide, by decide⟩ ⟨by decide, by decide⟩
end MLC

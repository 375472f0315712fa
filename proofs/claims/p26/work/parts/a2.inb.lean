/-! CONSTRUCTORS: Courier, Parcel, ParcelText, the reference -/
section CK
theorem wob0 : Cond.methodLink RX0 3 Lib.objectInit ∈ fw_LW := fw_tin (by decide +kernel) (by decide +kernel)
theorem wob3 : Cond.methodLink RX3 3 Lib.objectInit ∈ fw_LW := fw_tin (by decide +kernel) (by decide +kernel)
theorem wob4 : Cond.methodLink RX4 3 Lib.objectInit ∈ fw_LW := fw_tin (by decide +kernel) (by decide +kernel)
theorem wa_int : Cond.arrayClass .int ∈ fw_LW := fw_tin (by decide +kernel) (by decide +kernel)
abbrev ri_X0 : Room := { frames := 1, cells := 0, slots := 0, locals := 12 }
theorem in_X0 (l : Launch) (g : fw_G) : fw_Ini l g yX0_init cX0_init 1 ri_X0 0 0 0 1 (fun _ a => eK g 0 6 a) := by
  refine ini_of (own := RX0) (io := 3) (by decide) rfl (by decide +kernel) rfl wob0 (by decide +kernel) (by decide +kernel) (by decide) (by decide) ?_
  intro p e s m args below meth c A la Qx En hin hcA hl h fin
  have hx := En.1
  have hb := En.2.1
  refine lv_aload_n hx hb (show decode cX0_init 4 = .ok (.aload_n 0, 1) by decide +kernel) rfl (lv_at hl 0 rfl) ?_
  refine lv_iconst (v := -1) hx hb (show decode cX0_init 5 = .ok (.iconst (-1), 1) by decide +kernel) (by decide) ?_
  refine cS_putN (j0 := 0) (ci := 0) (f := 4) (index := 9) (fs := dF 0) (ty := .int) En h (by decide) rfl fl_X0_ok (by decide) (by decide) (by decide +kernel) rfl rfl rfl (by decide +kernel) ?_
  intro H1 locs1 h1
  exact fin H1 locs1 _ 9 (cS_to h1 (fun j hj => by rw [show j = 0 by omega]; rfl)) (by decide +kernel)
abbrev ri_X3 : Room := { frames := 1, cells := 2, slots := 12, locals := 12 }
theorem in_X3 (l : Launch) (g : fw_G) : fw_Ini l g yX3_init cX3_init 1 ri_X3 2 12 3 3 (fun j a => if j = 0 then eK g 3 6 a else eK g 7 6 a) := by
  refine ini_of (own := RX3) (io := 3) (by decide) rfl (by decide +kernel) rfl wob3 (by decide +kernel) (by decide +kernel) (by decide) (by decide) ?_
  intro p e s m args below meth c A la Qx En hin hcA hl h fin
  have hx := En.1
  have hb := En.2.1
  refine lv_aload_n hx hb (show decode cX3_init 4 = .ok (.aload_n 0, 1) by decide +kernel) rfl (lv_at hl 0 rfl) ?_
  refine lv_bipush (v := 6) hx hb (show decode cX3_init 5 = .ok (.bipush 6, 2) by decide +kernel) (by decide) ?_
  refine cS_arr (atype := .int) (t := 0) (N := 6) (ty := .int) (a0 := (6, .inl (fun _ => 0))) En h wa_int rfl rfl (fun _ w => w) (fun _ => rfl) (by decide) (by decide) (by decide) (by decide) (by decide) (by decide +kernel) ?_
  intro H1 h1
  refine cS_putF (j0 := 0) (ci := 3) (f := 8) (index := 9) (fs := dF 3) (ty := .array .int) En hin h1 (by decide) rfl rfl fl_X3_ok (by decide) (by decide) (by decide +kernel) rfl rfl rfl (by decide +kernel) ?_
  intro H2 locs2 h2
  refine lv_aload_n hx hb (show decode cX3_init 12 = .ok (.aload_n 0, 1) by decide +kernel) rfl (lv_at hl 0 rfl) ?_
  refine lv_bipush (v := 6) hx hb (show decode cX3_init 13 = .ok (.bipush 6, 2) by decide +kernel) (by decide) ?_
  refine cS_arr (atype := .int) (t := 0) (N := 6) (ty := .int) (a0 := (6, .inl (fun _ => 0))) En h2 wa_int rfl rfl (fun _ w => w) (fun _ => rfl) (by decide) (by decide) (by decide) (by decide) (by decide) (by decide +kernel) ?_
  intro H3 h3
  refine cS_putF (j0 := 0) (ci := 3) (f := 9) (index := 15) (fs := (dF 3).set 8 (.ref (A + 1))) (ty := .array .int) En hin h3 (by decide) rfl rfl fl_X3_ok (by decide) (by decide) (by decide +kernel) rfl rfl rfl (by decide +kernel) ?_
  intro H4 locs4 h4
  refine fin H4 locs4 _ 20 (cS_to h4 (fun j hj => ?_)) (by decide +kernel)
  rcases (show j = 0 ∨ j = 1 ∨ j = 2 by omega) with y | y | y <;> subst y <;> rfl
abbrev ri_X4 : Room := { frames := 1, cells := 2, slots := 246, locals := 12 }
theorem in_X4 (l : Launch) (g : fw_G) : fw_Ini l g yX4_init cX4_init 1 ri_X4 2 246 4 3 (fun j a => if j = 0 then eK g 4 6 a else if j = 1 then eK g 7 150 a else eK g 7 96 a) := by
  refine ini_of (own := RX4) (io := 3) (by decide) rfl (by decide +kernel) rfl wob4 (by decide +kernel) (by decide +kernel) (by decide) (by decide) ?_
  intro p e s m args below meth c A la Qx En hin hcA hl h fin
  have hx := En.1
  have hb := En.2.1
  refine lv_aload_n hx hb (show decode cX4_init 4 = .ok (.aload_n 0, 1) by decide +kernel) rfl (lv_at hl 0 rfl) ?_
  refine lv_sipush (v := 150) hx hb (show decode cX4_init 5 = .ok (.sipush 150, 3) by decide +kernel) (by decide) ?_
  refine cS_arr (atype := .int) (t := 0) (N := 150) (ty := .int) (a0 := (150, .inl (fun _ => 0))) En h wa_int rfl rfl (fun _ w => w) (fun _ => rfl) (by decide) (by decide) (by decide) (by decide) (by decide) (by decide +kernel) ?_
  intro H1 h1
  refine cS_putF (j0 := 0) (ci := 4) (f := 0) (index := 9) (fs := dF 4) (ty := .array .int) En hin h1 (by decide) rfl rfl fl_X4_ok (by decide) (by decide) (by decide +kernel) rfl rfl rfl (by decide +kernel) ?_
  intro H2 locs2 h2
  refine lv_aload_n hx hb (show decode cX4_init 13 = .ok (.aload_n 0, 1) by decide +kernel) rfl (lv_at hl 0 rfl) ?_
  refine lv_bipush (v := 96) hx hb (show decode cX4_init 14 = .ok (.bipush 96, 2) by decide +kernel) (by decide) ?_
  refine cS_arr (atype := .int) (t := 0) (N := 96) (ty := .int) (a0 := (96, .inl (fun _ => 0))) En h2 wa_int rfl rfl (fun _ w => w) (fun _ => rfl) (by decide) (by decide) (by decide) (by decide) (by decide) (by decide +kernel) ?_
  intro H3 h3
  refine cS_putF (j0 := 0) (ci := 4) (f := 1) (index := 15) (fs := (dF 4).set 0 (.ref (A + 1))) (ty := .array .int) En hin h3 (by decide) rfl rfl fl_X4_ok (by decide) (by decide) (by decide +kernel) rfl rfl rfl (by decide +kernel) ?_
  intro H4 locs4 h4
  refine fin H4 locs4 _ 21 (cS_to h4 (fun j hj => ?_)) (by decide +kernel)
  rcases (show j = 0 ∨ j = 1 ∨ j = 2 by omega) with y | y | y <;> subst y <;> rfl
end CK

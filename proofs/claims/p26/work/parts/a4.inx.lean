/-! CONSTRUCTORS: Exchange, History, CourierRelay, the reference -/
section CM
theorem wob1 : Cond.methodLink RX1 3 Lib.objectInit ∈ fw_LW := fw_tin (by decide +kernel) (by decide +kernel)
theorem wob2 : Cond.methodLink RX2 3 Lib.objectInit ∈ fw_LW := fw_tin (by decide +kernel) (by decide +kernel)
theorem wob5 : Cond.methodLink RX5 1 Lib.objectInit ∈ fw_LW := fw_tin (by decide +kernel) (by decide +kernel)
theorem rof_0 {A k0 n : Nat} : rof A k0 n 0 = fun _ => none := by
  funext j
  exact if_neg (Nat.not_lt_zero j)
theorem kx_c {j : Nat} (h : 3 ≤ j) (h2 : j < 9) : fw_kx j = 0 := by
  unfold fw_kx
  rw [if_neg (by omega), if_neg (by omega), if_neg (by omega), if_pos h2]
theorem kx_p {j : Nat} (h : 9 ≤ j) : fw_kx j = if (j - 9) % 3 = 0 then 3 else 7 := by
  unfold fw_kx
  rw [if_neg (by omega), if_neg (by omega), if_neg (by omega), if_neg (by omega)]
abbrev roE (g : fw_G) (t N A k0 n i : Nat) : va_E := .inl (g.2.1 t, N, .inr (.inr (.inr (.inr (rof A k0 n i)))))
abbrev roE' (g : fw_G) (t N : Nat) : va_E := .inl (g.2.1 t, N, .inr (.inr (.inr (.inr (fun _ => none)))))
theorem roE_0 {g : fw_G} {t N A k0 n : Nat} : roE g t N A k0 n 0 = roE' g t N := by unfold roE; rw [rof_0]
def erA (g : fw_G) (A i j : Nat) : va_E := if j = 1 then roE g 1 6 A 3 1 i else if j = 2 then roE g 3 24 A 9 3 0 else eK g (fw_kx j) 6 (A + j)
def erB (g : fw_G) (A i j : Nat) : va_E := if j = 2 then roE g 3 24 A 9 3 i else eK g (fw_kx j) 6 (A + j)
theorem erA_st {g : fw_G} {A i j : Nat} (hi : i < 6) (hj : j < 3 + 1 * (i + 1)) (hn : j ≠ 1) : (if j < 3 + 1 * i then erA g A i j else eK g 0 6 (A + j)) = erA g A (i + 1) j := by
  unfold erA
  rw [if_neg hn, if_neg hn]
  by_cases e : j < 3 + 1 * i
  · rw [if_pos e]
  · rw [if_neg e, if_neg (by omega), kx_c (by omega) (by omega)]
theorem erB_st {g : fw_G} {A i j : Nat} (hj : j < 9 + 3 * (i + 1)) (hn : j ≠ 2) : (if j < 9 + 3 * i then erB g A i j else (if j - (9 + 3 * i) = 0 then eK g 3 6 (A + j) else eK g 7 6 (A + j))) = erB g A (i + 1) j := by
  unfold erB
  rw [if_neg hn, if_neg hn]
  by_cases e : j < 9 + 3 * i
  · rw [if_pos e]
  · rw [if_neg e, kx_p (by omega)]
    by_cases e2 : j - (9 + 3 * i) = 0
    · rw [if_pos e2, if_pos (by omega)]
    · rw [if_neg e2, if_neg (by omega)]
abbrev ri_X1 : Room := { frames := 2, cells := 80, slots := 588, locals := 32 }
theorem in_X1 (l : Launch) (g : fw_G) : fw_Ini l g yX1_init cX1_init 2 ri_X1 80 588 1 81 (fun j a => eK g (fw_kx j) 6 a) := by
  refine ini_of (own := RX1) (io := 3) (by decide) rfl (by decide +kernel) rfl wob1 (by decide +kernel) (by decide +kernel) (by decide) (by decide) ?_
  intro p e s m args below meth c A la Qx En hin hcA hl h fin
  have hx := En.1
  have hb := En.2.1
  refine lv_aload_n hx hb (show decode cX1_init 4 = .ok (.aload_n 0, 1) by decide +kernel) rfl (lv_at hl 0 rfl) ?_
  refine lv_bipush (v := 6) hx hb (show decode cX1_init 5 = .ok (.bipush 6, 2) by decide +kernel) (by decide) ?_
  refine cS_anew (t := 1) (N := 6) (C := RX0) (index := 9) En h wq_X1_9 hcA.2.1.1 rfl (by decide) (by decide) (by decide) (by decide) (by decide) (by decide +kernel) ?_
  intro H1 h1
  refine cS_putF (j0 := 0) (ci := 1) (f := 7) (index := 11) (fs := dF 1) (ty := .array (.object "CourierRelay$Courier")) En hin h1 (by decide) rfl rfl fl_X1_ok (by decide) (by decide) (by decide +kernel) rfl rfl rfl (by decide +kernel) ?_
  intro H2 locs2 h2
  refine lv_aload_n hx hb (show decode cX1_init 13 = .ok (.aload_n 0, 1) by decide +kernel) rfl (lv_at hl 0 rfl) ?_
  refine lv_bipush (v := 24) hx hb (show decode cX1_init 14 = .ok (.bipush 24, 2) by decide +kernel) (by decide) ?_
  refine cS_anew (t := 3) (N := 24) (C := RX3) (index := 17) En h2 wq_X1_17 hcA.2.1.2.1 rfl (by decide) (by decide) (by decide) (by decide) (by decide) (by decide +kernel) ?_
  intro H3 h3
  refine cS_putF (j0 := 0) (ci := 1) (f := 8) (index := 19) (fs := (dF 1).set 7 (.ref (A + 1))) (ty := .array (.object "CourierRelay$Parcel")) En hin h3 (by decide) rfl rfl fl_X1_ok (by decide) (by decide) (by decide +kernel) rfl rfl rfl (by decide +kernel) ?_
  intro H4 locs4 h4
  refine lv_aload_n hx hb (show decode cX1_init 22 = .ok (.aload_n 0, 1) by decide +kernel) rfl (lv_at hl 0 rfl) ?_
  refine lv_bipush (v := 10) hx hb (show decode cX1_init 23 = .ok (.bipush 10, 2) by decide +kernel) (by decide) ?_
  refine cS_putN (j0 := 0) (ci := 1) (f := 1) (index := 23) (fs := ((dF 1).set 7 (.ref (A + 1))).set 8 (.ref (A + 2))) (ty := .int) En h4 (by decide) rfl fl_X1_ok (by decide) (by decide) (by decide +kernel) rfl rfl rfl (by decide +kernel) ?_
  intro H5 locs5 h5
  refine lv_iconst (v := 0) hx hb (show decode cX1_init 28 = .ok (.iconst 0, 1) by decide +kernel) (by decide) ?_
  refine lv_istore_n (i := 1) (lv' := [(1, .int 0), (0, .ref A)]) hx hb (show decode cX1_init 29 = .ok (.istore_n 1, 1) by decide +kernel) rfl hl (by decide) rfl ?_
  intro la2 hl2
  have h6 : cS g A s.heap H5 locs5 3 (erA g A 0) := cS_to h5 (fun j hj => by
    rcases (show j = 0 ∨ j = 1 ∨ j = 2 by omega) with y | y | y <;> subst y
    · rfl
    · show roE' g 1 6 = roE g 1 6 A 3 1 0; rw [roE_0]
    · show roE' g 3 24 = roE g 3 24 A 9 3 0; rw [roE_0])
  refine cS_row (h := 30) (ci0 := 1) (fno := 7) (fix := 11) (jr := 1) (t := 1) (N := 6) (k0 := 3) (n := 1) (ce := 0) (ix := 0) (mc := 0) (ms := 0) (ic := 9) (c0 := 2) (s0 := 30) (off := -25) (fs := [.int 0, .int 10, .int 0, .int 0, .int 0, .int 0, .int 0, .ref (A + 1), .ref (A + 2)]) (Er := erA g A) (EFe := fun _ a => eK g 0 6 a)
    En fl_X1_ok (by decide) rfl rfl (by decide) wq_X1_9 wb_RX0 wz_RX0 (by decide +kernel) (by decide) (by decide) (by decide) (fun i => rfl) (fun i => rfl) (fun i hi j hj hn => erA_st hi hj hn) (by decide) (by decide)
    (by decide +kernel) (by decide +kernel) (by decide +kernel) (by decide +kernel) (by decide +kernel) (by decide +kernel) (by decide +kernel) (by decide +kernel) (by decide +kernel) (by decide +kernel) (by decide +kernel) (by decide +kernel) (by decide +kernel) (by decide)
    (fun H locs E k cells slots la rest q1 q2 q3 q4 q5 q6 kk => cS_call (n := 1) (ci := 0) En hcA (in_X0 l g) q1 q3 q4 wl_X1_27 wi_X0_init wz_RX0 wc_X0_init rfl rfl rfl (by decide +kernel) ⟨by decide, by decide⟩ ⟨q5, q6⟩ q2 (by decide +kernel) kk) (fun a => rfl) (by decide) ?_ h6 hl2
  intro H7 locs7 la3 h7 hl3
  refine lv_iconst (v := 0) hx hb (show decode cX1_init 58 = .ok (.iconst 0, 1) by decide +kernel) (by decide) ?_
  refine lv_istore_n (i := 1) (lv' := [(1, .int 0), (0, .ref A)]) hx hb (show decode cX1_init 59 = .ok (.istore_n 1, 1) by decide +kernel) rfl hl3 (by decide) rfl ?_
  intro la4 hl4
  have h8 : cS g A s.heap H7 locs7 9 (erB g A 0) := cS_at h7 (fun j hj hat => by
    unfold erA at hat
    unfold erB
    by_cases e1 : j = 1
    · subst e1
      rw [if_pos rfl] at hat
      rw [if_neg (by decide)]
      exact at_row (fun i hi => by unfold rof fw_el; rw [if_pos hi, if_pos rfl]; congr 1; omega) hat
    · rw [if_neg e1] at hat
      exact hat)
  refine cS_row (h := 60) (ci0 := 1) (fno := 8) (fix := 19) (jr := 2) (t := 3) (N := 24) (k0 := 9) (n := 3) (ce := 3) (ix := 0) (mc := 2) (ms := 12) (ic := 17) (c0 := 8) (s0 := 60) (off := -25) (fs := [.int 0, .int 10, .int 0, .int 0, .int 0, .int 0, .int 0, .ref (A + 1), .ref (A + 2)]) (Er := erB g A) (EFe := fun j a => if j = 0 then eK g 3 6 a else eK g 7 6 a)
    En fl_X1_ok (by decide) rfl rfl (by decide) wq_X1_17 wb_RX3 wz_RX3 (by decide +kernel) (by decide) (by decide) (by decide) (fun i => rfl) (fun i => rfl) (fun i hi j hj hn => erB_st hj hn) (by decide) (by decide)
    (by decide +kernel) (by decide +kernel) (by decide +kernel) (by decide +kernel) (by decide +kernel) (by decide +kernel) (by decide +kernel) (by decide +kernel) (by decide +kernel) (by decide +kernel) (by decide +kernel) (by decide +kernel) (by decide +kernel) (by decide)
    (fun H locs E k cells slots la rest q1 q2 q3 q4 q5 q6 kk => cS_callN (n := 3) (ci := 3) (host := "CourierRelay") En hcA (in_X3 l g) q1 q3 q4 (List.mem_append_left _ (List.mem_map.mpr ⟨(RX1, 28, yX3_init, "CourierRelay"), List.mem_of_getElem? (i := 1) rfl, rfl⟩)) wi_X3_init wz_RX3 wc_X3_init rfl rfl rfl (by decide +kernel) ⟨by decide, by decide⟩ ⟨q5, q6⟩ q2 (by decide +kernel) kk) (fun a => rfl) (by decide) ?_ h8 hl4
  intro H9 locs9 la5 h9 hl5
  refine fin H9 locs9 _ 88 (cS_at h9 (fun j hj hat => ?_)) (by decide +kernel)
  unfold erB at hat
  by_cases e1 : j = 2
  · subst e1
    rw [if_pos rfl] at hat
    exact at_row (fun i hi => by unfold rof fw_el; rw [if_pos hi, if_neg (by decide), if_neg (by decide)]; congr 1; omega) hat
  · rw [if_neg e1] at hat
    exact hat
def erH (g : fw_G) (A i j : Nat) : va_E := if j = 1 then roE g 2 4 A 2 81 i else if j = 0 then eK g 2 6 (A + j) else eK g (fw_kx ((j - 2) % 81)) 6 (A + j)
theorem erH_st {g : fw_G} {A i j : Nat} (hj : j < 2 + 81 * (i + 1)) (hn : j ≠ 1) : (if j < 2 + 81 * i then erH g A i j else eK g (fw_kx (j - (2 + 81 * i))) 6 (A + j)) = erH g A (i + 1) j := by
  unfold erH
  rw [if_neg hn, if_neg hn]
  by_cases e : j < 2 + 81 * i
  · rw [if_pos e]
  · rw [if_neg e, if_neg (by omega), show (j - 2) % 81 = j - (2 + 81 * i) by omega]
abbrev ri_X2 : Room := { frames := 3, cells := 325, slots := 2392, locals := 53 }
theorem in_X2 (l : Launch) (g : fw_G) : fw_Ini l g yX2_init cX2_init 2 ri_X2 325 2392 2 326 (fun j a => if j = 0 then eK g 2 6 a else if j = 1 then eK g 9 6 a else eK g (fw_kx ((j - 2) % 81)) 6 a) := by
  refine ini_of (own := RX2) (io := 3) (by decide) rfl (by decide +kernel) rfl wob2 (by decide +kernel) (by decide +kernel) (by decide) (by decide) ?_
  intro p e s m args below meth c A la Qx En hin hcA hl h fin
  have hx := En.1
  have hb := En.2.1
  refine lv_aload_n hx hb (show decode cX2_init 4 = .ok (.aload_n 0, 1) by decide +kernel) rfl (lv_at hl 0 rfl) ?_
  refine lv_iconst (v := 4) hx hb (show decode cX2_init 5 = .ok (.iconst 4, 1) by decide +kernel) (by decide) ?_
  refine cS_anew (t := 2) (N := 4) (C := RX1) (index := 9) En h wq_X2_9 hcA.2.1.2.2 rfl (by decide) (by decide) (by decide) (by decide) (by decide) (by decide +kernel) ?_
  intro H1 h1
  refine cS_putF (j0 := 0) (ci := 2) (f := 0) (index := 11) (fs := dF 2) (ty := .array (.object "CourierRelay$Exchange")) En hin h1 (by decide) rfl rfl fl_X2_ok (by decide) (by decide) (by decide +kernel) rfl rfl rfl (by decide +kernel) ?_
  intro H5 locs5 h5
  refine lv_iconst (v := 0) hx hb (show decode cX2_init 12 = .ok (.iconst 0, 1) by decide +kernel) (by decide) ?_
  refine lv_istore_n (i := 1) (lv' := [(1, .int 0), (0, .ref A)]) hx hb (show decode cX2_init 13 = .ok (.istore_n 1, 1) by decide +kernel) rfl hl (by decide) rfl ?_
  intro la2 hl2
  have h6 : cS g A s.heap H5 locs5 2 (erH g A 0) := cS_to h5 (fun j hj => by
    rcases (show j = 0 ∨ j = 1 by omega) with y | y <;> subst y
    · rfl
    · show roE' g 2 4 = roE g 2 4 A 2 81 0; rw [roE_0])
  refine cS_row (h := 14) (ci0 := 2) (fno := 0) (fix := 11) (jr := 1) (t := 2) (N := 4) (k0 := 2) (n := 81) (ce := 1) (ix := 0) (mc := 80) (ms := 588) (ic := 9) (c0 := 1) (s0 := 4) (off := -25) (fs := [.ref (A + 1), .int 0, .int 0]) (Er := erH g A) (EFe := fun j a => eK g (fw_kx j) 6 a)
    En fl_X2_ok (by decide) rfl rfl (by decide) wq_X2_9 wb_RX1 wz_RX1 (by decide +kernel) (by decide) (by decide) (by decide) (fun i => rfl) (fun i => rfl) (fun i hi j hj hn => erH_st hj hn) (by decide) (by decide)
    (by decide +kernel) (by decide +kernel) (by decide +kernel) (by decide +kernel) (by decide +kernel) (by decide +kernel) (by decide +kernel) (by decide +kernel) (by decide +kernel) (by decide +kernel) (by decide +kernel) (by decide +kernel) (by decide +kernel) (by decide)
    (fun H locs E k cells slots la rest q1 q2 q3 q4 q5 q6 kk => cS_call (n := 81) (ci := 1) En hcA (in_X1 l g) q1 q3 q4 wl_X2_17 wi_X1_init wz_RX1 wc_X1_init rfl rfl rfl (by decide +kernel) ⟨by decide, by decide⟩ ⟨q5, q6⟩ q2 (by decide +kernel) kk) (fun a => rfl) (by decide) ?_ h6 hl2
  intro H9 locs9 la5 h9 hl5
  refine fin H9 locs9 _ 42 (cS_at h9 (fun j hj hat => ?_)) (by decide +kernel)
  unfold erH at hat
  by_cases e1 : j = 1
  · subst e1
    rw [if_pos rfl] at hat
    exact at_row (fun i hi => by unfold rof fw_el; rw [if_pos hi, if_neg (by decide), if_pos rfl]; congr 1; omega) hat
  · rw [if_neg e1] at hat
    by_cases e0 : j = 0
    · rw [if_pos e0] at hat ⊢; exact hat
    · rw [if_neg e0] at hat ⊢; rw [if_neg e1]; exact hat
end CM

/-! THE LAW'S CALLS WALKED: acts -/
section WLA
abbrev acL (B : Nat) (z : Int32) (j k : Nat) (o10 o11 o12 o14 : Option Value) : fw_L := [some (.ref B), some (.ref (B + 492)), some (.ref (B + 493)), some (.ref (B + 494)), some (.ref (B + 495)), some (.ref (B + 496)), some (.int z), some (.int (nI j)), some (.int (nI k)), none, o10, o11, o12, none, o14, none]
def cal_L_acts (B : Nat) : List fw_Cal := [(36, 1, 0, 2, 1, fun as M Q => M.2.2 ≤ 20 ∧ ct_L_low B as M Q (fun _ _ => False)), (39, 1, 0, 1, 1, fun as M Q => M.2.2 ≤ 20 ∧ ct_L_area B as M Q (fun _ _ => False)), (43, 1, 0, 3, 1, fun as M Q => M.2.2 ≤ 20 ∧ ct_L_adds B as M Q (fun _ _ => False)), (19, 1, 0, 2, 1, fun as M Q => M.2.2 ≤ 20 ∧ ct_L_free B as M Q (fun _ _ => False)), (48, 1, 0, 3, 1, fun as M Q => M.2.2 ≤ 20 ∧ ct_L_areas B as M Q (fun _ _ => False)), (52, 1, 0, 5, 1, fun as M Q => M.2.2 ≤ 20 ∧ ct_L_gives B as M Q (fun _ _ => False)), (57, 1, 0, 2, 1, fun as M Q => M.2.2 ≤ 20 ∧ ct_L_graces B as M Q (fun _ _ => False)), (61, 1, 0, 2, 1, fun as M Q => M.2.2 ≤ 20 ∧ ct_L_dropsOf B as M Q (fun _ _ => False)), (64, 1, 0, 3, 1, fun as M Q => M.2.2 ≤ 20 ∧ ct_L_drops B as M Q (fun _ _ => False)), (68, 1, 0, 2, 1, fun as M Q => M.2.2 ≤ 20 ∧ ct_L_runs B as M Q (fun _ _ => False)), (71, 1, 0, 2, 1, fun as M Q => M.2.2 ≤ 20 ∧ ct_L_delivered B as M Q (fun _ _ => False)), (75, 1, 0, 6, 1, fun as M Q => M.2.2 ≤ 20 ∧ ct_L_ticks B as M Q (fun _ _ => False))]
theorem nz (d : Int32) (h : d ≠ 0 := by decide) : fw_sd (¬ d = 0) := fw_sd_i h
theorem LZ_c {B n : Nat} {M : fw_M} {Z : Zs} (h : LZ B M Z) : LZ B (M.1, M.2.1, n) Z := h
set_option maxRecDepth 100000 in
theorem wk_L_acts (B : Nat) : fw_WkN B (cal_L_acts B) (some .boolean) kL_acts 16 20 (ct_L_acts B) := by
  intro as M Q QX h
  unfold ct_L_acts at h
  split at h
  · obtain ⟨rfl, rfl, rfl, rfl, rfl, rfl, Z, hL, h⟩ := h
    rename_i B z
    have hK := hL.2.1
    have hIG := hL.2.2.2.1
    have hp8 := hL.2.2.2.2
    obtain ⟨t, ht, ht0, hW, hI⟩ := id hIG
    have hn := hW.2.1
    have hm24 := hW.2.2.2.1
    have e2 := hW.1
    have e3 := hW.2.2.1
    have G2 : ∀ {M'}, LZ B M' Z → M'.1 (B + 492) (2 : Int32).toNatClampNeg = nI (cn Z.1) := fun g => (rrg2 g.2.2.1).trans e2
    refine ⟨rfl, [
      (29, [true, true, true, true, true, true, true, true, true, false, false, false, false, false, false, false], fun n ls st M' => ∃ j k, n = 5 ∧ j < 100000 ∧ ((cn Z.1 = 0 ∧ k = 0) ∨ k < cn Z.1) ∧ ls = acL B z j k (none) (none) (none) (none) ∧ st = [] ∧ LZ B M' Z ∧ M'.2.2 ≤ 1),
      (92, [true, true, true, true, true, true, true, true, true, false, false, false, false, false, false, false], fun n ls st M' => ∃ j k, n = 4 ∧ j < 100000 ∧ ((cn Z.1 = 0 ∧ k = 0) ∨ k < cn Z.1) ∧ ls = acL B z j k (none) (none) (none) (none) ∧ st = [] ∧ LZ B M' Z ∧ M'.2.2 ≤ 2),
      (203, [true, true, true, true, true, true, true, true, true, false, false, false, false, false, false, false], fun n ls st M' => ∃ j k, n = 4 ∧ j < 100000 ∧ ((cn Z.1 = 0 ∧ k = 0) ∨ k < cn Z.1) ∧ ls = acL B z j k (none) (none) (none) (none) ∧ st = [] ∧ LZ B M' Z ∧ M'.2.2 ≤ 2),
      (273, [true, true, true, true, true, true, true, true, true, false, false, false, false, false, false, false], fun n ls st M' => ∃ j k, n = 4 ∧ j < 100000 ∧ ((cn Z.1 = 0 ∧ k = 0) ∨ k < cn Z.1) ∧ ls = acL B z j k (none) (none) (none) (none) ∧ st = [] ∧ LZ B M' Z ∧ M'.2.2 ≤ 2),
      (526, [true, true, true, true, true, true, true, true, true, false, false, false, false, false, false, false], fun n ls st M' => ∃ j k, n = 4 ∧ j < 100000 ∧ ((cn Z.1 = 0 ∧ k = 0) ∨ k < cn Z.1) ∧ ls = acL B z j k (none) (none) (none) (none) ∧ st = [] ∧ LZ B M' Z ∧ M'.2.2 ≤ 2),
      (557, [true, true, true, true, true, true, true, true, true, false, false, false, false, false, false, false], fun n ls st M' => ∃ j k, n = 4 ∧ j < 100000 ∧ ((cn Z.1 = 0 ∧ k = 0) ∨ k < cn Z.1) ∧ ls = acL B z j k (none) (none) (none) (none) ∧ st = [] ∧ LZ B M' Z ∧ M'.2.2 ≤ 2),
      (603, [true, true, true, true, true, true, true, true, true, false, false, false, false, false, false, false], fun n ls st M' => ∃ j k, n = 4 ∧ j < 100000 ∧ ((cn Z.1 = 0 ∧ k = 0) ∨ k < cn Z.1) ∧ ls = acL B z j k (none) (none) (none) (none) ∧ st = [] ∧ LZ B M' Z ∧ M'.2.2 ≤ 2),
      (349, [true, true, true, true, true, true, true, true, true, false, true, true, true, false, false, false], fun n ls st M' => ∃ j k a b c, n = 3 ∧ j < 100000 ∧ ((cn Z.1 = 0 ∧ k = 0) ∨ k < cn Z.1) ∧ a < 16 ∧ b < 16 ∧ 1 ≤ c ∧ c ≤ 999 ∧ ls = acL B z j k (some (.int (nI a))) (some (.int (nI b))) (some (.int (nI c))) (none) ∧ st = [] ∧ LZ B M' Z ∧ M'.2.2 ≤ 2),
      (364, [true, true, true, true, true, true, true, true, true, false, true, true, true, false, false, false], fun n ls st M' => ∃ j k a b c, n = 2 ∧ j < 100000 ∧ ((cn Z.1 = 0 ∧ k = 0) ∨ k < cn Z.1) ∧ a < 16 ∧ b < 16 ∧ 1 ≤ c ∧ c ≤ 999 ∧ ls = acL B z j k (some (.int (nI a))) (some (.int (nI b))) (some (.int (nI c))) (none) ∧ st = [] ∧ LZ B M' Z ∧ M'.2.2 ≤ 2),
      (626, [true, true, true, true, true, true, true, true, true, false, false, false, false, false, true, false], fun n ls st M' => ∃ j k i, n = 3 ∧ j < 100000 ∧ ((cn Z.1 = 0 ∧ k = 0) ∨ k < cn Z.1) ∧ i ≤ 200 ∧ ls = acL B z j k (none) (none) (none) (some (.int (nI i))) ∧ st = [] ∧ LZ B M' Z ∧ M'.2.2 ≤ 2)], ⟨300, ?_⟩, ?_⟩
    · refine And.intro (Nat.zero_le _) (Exists.intro 100000 (And.intro (by decide) (And.intro (by decide) (And.intro rfl (fun j hj => ?_)))))
      have st0 : ∀ w k, w = nI k → ((cn Z.1 = 0 ∧ k = 0) ∨ k < cn Z.1) → ∃ n, ∃ j' k', n = 5 ∧ j' < 100000 ∧ ((cn Z.1 = 0 ∧ k' = 0) ∨ k' < cn Z.1) ∧ ([some (.ref B), some (.ref (B + 492)), some (.ref (B + 493)), some (.ref (B + 494)), some (.ref (B + 495)), some (.ref (B + 496)), some (.int z), some (.int (nI j)), some (.int w), none, none, none, none, none, none, none] : fw_L) = acL B z j' k' none none none none ∧ ([] : List Value) = [] ∧ LZ B (M.1, M.2.1, 0 + 1) Z ∧ 0 + 1 ≤ 1 := by
        rintro w k rfl hk
        exact ⟨5, j, k, rfl, hj, hk, rfl, rfl, LZ_c hL, Nat.le_refl _⟩
      have g2 := G2 hL
      refine And.intro kd_492 (And.intro vrg2 (And.intro (fun h1 => ?_) (fun h1 => st0 _ 0 rfl (Or.inl ⟨?_, rfl⟩))))
      · have h1 : ¬ M.1 (B + 492) (2 : Int32).toNatClampNeg = 0 := h1
        have hc0 : 0 < cn Z.1 := by
          rcases Nat.eq_zero_or_pos (cn Z.1) with y | y
          · rw [g2, y] at h1; exact absurd rfl h1
          · exact y
        refine And.intro kd_492 (And.intro vrg2 (And.intro (fw_sd_i h1) (st0 _ (j % cn Z.1) ?_ (Or.inr (Nat.mod_lt _ hc0)))))
        show nI j - nI j / M.1 (B + 492) (2 : Int32).toNatClampNeg * M.1 (B + 492) (2 : Int32).toNatClampNeg = _
        rw [g2]
        exact pk_rem (by omega) hc0 (by omega)
      · have h1 : M.1 (B + 492) (2 : Int32).toNatClampNeg = nI 0 := h1
        rw [g2, nI_eq (by omega) (by decide)] at h1
        exact h1
    · intro r hr n ls st M' hi
      simp only [List.mem_cons, List.not_mem_nil, or_false] at hr
      rcases hr with rfl | rfl | rfl | rfl | rfl | rfl | rfl | rfl | rfl | rfl
      · obtain ⟨j, k, rfl, hj, hk, rfl, rfl, hX, hc⟩ := hi
        refine ⟨300, And.intro (Nat.le_trans hc (by decide)) (Exists.intro 16 (And.intro (by decide) (And.intro (by decide) (And.intro rfl (fun i hi => ?_)))))⟩
        have cs : ∃ n', n' < 5 ∧ ∃ j' k', n' = 4 ∧ j' < 100000 ∧ ((cn Z.1 = 0 ∧ k' = 0) ∨ k' < cn Z.1) ∧ acL B z j k none none none none = acL B z j' k' none none none none ∧ ([] : List Value) = [] ∧ LZ B (M'.1, M'.2.1, M'.2.2 + 1) Z ∧ M'.2.2 + 1 ≤ 2 :=
          ⟨4, by decide, j, k, rfl, hj, hk, rfl, rfl, LZ_c hX, by omega⟩
        exact And.intro (And.intro (fun _ => cs) (And.intro (fun _ => cs) (And.intro (fun _ => cs) (And.intro (fun _ => cs) (And.intro (fun _ => cs) (And.intro (fun _ => cs) (And.intro (fun _ => cs) (And.intro (fun _ => cs) (And.intro (fun _ => cs) (And.intro (fun _ => cs) trivial)))))))))) (fun _ => cs)
      · obtain ⟨j, k, rfl, hj, hk, rfl, rfl, hX, hc⟩ := hi
        have hR := hX.2.2.1
        have g2 := G2 hX
        have e16 : nI j - nI j / 16 * 16 = nI (j % 16) := pk_rem (d := 16) (by omega) (by decide) (by decide)
        have z16 : okN (nI (j % 16)) 0 15 = true := okN_n (a := 0) (b := 15) (Nat.zero_le _) (by have := Nat.mod_lt j (show 0 < 16 by decide); omega) (by decide)
        refine ⟨300, And.intro kd_492 (And.intro vrg2 (And.intro (fun h1 => ?_) (fun h1 => ?_)))⟩
        · have h1 : ¬ M'.1 (B + 492) (2 : Int32).toNatClampNeg = 6 := h1
          rw [g2, ← e2] at h1
          have hn6 : cn Z.1 < 6 := by
            rcases Nat.lt_or_ge (cn Z.1) 6 with y | y
            · exact y
            · exact absurd (by rw [e2, show cn Z.1 = 6 by omega]; rfl) h1
          have w1 := wrce (v := arN (nI j)) g2 hR hn6 rfl
          have x1 := (rrg2 w1).trans ((uC_lo (by decide)).trans e2)
          have w2 := wrc1e x1 w1 hn6 e16
          have x2 := (rrg2 w2).trans ((uC_lo (by decide)).trans ((uC_lo (by decide)).trans e2))
          have w3 := wrc2e (v := 0) x2 w2 hn6 rfl
          have x3 := (rrg2 w3).trans ((uC_lo (by decide)).trans ((uC_lo (by decide)).trans ((uC_lo (by decide)).trans e2)))
          refine And.intro kd_492 (And.intro vrg2 (And.intro (Nat.le_trans hc (by decide)) (And.intro kd_493 (And.intro (vrce g2 hn6) (And.intro kd_492 (And.intro vrg2 (And.intro (nz 16) (And.intro kd_493 (And.intro (vrc1e x1 hn6) (And.intro kd_492 (And.intro vrg2 (And.intro kd_493 (And.intro (vrc2e x2 hn6) (And.intro kd_492 (And.intro vrg2 ?_)))))))))))))))
          refine And.intro (show M'.2.2 + 1 ≤ 20 by omega) (And.intro rfl (Exists.intro _ (Exists.intro (cn Z.1) (And.intro w3 (And.intro hn6 (And.intro x3 (fun M1 a1 b1 => ?_)))))))
          have eS : upd (frS (uC (uC (uC Z.1 (cn Z.1) 0 (arN (nI j))) (cn Z.1) 1 (nI (j % 16))) (cn Z.1) 2 0) (cn Z.1)) 2 (frS (uC (uC (uC Z.1 (cn Z.1) 0 (arN (nI j))) (cn Z.1) 1 (nI (j % 16))) (cn Z.1) 2 0) (cn Z.1) 2 + 1) = addS Z.1 (arN (nI j)) (nI (j % 16)) := by
            rw [frS_lo (by decide), uC_lo (by decide), uC_lo (by decide), uC_lo (by decide)]
            rfl
          have w4 := arg2 (x := 1) a1
          rw [eS] at w4
          have hRC : RC B (fw_st M1 (B + 492) (2 : Int32).toNatClampNeg (M1.1 (B + 492) (2 : Int32).toNatClampNeg + 1)) Z := RC_hi hX.1 (fun b hb => by rw [st_o (by omega), b1.1 b (Or.inl hb)]; show (fw_st (fw_st (fw_st M' _ _ _) _ _ _) _ _ _).1 b = _; rw [st_o (by omega), st_o (by omega), st_o (by omega)])
          refine And.intro kd_492 (And.intro vrg2 (And.intro kd_492 (And.intro vrg2 (And.intro (show M'.2.2 + 1 + 1 ≤ 20 by omega) (And.intro (nz 16) (And.intro (show M'.2.2 + 1 + 1 + 1 ≤ 20 by omega) (And.intro rfl (Exists.intro Z (And.intro hRC (And.intro hK (fun M2 a2 b2 => ?_)))))))))))
          have eo := op_add (Z := Z) (ar_ok hj) z16 h1
          have a2 : RC B M2 (opAdd (arN (nI j)) (nI j - nI j / 16 * 16) Z).2.2 := a2
          rw [e16, eo] at a2
          have a2 : RC B M2 (phZ Z (addS Z.1 (arN (nI j)) (nI (j % 16)))) := a2
          have w5 : RW B M2 (addS Z.1 (arN (nI j)) (nI (j % 16))) := RW_cg w4 (fun b h1 _ => b2 b h1)
          have hK2 := KZ_add (ar := arN (nI j)) (z := nI (j % 16)) hK
          rw [eo] at hK2
          refine And.intro kd_492 (And.intro vrg2 (And.intro (fun y => absurd ?_ y) (fun _ => And.intro (Or.inr rfl) ⟨?_, ?_⟩)))
          · show hv (-100002) (-100003) (opAdd (arN (nI j)) (nI j - nI j / 16 * 16) Z) = M2.1 (B + 492) (2 : Int32).toNatClampNeg - 1
            rw [e16, eo, rrg2 w5]
            show Z.1 2 = (addS Z.1 (arN (nI j)) (nI (j % 16))) 2 - 1
            unfold addS
            rw [upd_s, Int32.add_sub_cancel]
          · exact h _ _ (LZ_new hIG hK2 a2 w5 (addS_lo (by decide) (by decide)) (fun t' g3 g4 => IV_add g4 g3 hn6) (by rw [pn_eq (addS_lo (by decide) (by decide))]; exact hp8))
          · show M'.2.2 + 1 + 1 + 1 + 1 ≤ 20
            omega
        · have h1 : M'.1 (B + 492) (2 : Int32).toNatClampNeg = 6 := h1
          rw [g2, ← e2] at h1
          refine And.intro (Nat.le_trans hc (by decide)) (And.intro (nz 16) (And.intro (show M'.2.2 + 1 ≤ 20 by omega) (And.intro rfl (Exists.intro Z (And.intro hX.1 (And.intro hK (fun M2 a2 b2 => ?_)))))))
          have eo := op_add_full (Z := Z) (ar_ok hj) z16 h1
          have a2 : RC B M2 (opAdd (arN (nI j)) (nI j - nI j / 16 * 16) Z).2.2 := a2
          rw [e16, eo] at a2
          refine And.intro (fun y => absurd ?_ y) (fun _ => And.intro (Or.inr rfl) ⟨?_, ?_⟩)
          · show hv (-100002) (-100003) (opAdd (arN (nI j)) (nI j - nI j / 16 * 16) Z) = -100003
            rw [e16, eo]
            rfl
          · exact h _ _ (LZ_to (Z' := Z) hX rfl a2 b2)
          · show M'.2.2 + 1 + 1 ≤ 20
            omega
      · obtain ⟨j, k, rfl, hj, hk, rfl, rfl, hX, hc⟩ := hi
        have hR := hX.2.2.1
        have g2 := G2 hX
        refine ⟨300, And.intro kd_492 (And.intro vrg2 (And.intro (fun h1 => ?_) (fun h1 => ?_)))⟩
        · have h1 : ¬ M'.1 (B + 492) (2 : Int32).toNatClampNeg = nI 0 := h1
          rw [g2, nI_eq (by omega) (by decide)] at h1
          have hkn : k < cn Z.1 := hk.elim (fun y => absurd y.1 h1) id
          have hk6 : k < 6 := by omega
          have e6 : nI j / 6 = nI (j / 6) := pk_div (d := 6) (by omega) (by decide) (by decide)
          have w1 := wrc (v := arN (nI j / 6)) (v' := arN (nI (j / 6))) hR hk6 (by rw [e6])
          have hRC : RC B (fw_st M' (B + 493) ((5 : Int32) * nI k).toNatClampNeg (arN (nI j / 6))) Z := RC_hi hX.1 (fun b hb => st_o (by omega))
          refine And.intro kd_493 (And.intro (vrc hk6) (And.intro (nz 6) (And.intro (Nat.le_trans hc (by decide)) (And.intro kd_493 (And.intro (vrc hk6) (And.intro (nz 6) (And.intro (show M'.2.2 + 1 ≤ 20 by omega) (And.intro (show M'.2.2 + 1 + 1 ≤ 20 by omega) (And.intro rfl (Exists.intro Z (And.intro hRC (And.intro hK (fun M2 a2 b2 => ?_)))))))))))))
          have eo := op_area (Z := Z) (k := k) hW hkn (ar_ok (j := j / 6) (by omega))
          have a2 : RC B M2 (opArea (nI k) (arN (nI j / 6)) Z).2.2 := a2
          rw [e6, eo] at a2
          have a2 : RC B M2 (phZ Z (uC Z.1 k 0 (arN (nI (j / 6))))) := a2
          have w2 : RW B M2 (uC Z.1 k 0 (arN (nI (j / 6)))) := RW_cg w1 (fun b h1 _ => b2 b h1)
          have hK2 := KZ_area (c := nI k) (ar := arN (nI (j / 6))) hK
          rw [eo] at hK2
          refine And.intro (fun y => absurd ?_ y) (fun _ => And.intro (Or.inr rfl) ⟨?_, ?_⟩)
          · show hv (-100001) (-100002) (opArea (nI k) (arN (nI j / 6)) Z) = M'.1 (B + 493) ((5 : Int32) * nI k).toNatClampNeg
            rw [e6, eo, rrc hR hk6]
            rfl
          · exact h _ _ (LZ_new hIG hK2 a2 w2 (uC_lo (by decide)) (fun t' g3 g4 => IV_area g4 g3 hkn) (by rw [pn_eq (uC_lo (by decide))]; exact hp8))
          · show M'.2.2 + 1 + 1 + 1 ≤ 20
            omega
        · have h1 : M'.1 (B + 492) (2 : Int32).toNatClampNeg = nI 0 := h1
          rw [g2, nI_eq (by omega) (by decide)] at h1
          refine And.intro (Nat.le_trans hc (by decide)) (And.intro rfl (Exists.intro Z (And.intro hX.1 (And.intro hK (fun M2 a2 b2 => ?_)))))
          have eo := op_area_no (Z := Z) (x := 0) (ar := 0) (cr_none hW (fun k hk => by omega))
          have a2 : RC B M2 (opArea 0 0 Z).2.2 := a2
          rw [eo] at a2
          refine And.intro (fun y => absurd ?_ y) (fun _ => And.intro (Or.inr rfl) ⟨?_, ?_⟩)
          · show hv (-100001) (-100002) (opArea 0 0 Z) = -100001
            rw [eo]
            rfl
          · exact h _ _ (LZ_to (Z' := Z) hX rfl a2 b2)
          · show M'.2.2 + 1 ≤ 20
            omega
      · obtain ⟨j, k, rfl, hj, hk, rfl, rfl, hX, hc⟩ := hi
        have hR := hX.2.2.1
        have l16 : ∀ x, x % 16 < 16 := fun x => Nat.mod_lt _ (by decide)
        have e16 : nI j - nI j / 16 * 16 = nI (j % 16) := pk_rem (d := 16) (by omega) (by decide) (by decide)
        have d16 : nI j / 16 = nI (j / 16) := pk_div (d := 16) (by omega) (by decide) (by decide)
        have f16 : nI (j / 16) - nI (j / 16) / 16 * 16 = nI (j / 16 % 16) := pk_rem (d := 16) (by omega) (by decide) (by decide)
        have d256 : nI j / 256 = nI (j / 256) := pk_div (d := 256) (by omega) (by decide) (by decide)
        have x0 : M'.1 (B + 492) (0 : Int32).toNatClampNeg = nI t := (rrg0 hR).trans ht0
        have key : ∀ a b w c, a = nI (j % 16) → b = nI (j / 16 % 16) → w = nI c → 1 ≤ c → c ≤ 999 → ∃ n', n' < 4 ∧ ∃ j' k' a' b' c', n' = 3 ∧ j' < 100000 ∧ ((cn Z.1 = 0 ∧ k' = 0) ∨ k' < cn Z.1) ∧ a' < 16 ∧ b' < 16 ∧ 1 ≤ c' ∧ c' ≤ 999 ∧ acL B z j k (some (.int a)) (some (.int b)) (some (.int w)) none = acL B z j' k' (some (.int (nI a'))) (some (.int (nI b'))) (some (.int (nI c'))) none ∧ ([] : List Value) = [] ∧ LZ B M' Z ∧ M'.2.2 ≤ 2 := by
          rintro a b w c rfl rfl rfl h1 h2
          exact ⟨3, by decide, j, k, j % 16, j / 16 % 16, c, rfl, hj, hk, l16 _, l16 _, h1, h2, rfl, rfl, hX, hc⟩
        have ea : nI j - nI j / 16 * 16 = nI (j % 16) := e16
        have eb : nI j / 16 - nI j / 16 / 16 * 16 = nI (j / 16 % 16) := by rw [d16]; exact f16
        have er : ∀ r, 0 < r → r < 2 ^ 31 → nI j / 256 - nI j / 256 / nI r * nI r = nI (j / 256 % r) := fun r h1 h2 => by rw [d256]; exact pk_rem (by omega) h1 h2
        have fin : ∀ w c, w = nI c → 1 ≤ c → c ≤ 2390 → (w ≤ 999 → ∃ n', n' < 4 ∧ ∃ j' k' a' b' c', n' = 3 ∧ j' < 100000 ∧ ((cn Z.1 = 0 ∧ k' = 0) ∨ k' < cn Z.1) ∧ a' < 16 ∧ b' < 16 ∧ 1 ≤ c' ∧ c' ≤ 999 ∧ acL B z j k (some (.int (nI j - nI j / 16 * 16))) (some (.int (nI j / 16 - nI j / 16 / 16 * 16))) (some (.int w)) none = acL B z j' k' (some (.int (nI a'))) (some (.int (nI b'))) (some (.int (nI c'))) none ∧ ([] : List Value) = [] ∧ LZ B M' Z ∧ M'.2.2 ≤ 2) ∧ (¬ w ≤ 999 → ∃ n', n' < 4 ∧ ∃ j' k' a' b' c', n' = 3 ∧ j' < 100000 ∧ ((cn Z.1 = 0 ∧ k' = 0) ∨ k' < cn Z.1) ∧ a' < 16 ∧ b' < 16 ∧ 1 ≤ c' ∧ c' ≤ 999 ∧ acL B z j k (some (.int (nI j - nI j / 16 * 16))) (some (.int (nI j / 16 - nI j / 16 / 16 * 16))) (some (.int 999)) none = acL B z j' k' (some (.int (nI a'))) (some (.int (nI b'))) (some (.int (nI c'))) none ∧ ([] : List Value) = [] ∧ LZ B M' Z ∧ M'.2.2 ≤ 2) := by
          rintro w c rfl h1 h2
          refine ⟨fun h3 => key _ _ _ c ea eb rfl h1 ?_, fun h3 => key _ _ _ 999 ea eb rfl (by decide) (Nat.le_refl _)⟩
          have h3 : nI c ≤ nI 999 := h3
          rw [n_ge (by omega) (by decide)] at h3
          exact h3
        have m390 : j / 256 % 390 < 390 := Nat.mod_lt _ (by decide)
        have m25 : j / 256 % 25 < 25 := Nat.mod_lt _ (by decide)
        refine ⟨300, And.intro (nz 16) (And.intro (nz 16) (And.intro (nz 16) (And.intro (nz 256) (And.intro (nz 3) (And.intro (fun _ => And.intro (nz 25) (And.intro (nz 2) (And.intro (fun _ => fin _ (1 + j / 256 % 25 + 0) ?_ (by omega) (by omega)) (fun _ => And.intro kd_492 (And.intro vrg0 (fin _ (1 + j / 256 % 25 + t) ?_ (by omega) (by omega))))))) (fun _ => And.intro (nz 390) (And.intro (nz 2) (And.intro (fun _ => fin _ (1 + j / 256 % 390 + 0) ?_ (by omega) (by omega)) (fun _ => And.intro kd_492 (And.intro vrg0 (fin _ (1 + j / 256 % 390 + t) ?_ (by omega) (by omega))))))))))))⟩
        · show 1 + (nI j / 256 - nI j / 256 / nI 25 * nI 25) + 0 = _
          rw [er 25 (by decide) (by decide), n1, n_add, show (0 : Int32) = nI 0 from rfl, n_add]
        · show 1 + (nI j / 256 - nI j / 256 / nI 25 * nI 25) + M'.1 (B + 492) (0 : Int32).toNatClampNeg = _
          rw [er 25 (by decide) (by decide), n1, n_add, x0, n_add]
        · show 1 + (nI j / 256 - nI j / 256 / nI 390 * nI 390) + 0 = _
          rw [er 390 (by decide) (by decide), n1, n_add, show (0 : Int32) = nI 0 from rfl, n_add]
        · show 1 + (nI j / 256 - nI j / 256 / nI 390 * nI 390) + M'.1 (B + 492) (0 : Int32).toNatClampNeg = _
          rw [er 390 (by decide) (by decide), n1, n_add, x0, n_add]
      · obtain ⟨j, k, rfl, hj, hk, rfl, rfl, hX, hc⟩ := hi
        have hR := hX.2.2.1
        have e101 : nI j - nI j / 101 * 101 = nI (j % 101) := pk_rem (d := 101) (by omega) (by decide) (by decide)
        have l101 : j % 101 < 101 := Nat.mod_lt _ (by decide)
        have w1 := wrg1 hR e101
        have x1 := rrg1 w1
        rw [upd_s] at x1
        have hRC : RC B (fw_st M' (B + 492) (1 : Int32).toNatClampNeg (nI j - nI j / 101 * 101)) Z := RC_hi hX.1 (fun b hb => st_o (by omega))
        refine ⟨300, And.intro kd_492 (And.intro vrg1 (And.intro (nz 101) (And.intro kd_492 (And.intro vrg1 (And.intro kd_492 (And.intro vrg1 (And.intro (Nat.le_trans hc (by decide)) (And.intro rfl (Exists.intro Z (And.intro hRC (And.intro hK (fun M2 a2 b2 => ?_))))))))))))⟩
        have eo := op_grace (Z := Z) (x := j % 101) (by omega)
        have a2 : RC B M2 (opGrace ((fw_st M' (B + 492) (1 : Int32).toNatClampNeg (nI j - nI j / 101 * 101)).1 (B + 492) (1 : Int32).toNatClampNeg) Z).2.2 := a2
        rw [x1, eo] at a2
        have a2 : RC B M2 (phZ Z (upd Z.1 1 (nI (j % 101)))) := a2
        have w2 : RW B M2 (upd Z.1 1 (nI (j % 101))) := RW_cg w1 (fun b h1 _ => b2 b h1)
        have hK2 := KZ_grace (g := nI (j % 101)) hK
        rw [eo] at hK2
        refine And.intro (fun y => absurd ?_ y) (fun _ => And.intro (Or.inr rfl) ⟨?_, ?_⟩)
        · show hv (-100002) 0 (opGrace ((fw_st M' (B + 492) (1 : Int32).toNatClampNeg (nI j - nI j / 101 * 101)).1 (B + 492) (1 : Int32).toNatClampNeg) Z) = M'.1 (B + 492) (1 : Int32).toNatClampNeg
          rw [x1, eo, rrg1 hR]
          rfl
        · exact h _ _ (LZ_new hIG hK2 a2 w2 (upd_n (by decide)) (fun t' g3 g4 => IV_grace g4 g3) (by rw [pn_eq (upd_n (by decide))]; exact hp8))
        · show M'.2.2 + 1 ≤ 20
          omega
      · obtain ⟨j, k, rfl, hj, hk, rfl, rfl, hX, hc⟩ := hi
        have hR := hX.2.2.1
        have g2 := G2 hX
        refine ⟨300, And.intro kd_492 (And.intro vrg2 (And.intro (fun h1 => ?_) (fun h1 => ?_)))⟩
        · have h1 : ¬ M'.1 (B + 492) (2 : Int32).toNatClampNeg = nI 0 := h1
          rw [g2, nI_eq (by omega) (by decide)] at h1
          have hkn : k < cn Z.1 := hk.elim (fun y => absurd y.1 h1) id
          refine And.intro (Nat.le_trans hc (by decide)) (And.intro rfl (Exists.intro Z (And.intro hX.1 (And.intro hK (fun M1 a1 b1 => ?_)))))
          have eo := op_drop (Z := Z) (k := k) hW hkn
          have a1 : RC B M1 (opDrop (nI k) Z).2.2 := a1
          rw [eo] at a1
          have a1 : RC B M1 (phZ Z (drS Z.1 k)) := a1
          have w1 : RW B M1 Z.1 := RW_cg hR (fun b h1 _ => b1 b h1)
          have hK2 := KZ_drop (c := nI k) hK
          rw [eo] at hK2
          refine And.intro (show M'.2.2 + 1 ≤ 20 by omega) (And.intro rfl (And.intro rfl (Exists.intro (6 * t) (Exists.intro Z.1 (Exists.intro k (And.intro w1 (And.intro hW (And.intro hp8 (And.intro hkn (And.intro rfl (fun M2 a2 b2 => ?_)))))))))))
          refine And.intro (fun y => absurd ?_ y) (fun _ => And.intro (Or.inr rfl) ⟨?_, ?_⟩)
          · show hv (-100001) 0 (opDrop (nI k) Z) = sC Z.1 k 4
            rw [eo]
            rfl
          · have hd0 : ∀ q, q < 7 → drS Z.1 k q = Z.1 q := fun q hq => by
              unfold drS
              split
              · rw [frS_lo hq, uP_lo (by omega)]
              · rw [frS_lo hq]
            exact h _ _ (LZ_new hIG hK2 (RC_hi a1 (fun b hb => b2.1 b (Or.inl hb))) a2 (hd0 0 (by decide)) (fun t' g3 g4 => IV_dr g4 g3 hkn) (by rw [pn_eq (hd0 3 (by decide))]; exact hp8))
          · show M'.2.2 + 1 + 1 ≤ 20
            omega
        · have h1 : M'.1 (B + 492) (2 : Int32).toNatClampNeg = nI 0 := h1
          rw [g2, nI_eq (by omega) (by decide)] at h1
          refine And.intro (Nat.le_trans hc (by decide)) (And.intro rfl (Exists.intro Z (And.intro hX.1 (And.intro hK (fun M2 a2 b2 => ?_)))))
          have eo := op_drop_no (Z := Z) (x := 0) (cr_none hW (fun k hk => by omega))
          have a2 : RC B M2 (opDrop 0 Z).2.2 := a2
          rw [eo] at a2
          refine And.intro (fun y => absurd ?_ y) (fun _ => And.intro (Or.inr rfl) ⟨?_, ?_⟩)
          · show hv (-100001) 0 (opDrop 0 Z) = -100001
            rw [eo]
            rfl
          · exact h _ _ (LZ_to (Z' := Z) hX rfl a2 b2)
          · show M'.2.2 + 1 ≤ 20
            omega
      · obtain ⟨j, k, rfl, hj, hk, rfl, rfl, hX, hc⟩ := hi
        have e60 : nI j - nI j / 60 * 60 = nI (j % 60) := pk_rem (d := 60) (by omega) (by decide) (by decide)
        have e6 : nI j - nI j / 6 * 6 = nI (j % 6) := pk_rem (d := 6) (by omega) (by decide) (by decide)
        have l60 : j % 60 < 60 := Nat.mod_lt _ (by decide)
        have l6 : j % 6 < 6 := Nat.mod_lt _ (by decide)
        have key : ∀ w i, w = nI i → i ≤ 200 → ∃ n', n' < 4 ∧ ∃ j' k' i', n' = 3 ∧ j' < 100000 ∧ ((cn Z.1 = 0 ∧ k' = 0) ∨ k' < cn Z.1) ∧ i' ≤ 200 ∧ acL B z j k none none none (some (.int w)) = acL B z j' k' none none none (some (.int (nI i'))) ∧ ([] : List Value) = [] ∧ LZ B M' Z ∧ M'.2.2 ≤ 2 := by
          rintro w i rfl hi
          exact ⟨3, by decide, j, k, i, rfl, hj, hk, hi, rfl, rfl, hX, hc⟩
        exact ⟨300, And.intro (nz 9) (And.intro (fun _ => And.intro (nz 6) (key _ (j % 6) e6 (by omega))) (fun _ => And.intro (nz 60) (key _ (j % 60) e60 (by omega))))⟩
      · obtain ⟨j, k, a, b, c, rfl, hj, hk, ha, hb, hc1, hc9, rfl, rfl, hX, hc⟩ := hi
        have hR := hX.2.2.1
        have y0 : M'.1 (B + 492) (3 : Int32).toNatClampNeg = nI (pn Z.1) := (rrg3 hR).trans e3
        have bad : ∃ n', n' < 3 ∧ ∃ j' k' a' b' c', n' = 2 ∧ j' < 100000 ∧ ((cn Z.1 = 0 ∧ k' = 0) ∨ k' < cn Z.1) ∧ a' < 16 ∧ b' < 16 ∧ 1 ≤ c' ∧ c' ≤ 999 ∧ acL B z j k (some (.int (nI a))) (some (.int (nI b))) (some (.int (nI c))) none = acL B z j' k' (some (.int (nI a'))) (some (.int (nI b'))) (some (.int (nI c'))) none ∧ ([] : List Value) = [] ∧ LZ B M' Z ∧ M'.2.2 ≤ 2 :=
          ⟨2, by decide, j, k, a, b, c, rfl, hj, hk, ha, hb, hc1, hc9, rfl, rfl, hX, hc⟩
        refine ⟨500, And.intro (fun _ => bad) (fun h1 => And.intro kd_492 (And.intro vrg3 (And.intro (fun h2 => ?_) (fun _ => bad))))⟩
        have h1 : ¬ nI a = nI b := h1
        rw [nI_eq (by omega) (by omega)] at h1
        have h2 : ¬ M'.1 (B + 492) (3 : Int32).toNatClampNeg = nI 8 := h2
        rw [y0, nI_eq (by omega) (by decide)] at h2
        have hq : pn Z.1 < 8 := by omega
        have d7 : nI j / 7 = nI (j / 7) := pk_div (d := 7) (by omega) (by decide) (by decide)
        have e7 : nI j / 7 - nI j / 7 / 1001 * 1001 = nI (j / 7 % 1001) := by rw [d7]; exact pk_rem (d := 1001) (by omega) (by decide) (by decide)
        have l7 : j / 7 % 1001 < 1001 := Nat.mod_lt _ (by decide)
        have w1 := wrpe (v := nI a) (v' := nI a) y0 hR hq rfl
        have y1 := (rrg3 w1).trans ((uP_lo (by decide)).trans e3)
        have w2 := wrp1e (v := nI b) (v' := nI b) y1 w1 hq rfl
        have y2 := (rrg3 w2).trans ((uP_lo (by decide)).trans ((uP_lo (by decide)).trans e3))
        have w3 := wrp2e (v := nI c) (v' := nI c) y2 w2 hq rfl
        have y3 := (rrg3 w3).trans ((uP_lo (by decide)).trans ((uP_lo (by decide)).trans ((uP_lo (by decide)).trans e3)))
        have w4 := wrp3e (v := nI j / 7 - nI j / 7 / 1001 * 1001) (v' := nI (j / 7 % 1001)) y3 w3 hq e7
        have y4 := (rrg3 w4).trans ((uP_lo (by decide)).trans ((uP_lo (by decide)).trans ((uP_lo (by decide)).trans ((uP_lo (by decide)).trans e3))))
        have w5 := wrp4e (v := 0) (v' := 0) y4 w4 hq rfl
        have y5 := (rrg3 w5).trans ((uP_lo (by decide)).trans ((uP_lo (by decide)).trans ((uP_lo (by decide)).trans ((uP_lo (by decide)).trans ((uP_lo (by decide)).trans e3)))))
        have w6 := wrp5e (v := nI a) (v' := nI a) y5 w5 hq rfl
        have y6 := (rrg3 w6).trans ((uP_lo (by decide)).trans ((uP_lo (by decide)).trans ((uP_lo (by decide)).trans ((uP_lo (by decide)).trans ((uP_lo (by decide)).trans ((uP_lo (by decide)).trans e3))))))
        have w7 := wrp6e (v := (-1)) (v' := (-1)) y6 w6 hq rfl
        have y7 := (rrg3 w7).trans ((uP_lo (by decide)).trans ((uP_lo (by decide)).trans ((uP_lo (by decide)).trans ((uP_lo (by decide)).trans ((uP_lo (by decide)).trans ((uP_lo (by decide)).trans ((uP_lo (by decide)).trans e3)))))))
        have w8 := wrp7e (v := 0) (v' := 0) y7 w7 hq rfl
        have y8 := (rrg3 w8).trans ((uP_lo (by decide)).trans ((uP_lo (by decide)).trans ((uP_lo (by decide)).trans ((uP_lo (by decide)).trans ((uP_lo (by decide)).trans ((uP_lo (by decide)).trans ((uP_lo (by decide)).trans ((uP_lo (by decide)).trans e3))))))))
        have w9 := arg3 (x := 1) w8
        rw [uP_lo (by decide), uP_lo (by decide), uP_lo (by decide), uP_lo (by decide), uP_lo (by decide), uP_lo (by decide), uP_lo (by decide), uP_lo (by decide)] at w9
        have w9 := com_rw hI hW hq w9
        have hRC : ∀ v1 v2 v3 v4 v5 v6 v7 v8 v9 i1 i2 i3 i4 i5 i6 i7 i8 i9, RC B (fw_st (fw_st (fw_st (fw_st (fw_st (fw_st (fw_st (fw_st (fw_st M' (B + 494) i1 v1) (B + 494) i2 v2) (B + 494) i3 v3) (B + 494) i4 v4) (B + 494) i5 v5) (B + 494) i6 v6) (B + 494) i7 v7) (B + 494) i8 v8) (B + 492) i9 v9) Z := fun v1 v2 v3 v4 v5 v6 v7 v8 v9 i1 i2 i3 i4 i5 i6 i7 i8 i9 => RC_hi hX.1 (fun b hb => by rw [st_o (by omega), st_o (by omega), st_o (by omega), st_o (by omega), st_o (by omega), st_o (by omega), st_o (by omega), st_o (by omega), st_o (by omega)])
        refine And.intro kd_492 (And.intro vrg3 (And.intro kd_494 (And.intro (vrpe y0 hq) (And.intro kd_492 (And.intro vrg3 (And.intro kd_494 (And.intro (vrp1e y1 hq) (And.intro kd_492 (And.intro vrg3 (And.intro kd_494 (And.intro (vrp2e y2 hq) (And.intro kd_492 (And.intro vrg3 (And.intro (nz 7) (And.intro (nz 1001) (And.intro kd_494 (And.intro (vrp3e y3 hq) (And.intro kd_492 (And.intro vrg3 (And.intro kd_494 (And.intro (vrp4e y4 hq) (And.intro kd_492 (And.intro vrg3 (And.intro kd_494 (And.intro (vrp5e y5 hq) (And.intro kd_492 (And.intro vrg3 (And.intro kd_494 (And.intro (vrp6e y6 hq) (And.intro kd_492 (And.intro vrg3 (And.intro kd_494 (And.intro (vrp7e y7 hq) ?_)))))))))))))))))))))))))))))))))
        refine And.intro kd_492 (And.intro vrg3 (And.intro kd_492 (And.intro vrg3 (And.intro (nz 7) (And.intro (nz 1001) (And.intro (Nat.le_trans hc (by decide)) (And.intro rfl (Exists.intro Z (And.intro (hRC _ _ _ _ _ _ _ _ _ _ _ _ _ _ _ _ _ _) (And.intro hK (fun M2 a2 b2 => ?_)))))))))))
        have eo := op_give (Z := Z) (a := a) (b := b) (k := c) (t := j / 7 % 1001) ha hb h1 hc1 hc9 (by omega) (ps_pn hW hp8)
        have a2 : RC B M2 (opGive (nI a) (nI b) (nI c) (nI j / 7 - nI j / 7 / 1001 * 1001) Z).2.2 := a2
        rw [e7, eo] at a2
        have a2 : RC B M2 (phZ Z (comS Z.1 (nI a) (nI b) (nI c) (nI (j / 7 % 1001)))) := a2
        have v2 : RW B M2 (comS Z.1 (nI a) (nI b) (nI c) (nI (j / 7 % 1001))) := RW_cg w9 (fun b h1 _ => b2 b h1)
        have hK2 := KZ_give (o := nI a) (g := nI b) (k := nI c) (t := nI (j / 7 % 1001)) hK
        rw [eo] at hK2
        refine And.intro kd_492 (And.intro vrg3 (And.intro (fun y => absurd ?_ y) (fun _ => And.intro (Or.inr rfl) ⟨?_, ?_⟩)))
        · show hv (-100002) (-100003) (opGive (nI a) (nI b) (nI c) (nI j / 7 - nI j / 7 / 1001 * 1001) Z) = M2.1 (B + 492) (3 : Int32).toNatClampNeg - 1
          rw [e7, eo, rrg3 v2]
          show Z.1 3 = (comS Z.1 (nI a) (nI b) (nI c) (nI (j / 7 % 1001))) 3 - 1
          unfold comS
          rw [upd_s, Int32.add_sub_cancel]
        · exact h _ _ (LZ_new hIG hK2 a2 v2 (com_lo (by decide) (by decide)) (fun t' g3 g4 => IV_com g4 g3 (by omega) ⟨a, b, ha, hb, h1, rfl, rfl⟩) (by rw [com_pn hW]; omega))
        · show M'.2.2 + 1 ≤ 20
          omega
      · obtain ⟨j, k, a, b, c, rfl, hj, hk, ha, hb, hc1, hc9, rfl, rfl, hX, hc⟩ := hi
        refine ⟨300, And.intro (Nat.le_trans hc (by decide)) (And.intro rfl (Exists.intro Z (And.intro hX.1 (And.intro hK (fun M2 a2 b2 => ?_)))))⟩
        have eo := op_give_no (Z := Z) (a := nI a) (k := nI c) (t := 1)
        have a2 : RC B M2 (opGive (nI a) (nI a) (nI c) 1 Z).2.2 := a2
        rw [eo] at a2
        refine And.intro (fun y => absurd ?_ y) (fun _ => And.intro (Or.inr rfl) ⟨?_, ?_⟩)
        · show hv (-100002) (-100003) (opGive (nI a) (nI a) (nI c) 1 Z) = -100002
          rw [eo]
          rfl
        · exact h _ _ (LZ_to (Z' := Z) hX rfl a2 b2)
        · show M'.2.2 + 1 ≤ 20
          omega
      · obtain ⟨j, k, i, rfl, hj, hk, hi2, rfl, rfl, hX, hc⟩ := hi
        have hR := hX.2.2.1
        have x0 : M'.1 (B + 492) (0 : Int32).toNatClampNeg = nI t := (rrg0 hR).trans ht0
        refine ⟨300, And.intro kd_492 (And.intro vrg0 (And.intro (fun h1 => ?_) (fun h1 => ?_)))⟩
        · have h1 : M'.1 (B + 492) (0 : Int32).toNatClampNeg + nI i ≤ nI 2000 := h1
          rw [x0, n_add, n_ge (by omega) (by decide)] at h1
          have eo := op_run (Z := Z) (n := i) hi2 ht0 ht h1
          have k3 : tkN Z.1 i 3 = nI (pn Z.1) := (tkN_lo (by decide) (by decide) i).trans e3
          have kp : pn (tkN Z.1 i) = pn Z.1 := pn_eq (tkN_lo (by decide) (by decide) i)
          refine And.intro (Nat.le_trans hc (by decide)) (And.intro rfl (And.intro rfl (Exists.intro Z.1 (And.intro hR (And.intro e3 (And.intro hp8 ?_))))))
          refine And.intro (show M'.2.2 + 1 ≤ 20 by omega) (And.intro rfl (And.intro rfl (And.intro rfl (And.intro rfl (And.intro rfl (Exists.intro (6 * t) (Exists.intro Z.1 (Exists.intro i (And.intro hR (And.intro hW (And.intro (by omega) (And.intro hp8 (And.intro hi2 (And.intro rfl (fun M1 a1 b1 => ?_)))))))))))))))
          refine And.intro (show M'.2.2 + 1 + 1 ≤ 20 by omega) (And.intro rfl (Exists.intro Z (And.intro (RC_hi hX.1 (fun b hb => b1.1 b (Or.inl hb))) (And.intro hK (fun M2 a2 b2 => ?_)))))
          have a2 : RC B M2 (opRun (nI i) Z).2.2 := a2
          rw [eo] at a2
          have a2 : RC B M2 (phZ Z (tkN Z.1 i)) := a2
          have w2 : RW B M2 (tkN Z.1 i) := RW_cg a1 (fun b h1 _ => b2 b h1)
          have hK2 := KZ_run (n := nI i) hK
          rw [eo] at hK2
          refine And.intro (show M'.2.2 + 1 + 1 + 1 ≤ 20 by omega) (And.intro rfl (And.intro rfl (Exists.intro (tkN Z.1 i) (And.intro w2 (And.intro (k3.trans (by rw [kp])) (And.intro (by rw [kp]; exact hp8) (And.intro (fun y => absurd ?_ y) (fun _ => And.intro (Or.inr rfl) ⟨?_, ?_⟩))))))))
          · show hv (-100002) (-100003) (opRun (nI i) Z) = inSt (tkN Z.1 i) 2 (pn (tkN Z.1 i)) - inSt Z.1 2 (pn Z.1)
            rw [eo, kp]
            rfl
          · have hG : GS (tkN Z.1 i) := hK2.1.1
            refine h _ _ ⟨a2, hK2, w2, ⟨t + i, h1, tkN_0 ht0 i, ?_, ?_⟩, by rw [show (phZ Z (tkN Z.1 i)).1 = tkN Z.1 i from rfl, kp]; exact hp8⟩
            · have := WF_tkN hW i
              rw [← Nat.mul_add] at this
              exact this
            · have := IV_tkN hI hW i (by omega)
              rw [← Nat.mul_add] at this
              exact this
          · show M'.2.2 + 1 + 1 + 1 + 1 ≤ 20
            omega
        · have h1 : ¬ M'.1 (B + 492) (0 : Int32).toNatClampNeg + nI i ≤ nI 2000 := h1
          rw [x0, n_add, n_ge (by omega) (by decide)] at h1
          have eo := op_run_no (Z := Z) (n := i) hi2 ht0 ht (by omega)
          refine And.intro (Nat.le_trans hc (by decide)) (And.intro rfl (Exists.intro Z (And.intro hX.1 (And.intro hK (fun M2 a2 b2 => ?_)))))
          have a2 : RC B M2 (opRun (nI i) Z).2.2 := a2
          rw [eo] at a2
          refine And.intro (fun y => absurd ?_ y) (fun _ => And.intro (Or.inr rfl) ⟨?_, ?_⟩)
          · show hv (-100002) (-100003) (opRun (nI i) Z) = -100003
            rw [eo]
            rfl
          · exact h _ _ (LZ_to (Z' := Z) hX rfl a2 b2)
          · show M'.2.2 + 1 ≤ 20
            omega
  · exact h.elim
end WLA

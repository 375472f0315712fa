/-! THE LAW'S OWN METHODS WALKED: does, its walk -/
section WLF
abbrev dL (B d : Nat) (v : Int32) (j : Int32) (o10 o11 : Option Value) : fw_L := [some (.ref (B + 492)), some (.ref (B + 493)), some (.ref (B + 494)), some (.ref (B + 495)), some (.ref (B + 496)), some (.int (nI d)), some (.int ((5 : Int32) * nI d)), none, some (.int v), some (.int j), o10, o11]
set_option maxRecDepth 100000 in
theorem wk_L_does (B : Nat) : fw_Wk B fl_L (cal_L_does B) [] [] none kL_does 12 (ct_L_does B) := by
  intro as M Q QX h
  unfold ct_L_does at h
  split at h
  · obtain ⟨rfl, rfl, rfl, rfl, rfl, b, S, d, hR, hW, hb, hpn, hdn, rfl, h⟩ := h
    have hn := hW.2.1
    have hd : d < 6 := by omega
    have e0 := rrc hR hd
    have e1 := rrc1 hR hd
    have e3 := rrc3 hR hd
    have e4 := rrc4 hR hd
    have e33 : M.1 (B + 492) (3 : Int32).toNatClampNeg = nI (pn S) := (rrg3 hR).trans hW.2.2.1
    have e22 : M.1 (B + 492) (2 : Int32).toNatClampNeg = nI (cn S) := (rrg2 hR).trans hW.1
    refine ⟨rfl, [
      (285, [true, true, true, true, true, true, true, false, true, true, false, false], fun n ls st M' => ∃ i v, n = 20 * i + 12 ∧ i ≤ pn S ∧ actS S d = chS S d ∧ BP S d i (pn S) v ∧ ls = dL B d v (nI i - 1) none none ∧ st = [] ∧ M' = M),
      (324, [true, true, true, true, true, true, true, false, true, true, true, true], fun n ls st M' => ∃ j o v, n = 20 * j + 13 + (6 - o) ∧ j < pn S ∧ o ≤ cn S ∧ actS S d = chS S d ∧ BP S d (j + 1) (pn S) v ∧ ls = dL B d v (nI j) (some (.int (bi (decide (sP S j 4 = 0) && suit S j d && !(asked S j d o))))) (some (.int (nI o))) ∧ st = [] ∧ M' = M)], ⟨300, ?_⟩, ?_⟩
    · -- the choosing begins
      have st0 : actS S d = chS S d → ∀ w, w = nI (pn S) - 1 → ∃ n, ∃ i v, n = 20 * i + 12 ∧ i ≤ pn S ∧ actS S d = chS S d ∧ BP S d i (pn S) v ∧ dL B d (-1) w none none = dL B d v (nI i - 1) none none ∧ ([] : List Value) = [] ∧ M = M := by
        rintro ea w rfl
        exact ⟨20 * pn S + 12, pn S, -1, rfl, Nat.le_refl _, ea, Or.inl ⟨rfl, fun p h1 h2 => by omega⟩, rfl, rfl, rfl⟩
      refine And.intro kd_493 (And.intro (vrc4 hd) (And.intro kd_493 (And.intro (vrc3 hd) (And.intro (fun h1 => ?_) (fun h1 => ?_)))))
      · have h1 : ¬ M.1 (B + 493) ((5 : Int32) * nI d + 3).toNatClampNeg = 2 := h1
        rw [e3] at h1
        refine And.intro kd_493 (And.intro (vrc3 hd) (And.intro (fun h2 => ?_) (fun h2 => ?_)))
        · have h2 : ¬ M.1 (B + 493) ((5 : Int32) * nI d + 3).toNatClampNeg = 1 := h2
          rw [e3] at h2
          refine And.intro kd_492 (And.intro vrg3 (st0 ?_ _ ?_))
          · unfold actS; rw [if_neg h1, if_neg (fun y => h2 y.1)]
          · show M.1 (B + 492) (3 : Int32).toNatClampNeg - 1 = _
            rw [e33]
        · have h2 : M.1 (B + 493) ((5 : Int32) * nI d + 3).toNatClampNeg = 1 := h2
          rw [e3] at h2
          obtain ⟨q, hqn, eq, eq2⟩ := WF_with hW hdn (by rw [h2]; decide)
          have hq : q < 8 := by omega
          have ex := e4.trans eq
          refine And.intro kd_494 (And.intro (vrp4e ex hq) (And.intro (fun h3 => ?_) (fun h3 => ?_)))
          · have h3 : ¬ M.1 (B + 494) ((8 : Int32) * M.1 (B + 493) ((5 : Int32) * nI d + 4).toNatClampNeg + 4).toNatClampNeg = 0 := h3
            rw [rrp4e ex hR hq] at h3
            refine And.intro kd_492 (And.intro vrg3 (st0 ?_ _ ?_))
            · unfold actS; rw [if_neg h1, if_neg (fun y => h3 (by have := y.2; rw [eq2] at this; exact this))]
            · show M.1 (B + 492) (3 : Int32).toNatClampNeg - 1 = _
              rw [e33]
          · have h3 : M.1 (B + 494) ((8 : Int32) * M.1 (B + 493) ((5 : Int32) * nI d + 4).toNatClampNeg + 4).toNatClampNeg = 0 := h3
            rw [rrp4e ex hR hq] at h3
            have ego : actS S d = goS S d q := by unfold actS; rw [if_neg h1, if_pos ⟨h2, by rw [eq2]; exact h3⟩, eq2]
            rw [ego] at h
            obtain ⟨z, hz, ez⟩ := (hW.2.2.2.2.1 d hdn).1
            obtain ⟨-, -, -, -, ⟨y, hy, ey⟩, -⟩ := hW.2.2.2.2.2.2 q hqn
            unfold goS at h
            refine And.intro kd_493 (And.intro (vrc1 hd) (And.intro kd_494 (And.intro (vrp5e ex hq) (And.intro (fun h4 => And.intro (fun _ => And.intro kd_493 (And.intro (vrc3 hd) (And.intro (fun _ => And.intro kd_494 (And.intro (vrp4e ex hq) (And.intro kd_492 (And.intro vrg5 (And.intro (fun _ => And.intro kd_492 (And.intro vrg5 (And.intro kd_493 (And.intro (vrc1 hd) (And.intro kd_494 (And.intro (vrp5e ex hq) ?_)))))) (fun z => absurd rfl z)))))) (fun z => absurd rfl z)))) (fun z => absurd rfl z)) (fun h4 => And.intro (fun z => absurd z (by decide)) (fun _ => And.intro kd_493 (And.intro (vrc3 hd) (And.intro (fun z => absurd z (by decide)) (fun _ => And.intro kd_494 (And.intro (vrp4e ex hq) (And.intro kd_492 (And.intro vrg5 (And.intro (fun z => absurd z (by decide)) (fun _ => And.intro kd_492 (And.intro vrg5 (And.intro kd_493 (And.intro (vrc1 hd) (And.intro kd_494 (And.intro (vrp5e ex hq) ?_)))))))))))))))))))
            · have h4 : ¬ M.1 (B + 493) ((5 : Int32) * nI d + 1).toNatClampNeg = M.1 (B + 494) ((8 : Int32) * M.1 (B + 493) ((5 : Int32) * nI d + 4).toNatClampNeg + 5).toNatClampNeg := h4
              rw [e1, rrp5e ex hR hq] at h4
              rw [if_neg h4] at h
              have a4 := wrp4e (v := 0) ex (wrc3 (v := 1) hR hd rfl) hq rfl
              rw [uC_self h2, uP_self h3] at a4
              have a5 := arg5 (x := 1) a4
              have f1 := rrc1 a5 hd
              have f5 := rrp5e ex a5 hq
              rw [gCu (by decide)] at f1
              rw [gPu (by decide)] at f5
              refine Exists.intro z (Exists.intro y (And.intro hz (And.intro hy (And.intro (f1.trans ez) (And.intro (f5.trans ey) (And.intro kd_493 (And.intro (vrc1 hd) ?_)))))))
              refine h _ ?_ (FL_s (FL_s (FL_s (FL_s FL_id))))
              have a6 := wrc1 (v' := nxz (sC S d 1) (sP S q 5)) a5 hd (congr (congrArg nxz f1) f5)
              unfold uC at a6 ⊢
              rw [upd_comm (by omega)]
              exact a6
            · have h4 : M.1 (B + 493) ((5 : Int32) * nI d + 1).toNatClampNeg = M.1 (B + 494) ((8 : Int32) * M.1 (B + 493) ((5 : Int32) * nI d + 4).toNatClampNeg + 5).toNatClampNeg := h4
              rw [e1, rrp5e ex hR hq] at h4
              rw [if_pos h4] at h
              have a4 := wrp4e (v := 1) ex (wrc3 (v := 2) hR hd rfl) hq rfl
              have a5 := arg5 (x := 0) a4
              rw [upd_me (Int32.add_zero _).symm] at a5
              have f1 := rrc1 a5 hd
              have f5 := rrp5e ex a5 hq
              rw [gCP hd (by decide), gCC (by decide) (by decide), if_neg (by omega)] at f1
              rw [gPP (by decide) (by decide), if_neg (by omega), gPC hd (by decide)] at f5
              refine Exists.intro z (Exists.intro y (And.intro hz (And.intro hy (And.intro (f1.trans ez) (And.intro (f5.trans ey) (And.intro kd_493 (And.intro (vrc1 hd) ?_)))))))
              refine h _ ?_ (FL_s (FL_s (FL_s (FL_s FL_id))))
              have a6 := wrc1 (v' := sC S d 1) a5 hd ((congr (congrArg nxz f1) (f5.trans h4.symm)).trans nxz_same)
              rw [uC_self (by rw [gCP hd (by decide), gCC (by decide) (by decide), if_neg (by omega)])] at a6
              exact a6
      · have h1 : M.1 (B + 493) ((5 : Int32) * nI d + 3).toNatClampNeg = 2 := h1
        rw [e3] at h1
        obtain ⟨q, hqn, eq, eq2⟩ := WF_with hW hdn (by rw [h1]; decide)
        have hq : q < 8 := by omega
        have ex := e4.trans eq
        have eca : actS S d = carS S d q := by unfold actS; rw [if_pos h1, eq2]
        rw [eca] at h
        obtain ⟨z, hz, ez⟩ := (hW.2.2.2.2.1 d hdn).1
        obtain ⟨⟨o, t, -, ht, -, -, et⟩, -⟩ := hW.2.2.2.2.2.2 q hqn
        have x1 := rrp1e ex hR hq
        obtain ⟨y, hy, ey⟩ := nxz_in z hz t ht
        have en : nxz (sC S d 1) (sP S q 1) = nI y := by rw [ez, et]; exact ey
        have eZ : nxz (M.1 (B + 493) ((5 : Int32) * nI d + 1).toNatClampNeg) (M.1 (B + 494) ((8 : Int32) * M.1 (B + 493) ((5 : Int32) * nI d + 4).toNatClampNeg + 1).toNatClampNeg) = nI y := by rw [e1, x1]; exact en
        unfold carS at h
        rw [en] at h
        refine And.intro kd_493 (And.intro (vrc1 hd) (And.intro kd_494 (And.intro (vrp1e ex hq) (Exists.intro z (Exists.intro t (And.intro hz (And.intro ht (And.intro (e1.trans ez) (And.intro (x1.trans et) (And.intro kd_493 (And.intro (vrc hd) (And.intro (fun h2 => ?_) (fun h2 => ?_)))))))))))))
        · have h2 : ¬ bi (hs (M.1 (B + 493) ((5 : Int32) * nI d).toNatClampNeg) (nxz (M.1 (B + 493) ((5 : Int32) * nI d + 1).toNatClampNeg) (M.1 (B + 494) ((8 : Int32) * M.1 (B + 493) ((5 : Int32) * nI d + 4).toNatClampNeg + 1).toNatClampNeg))) = 0 := h2
          rw [bi_n0, e0, eZ] at h2
          rw [if_pos h2] at h
          have s3 := arle (y := 1) ex (wrp5e ex (wrc1 hR hd eZ) hq eZ) hq hd
          have s4 := arg5 (x := 1) s3
          rw [gPP (by omega) (by decide), if_neg (by omega), gPC hd (by decide), uP_lo (by decide), uP_lo (by decide), uC_lo (by decide), leg_cm] at s4
          have s4 : RW B _ (legS S d q (nI y)) := s4
          have y1 := rrp1e ex s4 hq
          rw [legS_P hd (by decide), if_neg (by omega), if_neg (by omega)] at y1
          refine And.intro kd_493 (And.intro (vrc1 hd) (And.intro kd_494 (And.intro (vrp5e ex hq) (And.intro kd_495 (And.intro (vrle ex hq hd) (And.intro kd_495 (And.intro (vrle ex hq hd) (And.intro kd_492 (And.intro vrg5 (And.intro kd_492 (And.intro vrg5 (And.intro kd_494 (And.intro (vrp1e ex hq) (And.intro (fun h3 => ?_) (fun h3 => ?_)))))))))))))))
          · have h3 : ¬ nI y = sP S q 1 := fun w => h3 (eZ.trans (w.trans y1.symm))
            rw [if_neg h3] at h
            exact h _ s4 (FL_s (FL_s (FL_s (FL_s FL_id))))
          · have h3 : nI y = sP S q 1 := eZ.symm.trans (h3.trans y1)
            rw [if_pos h3] at h
            have hWl := WF_leg hW hdn h1 eq hqn hy
            have hLG := LG_lg hb hW hdn h1 eq hqn hy
            obtain ⟨k, hk, ek⟩ := pay_n (hWl.2.2.2.2.2.2 q (by rw [pn_eq (legS_lo (by decide))]; exact hqn))
            refine And.intro rfl (And.intro rfl (And.intro rfl (And.intro rfl (And.intro rfl (Exists.intro (legS S d q (nI y)) (Exists.intro q (Exists.intro k (And.intro s4 (And.intro hWl.1 (And.intro hWl.2.1 (And.intro hq (And.intro ex (And.intro hLG (And.intro hk (And.intro ek (fun M' g1 g2 => ?_))))))))))))))))
            refine And.intro rfl (Exists.intro _ (Exists.intro d (And.intro g1 (And.intro hd (And.intro rfl (fun M'' g3 g4 => ?_))))))
            exact h M'' g3 (FL_tr (FL_tr (FL_s (FL_s (FL_s (FL_s FL_id)))) g2) g4)
        · have h2 : bi (hs (M.1 (B + 493) ((5 : Int32) * nI d).toNatClampNeg) (nxz (M.1 (B + 493) ((5 : Int32) * nI d + 1).toNatClampNeg) (M.1 (B + 494) ((8 : Int32) * M.1 (B + 493) ((5 : Int32) * nI d + 4).toNatClampNeg + 1).toNatClampNeg))) = 0 := h2
          rw [bi_0, e0, eZ] at h2
          rw [if_neg (by rw [h2]; decide)] at h
          have s2 := arg4 (x := 1) (wrp4e (v := 0) ex hR hq rfl)
          rw [uP_lo (by decide)] at s2
          refine And.intro kd_494 (And.intro (vrp4e ex hq) (And.intro kd_492 (And.intro vrg4 (And.intro kd_492 (And.intro vrg4 (And.intro rfl (Exists.intro _ (Exists.intro d (And.intro s2 (And.intro hd (And.intro rfl (fun M' g1 g2 => ?_))))))))))))
          exact h M' g1 (FL_tr (FL_s (FL_s FL_id)) g2)
    · intro r hr n ls st M' hi
      simp only [List.mem_cons, List.not_mem_nil, or_false] at hr
      rcases hr with rfl | rfl
      · obtain ⟨i, v, rfl, hi, ea, hB, rfl, rfl, rfl⟩ := hi
        rw [ea] at h
        cases i with
        | zero =>
          refine ⟨100, And.intro (fun _ => ?_) (fun z => absurd (by decide) z)⟩
          have ev : v = chB S d (pn S) := BP_one hB (BP_ch (pn S) hW.2.2.2.1)
          unfold chS at h
          rw [← ev] at h
          refine And.intro (fun h2 => And.intro kd_493 (And.intro (vrc3 hd) (And.intro kd_493 (And.intro (vrc4 hd) ?_)))) (fun h2 => And.intro kd_493 (And.intro (vrc3 hd) (And.intro kd_493 (And.intro (vrc4 hd) ?_))))
          · have h2 : (0 : Int32) ≤ v := h2
            rw [if_neg (fun e => by rw [e] at h2; exact absurd h2 (by decide))] at h
            exact h _ (wrc4 (wrc3 hR hd rfl) hd rfl) (FL_s (FL_s FL_id))
          · have h2 : ¬ (0 : Int32) ≤ v := h2
            have e : v = -1 := by
              rcases hB with ⟨e, -⟩ | ⟨q', -, h3, e, -⟩
              · exact e
              · rw [e] at h2
                exact absurd ((n_ge (a := 0) (b := q') (by decide) (by omega)).mpr (Nat.zero_le _)) h2
            rw [if_pos e] at h
            exact h _ (wrc4 (wrc3 hR hd rfl) hd rfl) (FL_s (FL_s FL_id))
        | succ j =>
          have hj : j < 8 := by omega
          have hjn : j < pn S := by omega
          have f4 := rrp4 hR hj
          have key : ∀ w, w = bi (decide (sP S j 4 = 0) && suit S j d && !(asked S j d 0)) → ∃ n', n' < 20 * (j + 1) + 12 ∧ ∃ j' o v', n' = 20 * j' + 13 + (6 - o) ∧ j' < pn S ∧ o ≤ cn S ∧ actS S d = chS S d ∧ BP S d (j' + 1) (pn S) v' ∧ dL B d v (nI j) (some (.int w)) (some (.int 0)) = dL B d v' (nI j') (some (.int (bi (decide (sP S j' 4 = 0) && suit S j' d && !(asked S j' d o))))) (some (.int (nI o))) ∧ ([] : List Value) = [] ∧ M' = M' := by
            rintro w rfl
            exact ⟨20 * j + 13 + (6 - 0), by omega, j, 0, v, rfl, hjn, Nat.zero_le _, ea, hB, rfl, rfl, rfl⟩
          rw [nI_pm]
          refine ⟨100, And.intro (fun z => ?_) (fun _ => And.intro kd_494 (And.intro (vrp4 hj) (And.intro (fun h2 => key _ ?_) (fun h2 => And.intro rfl (And.intro rfl (Exists.intro b (Exists.intro S (Exists.intro d (Exists.intro j (And.intro hR (And.intro hW (And.intro hdn (And.intro hjn (And.intro hj (And.intro rfl (And.intro rfl (And.intro (fun h3 => key _ ?_) (fun h3 => key _ ?_))))))))))))))))))⟩
          · have z : nI j < nI 0 := z
            rw [n_lt (by omega) (by decide)] at z
            omega
          · have h2 : ¬ M'.1 (B + 494) ((8 : Int32) * nI j + 4).toNatClampNeg = 0 := h2
            rw [f4] at h2
            rw [decide_eq_false h2]
            rfl
          · have h2 : M'.1 (B + 494) ((8 : Int32) * nI j + 4).toNatClampNeg = 0 := h2
            have h3 : suit S j d = false := bi_0.mp h3
            rw [f4] at h2
            rw [h3, decide_eq_true h2]
            rfl
          · have h2 : M'.1 (B + 494) ((8 : Int32) * nI j + 4).toNatClampNeg = 0 := h2
            have h3 : suit S j d = true := bi_n0.mp h3
            rw [f4] at h2
            rw [h3, decide_eq_true h2]
            rfl
      · obtain ⟨j, o, v, rfl, hjn, ho, ea, hB, rfl, rfl, rfl⟩ := hi
        have hj : j < 8 := by omega
        have f2 := rrp2 hR hj
        have hm24 := hW.2.2.2.1
        -- on to the next parcel
        have nxt : ∀ w, BP S d j (pn S) w → ∃ n', n' < 20 * j + 13 + (6 - o) ∧ ∃ i v', n' = 20 * i + 12 ∧ i ≤ pn S ∧ actS S d = chS S d ∧ BP S d i (pn S) v' ∧ dL B d w (nI j + (-1)) none none = dL B d v' (nI i - 1) none none ∧ ([] : List Value) = [] ∧ M' = M' := by
          intro w hw
          exact ⟨20 * j + 12, by omega, j, w, rfl, by omega, ea, hw, by rw [nI_dn], rfl, rfl⟩
        refine ⟨200, And.intro kd_492 (And.intro vrg2 (And.intro (fun h1 => ?_) (fun h1 => ?_)))⟩
        · have h1 : M'.1 (B + 492) (2 : Int32).toNatClampNeg ≤ nI o := h1
          rw [e22, n_ge (by omega) (by omega)] at h1
          have eo : o = cn S := by omega
          subst eo
          refine And.intro (fun h2 => nxt _ ?_) (fun h2 => ?_)
          · exact BP_no hB (bi_0.mp h2)
          · have hmay : may S d j = true := bi_n0.mp h2
            refine And.intro (fun h3 => nxt _ ?_) (fun h3 => ?_)
            · exact BP_yes hB hm24 hjn hmay (Or.inl h3)
            · obtain ⟨q, rfl, hqn⟩ := BP_neg hB hm24 h3
              have hq : q < 8 := by omega
              refine And.intro kd_494 (And.intro (vrp2 hj) (And.intro kd_494 (And.intro (vrp2 hq) (And.intro (fun h4 => nxt _ ?_) (fun h4 => nxt _ ?_)))))
              · have h4 : M'.1 (B + 494) ((8 : Int32) * nI q + 2).toNatClampNeg < M'.1 (B + 494) ((8 : Int32) * nI j + 2).toNatClampNeg := h4
                rw [f2, rrp2 hR hq] at h4
                exact BP_keep hB hm24 (by omega) hmay h4
              · have h4 : ¬ M'.1 (B + 494) ((8 : Int32) * nI q + 2).toNatClampNeg < M'.1 (B + 494) ((8 : Int32) * nI j + 2).toNatClampNeg := h4
                rw [f2, rrp2 hR hq] at h4
                exact BP_yes hB hm24 hjn hmay (Or.inr ⟨q, rfl, by omega, h4⟩)
        · have h1 : ¬ M'.1 (B + 492) (2 : Int32).toNatClampNeg ≤ nI o := h1
          rw [e22, n_ge (by omega) (by omega)] at h1
          have ho6 : o < 6 := by omega
          have g3 := rrc3 hR ho6
          have g4 := rrc4 hR ho6
          have key : ∀ w, w = bi (decide (sP S j 4 = 0) && suit S j d && !(asked S j d (o + 1))) → ∃ n', n' < 20 * j + 13 + (6 - o) ∧ ∃ j' o' v', n' = 20 * j' + 13 + (6 - o') ∧ j' < pn S ∧ o' ≤ cn S ∧ actS S d = chS S d ∧ BP S d (j' + 1) (pn S) v' ∧ dL B d v (nI j) (some (.int w)) (some (.int (nI o + 1))) = dL B d v' (nI j') (some (.int (bi (decide (sP S j' 4 = 0) && suit S j' d && !(asked S j' d o'))))) (some (.int (nI o'))) ∧ ([] : List Value) = [] ∧ M' = M' := by
            rintro w rfl
            exact ⟨20 * j + 13 + (6 - (o + 1)), by omega, j, o + 1, v, rfl, hjn, by omega, ea, hB, by rw [nI_1], rfl, rfl⟩
          have asz : asked S j d (o + 1) = (asked S j d o || (decide (o ≠ d) && decide (sC S o 3 = 1) && decide (sC S o 4 = nI j))) := rfl
          refine And.intro (fun h2 => key _ ?_) (fun h2 => And.intro (fun h3 => key _ ?_) (fun h3 => And.intro kd_493 (And.intro (vrc3 ho6) (And.intro (fun h4 => key _ ?_) (fun h4 => And.intro kd_493 (And.intro (vrc4 ho6) (And.intro (fun h5 => key _ ?_) (fun h5 => key _ ?_))))))))
          · have h2 := bi_0.mp h2
            rw [asz]
            show (0 : Int32) = _
            cases hA : asked S j d o with
            | true => simp [bi]
            | false =>
              rw [hA, Bool.not_false, Bool.and_true] at h2
              rw [h2]; rfl
          · have h2 := bi_n0.mp h2
            have h3 : nI o = nI d := h3
            rw [nI_eq (by omega) (by omega)] at h3
            rw [asz, show decide (o ≠ d) = false from decide_eq_false (fun y => y h3), Bool.false_and, Bool.false_and, Bool.or_false, h2]
            rfl
          · have h2 := bi_n0.mp h2
            have h4 : ¬ M'.1 (B + 493) ((5 : Int32) * nI o + 3).toNatClampNeg = 1 := h4
            rw [g3] at h4
            rw [asz, decide_eq_false h4, Bool.and_false, Bool.false_and, Bool.or_false, h2]
            rfl
          · have h3 : ¬ nI o = nI d := h3
            rw [nI_eq (by omega) (by omega)] at h3
            have h4 : M'.1 (B + 493) ((5 : Int32) * nI o + 3).toNatClampNeg = 1 := h4
            have h5 : M'.1 (B + 493) ((5 : Int32) * nI o + 4).toNatClampNeg = nI j := h5
            rw [g3] at h4
            rw [g4] at h5
            rw [asz, decide_eq_true h3, decide_eq_true h4, decide_eq_true h5]
            simp [bi]
          · have h2 := bi_n0.mp h2
            have h5 : ¬ M'.1 (B + 493) ((5 : Int32) * nI o + 4).toNatClampNeg = nI j := h5
            rw [g4] at h5
            rw [asz, decide_eq_false h5, Bool.and_false, Bool.or_false, h2]
            rfl
  · exact h.elim
end WLF

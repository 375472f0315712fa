/-! THE LAW'S OWN METHODS WALKED: pays -/
section WLP
theorem RW_eq {B : Nat} {M : fw_M} {S S' : Sx} (h : RW B M S) (e1 : ∀ k, k < 7 → S' k = S k) (e2 : ∀ c w, c < 6 → w < 5 → sC S' c w = sC S c w) (e3 : ∀ m w, m < 8 → w < 20 → sP S' m w = sP S m w) : RW B M S' := by
  obtain ⟨h1, h2, h3, h4, h5⟩ := h
  exact ⟨fun k hk => by rw [e1 k hk]; exact h1 k hk, fun c w hc hw => by rw [e2 c w hc hw]; exact h2 c w hc hw, fun m w hm hw => by rw [e3 m w hm (by omega)]; exact h3 m w hm hw, fun m w hm hw => by rw [e3 m _ hm (by omega)]; exact h4 m w hm hw, fun m w hm hw => by rw [e3 m _ hm (by omega)]; exact h5 m w hm hw⟩
def hW (S : Sx) (q : Nat) (f : Nat → Int32) : Nat → Sx
  | 0 => S
  | i + 1 => uP (hW S q f i) q (14 + i) (f i)
theorem hW_lo {S : Sx} {q k : Nat} {f : Nat → Int32} (hk : k < 7) : ∀ i, hW S q f i k = S k := by
  intro i
  induction i with
  | zero => rfl
  | succ i ih => unfold hW; rw [uP_lo (by omega), ih]
theorem hW_C {S : Sx} {q d w : Nat} {f : Nat → Int32} (hd : d < 6) (hw : w < 5) : ∀ i, sC (hW S q f i) d w = sC S d w := by
  intro i
  induction i with
  | zero => rfl
  | succ i ih => unfold hW; rw [gCP hd hw, ih]
theorem hW_P {S : Sx} {q m w : Nat} {f : Nat → Int32} (hw : w < 20) : ∀ i, i ≤ 6 → sP (hW S q f i) m w = if m = q ∧ 14 ≤ w ∧ w < 14 + i then f (w - 14) else sP S m w := by
  intro i
  induction i with
  | zero => intro _; rw [if_neg (by omega)]; rfl
  | succ i ih =>
    intro hi
    unfold hW
    rw [gPP hw (by omega), ih (by omega)]
    by_cases e : m = q ∧ w = 14 + i
    · rw [if_pos e, if_pos (by omega), e.2, Nat.add_sub_cancel_left]
    · rw [if_neg e]
      by_cases e2 : m = q ∧ 14 ≤ w ∧ w < 14 + i
      · rw [if_pos e2, if_pos (by omega)]
      · rw [if_neg e2, if_neg (by omega)]
def gT (S : Sx) (q : Nat) (m : Int32) : Nat → Sx
  | 0 => hW S q (shq S q m) 6
  | i + 1 => uC (uP (gT S q m i) q (14 + i) (fsh S q m i)) i 2 (sC S i 2 + (if i < cn S then fsh S q m i else 0))
theorem gT_lo {S : Sx} {q k : Nat} {m : Int32} (hk : k < 7) : ∀ i, gT S q m i k = S k := by
  intro i
  induction i with
  | zero => exact hW_lo hk 6
  | succ i ih => unfold gT; rw [uC_lo hk, uP_lo (by omega), ih]
theorem gT_C {S : Sx} {q d w : Nat} {m : Int32} (hd : d < 6) (hw : w < 5) : ∀ i, i ≤ 6 → sC (gT S q m i) d w = if w = 2 ∧ d < i then sC S d 2 + (if d < cn S then fsh S q m d else 0) else sC S d w := by
  intro i
  induction i with
  | zero => intro _; rw [if_neg (by omega)]; exact hW_C hd hw 6
  | succ i ih =>
    intro hi
    unfold gT
    rw [gCC hw (by decide), gCP hd hw, ih (by omega)]
    by_cases e : d = i ∧ w = 2
    · rw [if_pos e]
      obtain ⟨e1, rfl⟩ := e
      subst e1
      rw [if_pos (show 2 = 2 ∧ d < d + 1 from ⟨rfl, by omega⟩)]
    · rw [if_neg e]
      by_cases e2 : w = 2 ∧ d < i
      · rw [if_pos e2, if_pos (show w = 2 ∧ d < i + 1 from ⟨e2.1, by omega⟩)]
      · rw [if_neg e2, if_neg (show ¬ (w = 2 ∧ d < i + 1) by omega)]
theorem gT_P {S : Sx} {q p w : Nat} {m : Int32} (hw : w < 20) : ∀ i, i ≤ 6 → sP (gT S q m i) p w = if p = q ∧ 14 ≤ w then (if w < 14 + i then fsh S q m (w - 14) else shq S q m (w - 14)) else sP S p w := by
  intro i
  induction i with
  | zero =>
    intro _
    show sP (hW S q (shq S q m) 6) p w = _
    rw [hW_P hw 6 (Nat.le_refl _)]
    by_cases e : p = q ∧ 14 ≤ w
    · rw [if_pos e, if_pos (by omega), if_neg (by omega)]
    · rw [if_neg e, if_neg (by omega)]
  | succ i ih =>
    intro hi
    unfold gT
    rw [gPC (by omega) (by decide), gPP hw (by omega), ih (by omega)]
    by_cases e : p = q ∧ w = 14 + i
    · rw [if_pos e, if_pos (by omega), if_pos (by omega), e.2, Nat.add_sub_cancel_left]
    · rw [if_neg e]
      by_cases e2 : p = q ∧ 14 ≤ w
      · rw [if_pos e2, if_pos e2]
        by_cases e3 : w < 14 + i
        · rw [if_pos e3, if_pos (by omega)]
        · rw [if_neg e3, if_neg (by omega)]
      · rw [if_neg e2, if_neg e2]
/-- all is told -/
theorem gT_end {B : Nat} {M : fw_M} {S : Sx} {q : Nat} (hq : q < 8) (hn : cn S ≤ 6) (h : RW B M (upd (uP (uP (uP (gT S q (payS S q) 6) q 4 2) q 6 (S 0)) q 7 (payS S q)) 6 (S 6 + payS S q))) : RW B M (shareS (dl1 S q) q (payS S q)) := by
  have hn1 : cn (dl1 S q) ≤ 6 := by rw [cn_dl1]; exact hn
  refine RW_eq h (fun k hk => ?_) (fun c w hc hw => ?_) (fun m w hm hw => ?_)
  · rw [shareS_lo hk]
    by_cases e : k = 6
    · subst e; unfold dl1; rw [upd_s, upd_s]
    · rw [dl1_lo (by omega), upd_n e, uP_lo (by omega), uP_lo (by omega), uP_lo (by omega), gT_lo hk]
  · rw [gCu (by decide), gCP hc hw, gCP hc hw, gCP hc hw, gT_C hc hw 6 (Nat.le_refl _)]
    by_cases e : w = 2
    · subst e
      rw [shareS_2 hn1 hc, cn_dl1, dl1_fsh hc, dl1_C hc hw, if_pos (show 2 = 2 ∧ c < 6 from ⟨rfl, hc⟩)]
      by_cases l : c < cn S
      · rw [if_pos l, if_pos l]
      · rw [if_neg l, if_neg l, Int32.add_zero]
    · rw [shareS_C hc hw e, dl1_C hc hw, if_neg (fun y => e y.1)]
  · rw [gPu (by decide), gPP hw (by decide), gPP hw (by decide), gPP hw (by decide), gT_P hw 6 (Nat.le_refl _)]
    by_cases l : w < 14
    · rw [shareS_P hn1 l, if_neg (fun y : m = q ∧ 14 ≤ w => by omega)]
      unfold dl1
      rw [gPu (by decide), gPP hw (by decide), gPP hw (by decide), gPP hw (by decide)]
    · have hk := shareS_h (S := dl1 S q) (p := q) (q := m) (k := w - 14) (m := payS S q) hn1 (by omega)
      rw [show 14 + (w - 14) = w by omega] at hk
      rw [hk, if_neg (show ¬ (m = q ∧ w = 7) by omega), if_neg (show ¬ (m = q ∧ w = 6) by omega), if_neg (show ¬ (m = q ∧ w = 4) by omega)]
      by_cases e : m = q
      · rw [if_pos e, if_pos (show m = q ∧ 14 ≤ w by omega), if_pos (show w < 14 + 6 by omega), dl1_fsh (by omega)]
      · rw [if_neg e, if_neg (fun y => e y.1), dl1_P hw (by omega) (by omega), if_neg (by omega)]
theorem gT_step {B q i : Nat} {M : fw_M} {S : Sx} {m v u : Int32} (hR : RW B M (gT S q m i)) (hq : q < 8) (hi : i < 6) (ev : M.1 (B + 496) ((6 : Int32) * nI q + nI i).toNatClampNeg + v = fsh S q m i) (eu : u = if i < cn S then fsh S q m i else 0) :
    RW B (fw_st (fw_st M (B + 496) ((6 : Int32) * nI q + nI i).toNatClampNeg (M.1 (B + 496) ((6 : Int32) * nI q + nI i).toNatClampNeg + v)) (B + 493) ((5 : Int32) * nI i + 2).toNatClampNeg ((fw_st M (B + 496) ((6 : Int32) * nI q + nI i).toNatClampNeg (M.1 (B + 496) ((6 : Int32) * nI q + nI i).toNatClampNeg + v)).1 (B + 493) ((5 : Int32) * nI i + 2).toNatClampNeg + u)) (gT S q m (i + 1)) := by
  have b1 := wrh hR hq hi ev
  have b2 := rrc2 b1 hi
  rw [gCP hi (by decide), gT_C hi (by decide) i (by omega), if_neg (by omega)] at b2
  exact wrc2 b1 hi (by rw [b2, eu])
theorem n6s : fw_sd (¬ (6 : Int32) = 0) := fw_sd_i (by decide)
set_option maxRecDepth 100000 in
theorem wk_L_pays (B : Nat) : fw_Wk B fl_L (cal_L_pays B) [] [] none kL_pays 14 (ct_L_pays B) := by
  intro as M Q QX h
  unfold ct_L_pays at h
  split at h
  · obtain ⟨rfl, rfl, rfl, rfl, rfl, S, q, k, hR, hS2, hn, hq, rfl, hLG, hk, ek, h⟩ := h
    obtain ⟨A, hA, hA2, eA⟩ := LG_sum hLG
    have hall : fw_sd (¬ lsum S q 6 = 0) := fw_sd_i (fun z => by
      have z : lsum S q 6 = nI 0 := z
      rw [eA, nI_eq hA2 (by decide)] at z
      omega)
    generalize hm : payS S q = m at h ek
    refine ⟨rfl, [
      (50, [true, true, true, true, true, true, true, true, true, true, false, false, false, false], fun n ls st M' => ∃ i, n = 1000 + (6 - i) ∧ i ≤ 6 ∧ ls = [some (.ref (B + 492)), some (.ref (B + 493)), some (.ref (B + 494)), some (.ref (B + 495)), some (.ref (B + 496)), some (.int (nI q)), some (.int m), some (.int (lsum S q i)), some (.int m), some (.int (nI i)), none, none, none, none] ∧ st = [] ∧ M' = M),
      (81, [true, true, true, true, true, true, true, true, true, true, false, false, false, false], fun n ls st M' => ∃ i, n = 500 + (6 - i) ∧ i ≤ 6 ∧ ls = [some (.ref (B + 492)), some (.ref (B + 493)), some (.ref (B + 494)), some (.ref (B + 495)), some (.ref (B + 496)), some (.int (nI q)), some (.int m), some (.int (lsum S q 6)), some (.int (rst S q m i)), some (.int (nI i)), none, none, none, none] ∧ st = [] ∧ RW B M' (hW S q (shq S q m) i) ∧ FL B M M'),
      (140, [true, true, true, true, true, true, true, true, true, true, false, false, false, false], fun n ls st M' => ∃ i, n = 20 * (6 - i) + 10 ∧ i ≤ 6 ∧ ls = [some (.ref (B + 492)), some (.ref (B + 493)), some (.ref (B + 494)), some (.ref (B + 495)), some (.ref (B + 496)), some (.int (nI q)), some (.int m), some (.int (lsum S q 6)), some (.int (rst S q m 6)), some (.int (nI i)), none, none, none, none] ∧ st = [] ∧ RW B M' (gT S q m i) ∧ FL B M M'),
      (171, [true, true, true, true, true, true, true, true, true, true, true, true, true, false], fun n ls st M' => ∃ i j, n = 20 * (6 - i) + (6 - j) ∧ i < 6 ∧ j ≤ 6 ∧ ls = [some (.ref (B + 492)), some (.ref (B + 493)), some (.ref (B + 494)), some (.ref (B + 495)), some (.ref (B + 496)), some (.int (nI q)), some (.int m), some (.int (lsum S q 6)), some (.int (rst S q m 6)), some (.int (nI i)), some (.int (nI (rnk S q m i j))), some (.int (shr S q m i)), some (.int (nI j)), none] ∧ st = [] ∧ RW B M' (gT S q m i) ∧ FL B M M')], ⟨120, ?_⟩, ?_⟩
    · have st0 : ∀ v, v = m → ∃ n, ∃ i, n = 1000 + (6 - i) ∧ i ≤ 6 ∧ ([some (.ref (B + 492)), some (.ref (B + 493)), some (.ref (B + 494)), some (.ref (B + 495)), some (.ref (B + 496)), some (.int (nI q)), some (.int v), some (.int 0), some (.int v), some (.int 0), none, none, none, none] : fw_L) = [some (.ref (B + 492)), some (.ref (B + 493)), some (.ref (B + 494)), some (.ref (B + 495)), some (.ref (B + 496)), some (.int (nI q)), some (.int m), some (.int (lsum S q i)), some (.int m), some (.int (nI i)), none, none, none, none] ∧ ([] : List Value) = [] ∧ M = M := by
        rintro v rfl
        exact ⟨1006, 0, rfl, Nat.zero_le _, rfl, rfl, rfl⟩
      refine And.intro kd_492 (And.intro vrg0 (And.intro kd_494 (And.intro (vrp2 hq) (And.intro (fun h1 => And.intro kd_494 (And.intro (vrp3 hq) (And.intro n2s ?_))) (fun h1 => And.intro kd_494 (And.intro (vrp3 hq) ?_))))))
      · have h1 : M.1 (B + 494) ((8 : Int32) * nI q + 2).toNatClampNeg < M.1 (B + 492) (0 : Int32).toNatClampNeg := h1
        rw [rrp2 hR hq, rrg0 hR] at h1
        refine st0 _ ?_
        show M.1 (B + 494) ((8 : Int32) * nI q + 3).toNatClampNeg / 2 = m
        rw [rrp3 hR hq, ← hm]
        exact (if_neg (Int32.not_le.mpr h1)).symm
      · have h1 : ¬ M.1 (B + 494) ((8 : Int32) * nI q + 2).toNatClampNeg < M.1 (B + 492) (0 : Int32).toNatClampNeg := h1
        rw [rrp2 hR hq, rrg0 hR] at h1
        refine st0 _ ?_
        show M.1 (B + 494) ((8 : Int32) * nI q + 3).toNatClampNeg = m
        rw [rrp3 hR hq, ← hm]
        exact (if_pos (Int32.not_lt.mp h1)).symm
    · intro r hr n ls st M' hi
      simp only [List.mem_cons, List.not_mem_nil, or_false] at hr
      rcases hr with rfl | rfl | rfl | rfl
      · obtain ⟨i, rfl, hi, rfl, rfl, rfl⟩ := hi
        refine ⟨60, And.intro (fun h1 => ?_) (fun h1 => ?_)⟩
        · have h1 : (6 : Int32) ≤ nI i := h1
          rw [show (6 : Int32) = nI 6 from rfl, n_ge (by decide) (by omega)] at h1
          have e : i = 6 := by omega
          subst e
          exact Exists.intro 506 (And.intro (by omega) (Exists.intro 0 ⟨rfl, Nat.zero_le _, rfl, rfl, hR, FL_id⟩))
        · have h1 : ¬ (6 : Int32) ≤ nI i := h1
          rw [show (6 : Int32) = nI 6 from rfl, n_ge (by decide) (by omega)] at h1
          have hi6 : i < 6 := by omega
          refine And.intro kd_495 (And.intro (vrl hq hi6) (Exists.intro (1000 + (6 - (i + 1))) (And.intro (by omega) (Exists.intro (i + 1) ⟨rfl, by omega, ?_, rfl, rfl⟩))))
          show [some (Value.ref (B + 492)), some (.ref (B + 493)), some (.ref (B + 494)), some (.ref (B + 495)), some (.ref (B + 496)), some (.int (nI q)), some (.int m), some (.int (lsum S q i + M'.1 (B + 495) ((6 : Int32) * nI q + nI i).toNatClampNeg)), some (.int m), some (.int (nI i + 1)), none, none, none, none] = _
          rw [rrl hR hq hi6, nI_1]
          rfl
      · obtain ⟨i, rfl, hi, rfl, rfl, hR1, hF1⟩ := hi
        refine ⟨80, And.intro (fun h1 => ?_) (fun h1 => ?_)⟩
        · have h1 : (6 : Int32) ≤ nI i := h1
          rw [show (6 : Int32) = nI 6 from rfl, n_ge (by decide) (by omega)] at h1
          have e : i = 6 := by omega
          subst e
          exact Exists.intro 130 (And.intro (by omega) (Exists.intro 0 ⟨rfl, Nat.zero_le _, rfl, rfl, hR1, hF1⟩))
        · have h1 : ¬ (6 : Int32) ≤ nI i := h1
          rw [show (6 : Int32) = nI 6 from rfl, n_ge (by decide) (by omega)] at h1
          have hi6 : i < 6 := by omega
          have e1 : m * M'.1 (B + 495) ((6 : Int32) * nI q + nI i).toNatClampNeg / lsum S q 6 = shq S q m i := by
            rw [rrl hR1 hq hi6, hW_P (by omega) i hi, if_neg (by omega)]
            rfl
          have hR2 : RW B (fw_st M' (B + 496) ((6 : Int32) * nI q + nI i).toNatClampNeg (m * M'.1 (B + 495) ((6 : Int32) * nI q + nI i).toNatClampNeg / lsum S q 6)) (hW S q (shq S q m) (i + 1)) := wrh hR1 hq hi6 e1
          have e2 := rrh hR2 hq hi6
          rw [hW_P (by omega) (i + 1) (by omega), if_pos (by omega), Nat.add_sub_cancel_left] at e2
          refine And.intro kd_495 (And.intro (vrl hq hi6) (And.intro hall (And.intro kd_496 (And.intro (vrh hq hi6) (And.intro kd_496 (And.intro (vrh hq hi6) (Exists.intro (500 + (6 - (i + 1))) (And.intro (by omega) (Exists.intro (i + 1) ⟨rfl, by omega, ?_, rfl, hR2, FL_s hF1⟩)))))))))
          show [some (Value.ref (B + 492)), some (.ref (B + 493)), some (.ref (B + 494)), some (.ref (B + 495)), some (.ref (B + 496)), some (.int (nI q)), some (.int m), some (.int (lsum S q 6)), some (.int (rst S q m i - (fw_st M' (B + 496) ((6 : Int32) * nI q + nI i).toNatClampNeg (m * M'.1 (B + 495) ((6 : Int32) * nI q + nI i).toNatClampNeg / lsum S q 6)).1 (B + 496) ((6 : Int32) * nI q + nI i).toNatClampNeg)), some (.int (nI i + 1)), none, none, none, none] = _
          rw [e2, nI_1]
          rfl
      · obtain ⟨i, rfl, hi, rfl, rfl, hR1, hF1⟩ := hi
        refine ⟨100, And.intro (fun h1 => ?_) (fun h1 => ?_)⟩
        · have h1 : (6 : Int32) ≤ nI i := h1
          rw [show (6 : Int32) = nI 6 from rfl, n_ge (by decide) (by omega)] at h1
          have e : i = 6 := by omega
          subst e
          refine And.intro kd_494 (And.intro (vrp4 hq) (And.intro kd_492 (And.intro vrg0 (And.intro kd_494 (And.intro (vrp6 hq) (And.intro kd_494 (And.intro (vrp7 hq) (And.intro kd_492 (And.intro vrg6 (And.intro kd_492 (And.intro vrg6 ?_)))))))))))
          have a1 := wrp4 (v := 2) hR1 hq rfl
          have a2 := wrp6 (v := (fw_st M' (B + 494) ((8 : Int32) * nI q + 4).toNatClampNeg 2).1 (B + 492) (0 : Int32).toNatClampNeg) (v' := S 0) a1 hq (by rw [rrg0 a1, uP_lo (by decide), gT_lo (by decide)])
          have a3 := wrp7 (v := m) a2 hq rfl
          have a4 := wrg6 (v := (fw_st (fw_st (fw_st M' (B + 494) ((8 : Int32) * nI q + 4).toNatClampNeg 2) (B + 494) ((8 : Int32) * nI q + 6).toNatClampNeg ((fw_st M' (B + 494) ((8 : Int32) * nI q + 4).toNatClampNeg 2).1 (B + 492) (0 : Int32).toNatClampNeg)) (B + 494) ((8 : Int32) * nI q + 7).toNatClampNeg m).1 (B + 492) (6 : Int32).toNatClampNeg + m) (v' := S 6 + m) a3 (by rw [rrg6 a3, uP_lo (by decide), uP_lo (by decide), uP_lo (by decide), gT_lo (by decide)])
          subst hm
          exact h _ (gT_end hq hn a4) (FL_s (FL_s (FL_s (FL_s hF1))))
        · have h1 : ¬ (6 : Int32) ≤ nI i := h1
          rw [show (6 : Int32) = nI 6 from rfl, n_ge (by decide) (by omega)] at h1
          have hi6 : i < 6 := by omega
          refine And.intro kd_495 (And.intro (vrl hq hi6) (And.intro hall (Exists.intro (20 * (6 - i) + 6) (And.intro (by omega) (Exists.intro i (Exists.intro 0 ⟨rfl, hi6, Nat.zero_le _, ?_, rfl, hR1, hF1⟩))))))
          show [some (Value.ref (B + 492)), some (.ref (B + 493)), some (.ref (B + 494)), some (.ref (B + 495)), some (.ref (B + 496)), some (.int (nI q)), some (.int m), some (.int (lsum S q 6)), some (.int (rst S q m 6)), some (.int (nI i)), some (.int 0), some (.int (m * M'.1 (B + 495) ((6 : Int32) * nI q + nI i).toNatClampNeg - m * M'.1 (B + 495) ((6 : Int32) * nI q + nI i).toNatClampNeg / lsum S q 6 * lsum S q 6)), some (.int 0), none] = _
          rw [rrl hR1 hq hi6, gT_P (by omega) i hi, if_neg (by omega)]
          rfl
      · obtain ⟨i, j, rfl, hi6, hj, rfl, rfl, hR1, hF1⟩ := hi
        refine ⟨120, And.intro (fun h1 => ?_) (fun h1 => ?_)⟩
        · have h1 : (6 : Int32) ≤ nI j := h1
          rw [show (6 : Int32) = nI 6 from rfl, n_ge (by decide) (by omega)] at h1
          have e : j = 6 := by omega
          subst e
          have e1 := rrh hR1 hq hi6
          rw [gT_P (by omega) i (by omega), if_pos (by omega), if_neg (by omega), Nat.add_sub_cancel_left] at e1
          have hsh : ∀ v, v = (if nI (rnk S q m i 6) < rst S q m 6 then (1 : Int32) else 0) → M'.1 (B + 496) ((6 : Int32) * nI q + nI i).toNatClampNeg + v = fsh S q m i := by
            rintro v rfl
            rw [e1]
            unfold fsh
            split
            · rfl
            · exact Int32.add_zero _
          have nxt : ∀ M3, RW B M3 (gT S q m (i + 1)) → FL B M M3 → ∃ n', n' < 20 * (6 - i) + (6 - 6) ∧ ∃ i', n' = 20 * (6 - i') + 10 ∧ i' ≤ 6 ∧ ([some (.ref (B + 492)), some (.ref (B + 493)), some (.ref (B + 494)), some (.ref (B + 495)), some (.ref (B + 496)), some (.int (nI q)), some (.int m), some (.int (lsum S q 6)), some (.int (rst S q m 6)), some (.int (nI i + 1)), none, none, none, none] : fw_L) = [some (.ref (B + 492)), some (.ref (B + 493)), some (.ref (B + 494)), some (.ref (B + 495)), some (.ref (B + 496)), some (.int (nI q)), some (.int m), some (.int (lsum S q 6)), some (.int (rst S q m 6)), some (.int (nI i')), none, none, none, none] ∧ ([] : List Value) = [] ∧ RW B M3 (gT S q m i') ∧ FL B M M3 :=
            fun M3 g1 g2 => ⟨20 * (6 - (i + 1)) + 10, by omega, i + 1, rfl, by omega, by rw [nI_1], rfl, g1, g2⟩
          have g2e : ∀ v, (fw_st M' (B + 496) ((6 : Int32) * nI q + nI i).toNatClampNeg v).1 (B + 492) (2 : Int32).toNatClampNeg = nI (cn S) := fun v => by
            rw [st_o (by omega), rrg2 hR1, gT_lo (by decide), hS2]
          refine And.intro kd_496 (And.intro (vrh hq hi6) (And.intro (fun h2 => And.intro kd_496 (And.intro (vrh hq hi6) (And.intro kd_493 (And.intro (vrc2 hi6) (And.intro kd_492 (And.intro vrg2 (And.intro (fun h3 => And.intro kd_493 (And.intro (vrc2 hi6) ?_)) (fun h3 => And.intro kd_496 (And.intro (vrh hq hi6) (And.intro kd_493 (And.intro (vrc2 hi6) ?_))))))))))) (fun h2 => And.intro kd_496 (And.intro (vrh hq hi6) (And.intro kd_493 (And.intro (vrc2 hi6) (And.intro kd_492 (And.intro vrg2 (And.intro (fun h3 => And.intro kd_493 (And.intro (vrc2 hi6) ?_)) (fun h3 => And.intro kd_496 (And.intro (vrh hq hi6) (And.intro kd_493 (And.intro (vrc2 hi6) ?_)))))))))))))
          · have h2 : rst S q m 6 ≤ nI (rnk S q m i 6) := h2
            have ev := hsh 0 (if_neg (Int32.not_lt.mpr h2)).symm
            have h3 : (fw_st M' (B + 496) ((6 : Int32) * nI q + nI i).toNatClampNeg (M'.1 (B + 496) ((6 : Int32) * nI q + nI i).toNatClampNeg + 0)).1 (B + 492) (2 : Int32).toNatClampNeg ≤ nI i := h3
            rw [g2e, n_ge (by omega) (by omega)] at h3
            exact nxt _ (gT_step (u := 0) hR1 hq hi6 ev (if_neg (by omega)).symm) (FL_s (FL_s hF1))
          · have h2 : rst S q m 6 ≤ nI (rnk S q m i 6) := h2
            have ev := hsh 0 (if_neg (Int32.not_lt.mpr h2)).symm
            have h3 : ¬ (fw_st M' (B + 496) ((6 : Int32) * nI q + nI i).toNatClampNeg (M'.1 (B + 496) ((6 : Int32) * nI q + nI i).toNatClampNeg + 0)).1 (B + 492) (2 : Int32).toNatClampNeg ≤ nI i := h3
            rw [g2e, n_ge (by omega) (by omega)] at h3
            have e6 := rrh (wrh hR1 hq hi6 ev) hq hi6
            rw [gPP (by omega) (by omega), if_pos ⟨rfl, rfl⟩] at e6
            exact nxt _ (gT_step hR1 hq hi6 ev (e6.trans (if_pos (show i < cn S by omega)).symm)) (FL_s (FL_s hF1))
          · have h2 : ¬ rst S q m 6 ≤ nI (rnk S q m i 6) := h2
            have ev := hsh 1 (if_pos (Int32.not_le.mp h2)).symm
            have h3 : (fw_st M' (B + 496) ((6 : Int32) * nI q + nI i).toNatClampNeg (M'.1 (B + 496) ((6 : Int32) * nI q + nI i).toNatClampNeg + 1)).1 (B + 492) (2 : Int32).toNatClampNeg ≤ nI i := h3
            rw [g2e, n_ge (by omega) (by omega)] at h3
            exact nxt _ (gT_step (u := 0) hR1 hq hi6 ev (if_neg (by omega)).symm) (FL_s (FL_s hF1))
          · have h2 : ¬ rst S q m 6 ≤ nI (rnk S q m i 6) := h2
            have ev := hsh 1 (if_pos (Int32.not_le.mp h2)).symm
            have h3 : ¬ (fw_st M' (B + 496) ((6 : Int32) * nI q + nI i).toNatClampNeg (M'.1 (B + 496) ((6 : Int32) * nI q + nI i).toNatClampNeg + 1)).1 (B + 492) (2 : Int32).toNatClampNeg ≤ nI i := h3
            rw [g2e, n_ge (by omega) (by omega)] at h3
            have e6 := rrh (wrh hR1 hq hi6 ev) hq hi6
            rw [gPP (by omega) (by omega), if_pos ⟨rfl, rfl⟩] at e6
            exact nxt _ (gT_step hR1 hq hi6 ev (e6.trans (if_pos (show i < cn S by omega)).symm)) (FL_s (FL_s hF1))
        · have h1 : ¬ (6 : Int32) ≤ nI j := h1
          rw [show (6 : Int32) = nI 6 from rfl, n_ge (by decide) (by omega)] at h1
          have hj6 : j < 6 := by omega
          have ev : m * M'.1 (B + 495) ((6 : Int32) * nI q + nI j).toNatClampNeg - m * M'.1 (B + 495) ((6 : Int32) * nI q + nI j).toNatClampNeg / lsum S q 6 * lsum S q 6 = shr S q m j := by
            rw [rrl hR1 hq hj6, gT_P (by omega) i (by omega), if_neg (by omega)]
            rfl
          have key : ∀ w, w = nI (rnk S q m i (j + 1)) → ∃ n', n' < 20 * (6 - i) + (6 - j) ∧ ∃ i' j', n' = 20 * (6 - i') + (6 - j') ∧ i' < 6 ∧ j' ≤ 6 ∧ ([some (.ref (B + 492)), some (.ref (B + 493)), some (.ref (B + 494)), some (.ref (B + 495)), some (.ref (B + 496)), some (.int (nI q)), some (.int m), some (.int (lsum S q 6)), some (.int (rst S q m 6)), some (.int (nI i)), some (.int w), some (.int (shr S q m i)), some (.int (nI j + 1)), none] : fw_L) = [some (.ref (B + 492)), some (.ref (B + 493)), some (.ref (B + 494)), some (.ref (B + 495)), some (.ref (B + 496)), some (.int (nI q)), some (.int m), some (.int (lsum S q 6)), some (.int (rst S q m 6)), some (.int (nI i')), some (.int (nI (rnk S q m i' j'))), some (.int (shr S q m i')), some (.int (nI j')), none] ∧ ([] : List Value) = [] ∧ RW B M' (gT S q m i') ∧ FL B M M' := by
            rintro w rfl
            exact ⟨20 * (6 - i) + (6 - (j + 1)), by omega, i, j + 1, rfl, hi6, by omega, by rw [nI_1], rfl, hR1, hF1⟩
          refine And.intro kd_495 (And.intro (vrl hq hj6) (And.intro hall (And.intro (fun h2 => key _ ?_) (fun h2 => And.intro (fun h3 => key _ ?_) (fun h3 => And.intro (fun h4 => key _ ?_) (fun h4 => key _ ?_))))))
          · have h2 : shr S q m i < m * M'.1 (B + 495) ((6 : Int32) * nI q + nI j).toNatClampNeg - m * M'.1 (B + 495) ((6 : Int32) * nI q + nI j).toNatClampNeg / lsum S q 6 * lsum S q 6 := h2
            rw [ev] at h2
            show nI (rnk S q m i j) + 1 = _
            rw [rnk, if_pos (Or.inl h2), nI_1]
          · have h2 : ¬ shr S q m i < m * M'.1 (B + 495) ((6 : Int32) * nI q + nI j).toNatClampNeg - m * M'.1 (B + 495) ((6 : Int32) * nI q + nI j).toNatClampNeg / lsum S q 6 * lsum S q 6 := h2
            have h3 : ¬ m * M'.1 (B + 495) ((6 : Int32) * nI q + nI j).toNatClampNeg - m * M'.1 (B + 495) ((6 : Int32) * nI q + nI j).toNatClampNeg / lsum S q 6 * lsum S q 6 = shr S q m i := h3
            rw [ev] at h2 h3
            show nI (rnk S q m i j) + 0 = _
            rw [rnk, if_neg (fun e => e.elim h2 (fun e => h3 e.1)), Int32.add_zero]
            rfl
          · have h2 : ¬ shr S q m i < m * M'.1 (B + 495) ((6 : Int32) * nI q + nI j).toNatClampNeg - m * M'.1 (B + 495) ((6 : Int32) * nI q + nI j).toNatClampNeg / lsum S q 6 * lsum S q 6 := h2
            have h4 : nI i ≤ nI j := h4
            rw [ev] at h2
            rw [n_ge (by omega) (by omega)] at h4
            show nI (rnk S q m i j) + 0 = _
            rw [rnk, if_neg (fun e => e.elim h2 (fun e => absurd e.2 (by omega))), Int32.add_zero]
            rfl
          · have h3 : m * M'.1 (B + 495) ((6 : Int32) * nI q + nI j).toNatClampNeg - m * M'.1 (B + 495) ((6 : Int32) * nI q + nI j).toNatClampNeg / lsum S q 6 * lsum S q 6 = shr S q m i := h3
            have h4 : ¬ nI i ≤ nI j := h4
            rw [ev] at h3
            rw [n_ge (by omega) (by omega)] at h4
            show nI (rnk S q m i j) + 1 = _
            rw [rnk, if_pos (Or.inr ⟨h3, by omega⟩), nI_1]
  · exact h.elim
end WLP

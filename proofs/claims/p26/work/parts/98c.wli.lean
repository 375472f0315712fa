/-! THE LAW'S CHECKS WALKED: isSo -/
section WLI
def iTip (S : Sx) (k : Nat) : Int32 := sI (fun k => sC S k 2) k
def iGot (S : Sx) (m : Nat) : Int32 := sI (fun m => sP S m 7) m
def iLeg (S : Sx) (k : Nat) : Int32 := sI (fun k => lgC S k (pn S)) k
def iCar (S : Sx) (k : Nat) : Int32 := sI (fun k => if sC S k 3 = 2 then 1 else 0) k
def iSum (S : Sx) (m k : Nat) : Int32 := sI (fun k => sP S m (8 + k)) k
def iShr (S : Sx) (m k : Nat) : Int32 := sI (fun k => sP S m (14 + k)) k
abbrev isL (B D : Nat) (t g l c : Int32) (o12 o13 o14 o15 : Option Value) : fw_L := [some (.ref B), some (.ref (B + 492)), some (.ref (B + 493)), some (.ref (B + 494)), some (.ref (B + 495)), some (.ref (B + 496)), some (.ref D), some (.int t), some (.int g), some (.int l), some (.int c), some (.int 1), o12, o13, o14, o15]
def IX (B D : Nat) (Z : Zs) (m c : Nat) (M : fw_M) : Prop := LZ B M Z ∧ (∀ q, q < 4 → M.1 D q = inSt Z.1 (nI q) m) ∧ M.2.2 ≤ c
theorem IX_call {B D m c : Nat} {M M1 : fw_M} {Z Z' : Zs} (h : IX B D Z m c M) (hD : B + 497 ≤ D) (e : Z' = Z) (q1 : RC B M1 Z') (q2 : ∀ b, B + 492 ≤ b → M1.1 b = M.1 b) : IX B D Z m (c + 1) (M1.1, M1.2.1, M.2.2 + 1) :=
  ⟨LZ_to h.1 e q1 q2, fun q hq => by show M1.1 D q = _; rw [q2 D (by omega)]; exact h.2.1 q hq, Nat.succ_le_succ h.2.2⟩
theorem IX_up {B D m c c' : Nat} {M : fw_M} {Z : Zs} (h : IX B D Z m c M) (hc : c ≤ c') : IX B D Z m c' M := ⟨h.1, h.2.1, Nat.le_trans h.2.2 hc⟩
def cal_L_isSo (B : Nat) : List fw_Cal := [(121, 1, 0, 2, 1, fun as M Q => M.2.2 ≤ 300 ∧ ct_L_valueOf B as M Q (fun _ _ => False)), (124, 1, 0, 3, 1, fun as M Q => M.2.2 ≤ 300 ∧ ct_L_courierOf B as M Q (fun _ _ => False)), (127, 1, 0, 3, 1, fun as M Q => M.2.2 ≤ 300 ∧ ct_L_parcelOf B as M Q (fun _ _ => False)), (130, 1, 0, 4, 1, fun as M Q => M.2.2 ≤ 300 ∧ ct_L_legsOf B as M Q (fun _ _ => False)), (134, 1, 0, 3, 1, fun as M Q => M.2.2 ≤ 300 ∧ ct_L_farOf B as M Q (fun _ _ => False))]
set_option maxRecDepth 100000 in
theorem wk_L_isSo (B : Nat) : fw_WkA B (cal_L_isSo B) (some .boolean) kL_isSo 16 300 (ct_L_isSo B) := by
  intro as M Q QX h
  unfold ct_L_isSo at h
  split at h
  · obtain ⟨rfl, rfl, rfl, rfl, rfl, rfl, Z, hL, h⟩ := h
    rename_i B
    obtain ⟨-, -, -, ⟨t, ht, ht0, hW, hI⟩, hp8⟩ := id hL
    have hn := hW.2.1
    have hm24 := hW.2.2.2.1
    have e2 := hW.1
    have e3 := hW.2.2.1
    refine ⟨rfl, fun D hD => ⟨[
      (108, [true, true, true, true, true, true, true, true, true, true, true, true, true, false, false, false], fun n ls st M' => ∃ k, n = 20000 + 1000 * (6 - k) + 500 ∧ k ≤ cn Z.1 ∧ ls = isL B D (iTip Z.1 k) (0) (iLeg Z.1 k) (iCar Z.1 k) (some (.int (nI k))) (none) (none) (none) ∧ st = [] ∧ IX B D Z 0 (7 + 8 * k) M'),
      (127, [true, true, true, true, true, true, true, true, true, true, true, true, true, true, true, false], fun n ls st M' => ∃ k m, n = 20000 + 1000 * (6 - k) + 400 - m ∧ k < cn Z.1 ∧ m ≤ pn Z.1 ∧ ls = isL B D (iTip Z.1 k) (0) (iLeg Z.1 k) (iCar Z.1 k) (some (.int (nI k))) (some (.int (lgC Z.1 k m))) (some (.int (nI m))) (none) ∧ st = [] ∧ IX B D Z 0 (7 + 8 * k) M'),
      (202, [true, true, true, true, true, true, true, true, true, true, true, true, true, true, true, false], fun n ls st M' => ∃ k w, n = 20000 + 1000 * (6 - k) + 300 - w ∧ k < cn Z.1 ∧ w ≤ 5 ∧ ls = isL B D (iTip Z.1 (k + 1)) (0) (iLeg Z.1 (k + 1)) (iCar Z.1 (k + 1)) (some (.int (nI k))) (some (.int (lgC Z.1 k (pn Z.1)))) (some (.int (nI w))) (none) ∧ st = [] ∧ IX B D Z 0 (7 + 8 * k + w) M'),
      (332, [true, true, true, true, true, true, true, true, true, true, true, true, true, false, false, false], fun n ls st M' => ∃ m, n = 1000 * (8 - m) + 900 ∧ m ≤ pn Z.1 ∧ ls = isL B D (iTip Z.1 (cn Z.1)) (iGot Z.1 m) (iLeg Z.1 (cn Z.1)) (iCar Z.1 (cn Z.1)) (some (.int (nI m))) (none) (none) (none) ∧ st = [] ∧ IX B D Z m (55 + 22 * m) M'),
      (385, [true, true, true, true, true, true, true, true, true, true, true, true, true, true, true, true], fun n ls st M' => ∃ m w, n = 1000 * (8 - m) + 800 - w ∧ m < pn Z.1 ∧ w ≤ 8 ∧ ls = isL B D (iTip Z.1 (cn Z.1)) (iGot Z.1 (m + 1)) (iLeg Z.1 (cn Z.1)) (iCar Z.1 (cn Z.1)) (some (.int (nI m))) (some (.int (0))) (some (.int (0))) (some (.int (nI w))) ∧ st = [] ∧ IX B D Z (m + 1) (55 + 22 * m + w) M'),
      (434, [true, true, true, true, true, true, true, true, true, true, true, true, true, true, true, true], fun n ls st M' => ∃ m k, n = 1000 * (8 - m) + 700 - k ∧ m < pn Z.1 ∧ k ≤ cn Z.1 ∧ ls = isL B D (iTip Z.1 (cn Z.1)) (iGot Z.1 (m + 1)) (iLeg Z.1 (cn Z.1)) (iCar Z.1 (cn Z.1)) (some (.int (nI m))) (some (.int (iSum Z.1 m k))) (some (.int (iShr Z.1 m k))) (some (.int (nI k))) ∧ st = [] ∧ IX B D Z (m + 1) (55 + 22 * m + 8 + 2 * k) M')], ⟨1000, ?_⟩, ?_⟩⟩
    · have hX0 : IX B D Z 0 0 (fw_row (M.1, M.2.1, 0) D (fun _ => 0)) := ⟨LZ_row (M := (M.1, M.2.1, 0)) hL hD, fun q _ => by rw [row_1]; rfl, Nat.le_refl 0⟩
      refine And.intro (Nat.le_trans hX0.2.2 (by decide)) (And.intro rfl (Exists.intro Z (And.intro hX0.1.1 (And.intro hX0.1.2.1 (fun M1 a1 b1 => ?_)))))
      have hX1 := IX_call hX0 hD sm_value a1 b1
      refine Or.inr (And.intro kd_492 (And.intro vrg0 (And.intro (fun z => absurd ?_ z) (fun _ => ?_))))
      · exact (hv_value (w := 0) (by decide)).trans (rrg0 hX1.1.2.2.1).symm
      refine And.intro (Nat.le_trans hX1.2.2 (by decide)) (And.intro rfl (Exists.intro Z (And.intro hX1.1.1 (And.intro hX1.1.2.1 (fun M2 a2 b2 => ?_)))))
      have hX2 := IX_call hX1 hD sm_value a2 b2
      refine Or.inr (And.intro kd_492 (And.intro vrg2 (And.intro (fun z => absurd ?_ z) (fun _ => ?_))))
      · exact (hv_value (w := 1) (by decide)).trans (rrg2 hX2.1.2.2.1).symm
      refine And.intro (Nat.le_trans hX2.2.2 (by decide)) (And.intro rfl (Exists.intro Z (And.intro hX2.1.1 (And.intro hX2.1.2.1 (fun M3 a3 b3 => ?_)))))
      have hX3 := IX_call hX2 hD sm_value a3 b3
      refine Or.inr (And.intro kd_492 (And.intro vrg3 (And.intro (fun z => absurd ?_ z) (fun _ => ?_))))
      · exact (hv_value (w := 2) (by decide)).trans (rrg3 hX3.1.2.2.1).symm
      refine And.intro (Nat.le_trans hX3.2.2 (by decide)) (And.intro rfl (Exists.intro Z (And.intro hX3.1.1 (And.intro hX3.1.2.1 (fun M4 a4 b4 => ?_)))))
      have hX4 := IX_call hX3 hD sm_value a4 b4
      refine Or.inr (And.intro kd_492 (And.intro vrg1 (And.intro (fun z => absurd ?_ z) (fun _ => ?_))))
      · exact (hv_value (w := 3) (by decide)).trans (rrg1 hX4.1.2.2.1).symm
      refine And.intro (Nat.le_trans hX4.2.2 (by decide)) (And.intro rfl (Exists.intro Z (And.intro hX4.1.1 (And.intro hX4.1.2.1 (fun M5 a5 b5 => ?_)))))
      have hX5 := IX_call hX4 hD sm_value a5 b5
      refine Or.inr (And.intro kd_492 (And.intro vrg6 (And.intro (fun z => absurd ?_ z) (fun _ => ?_))))
      · exact (hv_value (w := 8) (by decide)).trans (rrg6 hX5.1.2.2.1).symm
      refine And.intro (Nat.le_trans hX5.2.2 (by decide)) (And.intro rfl (Exists.intro Z (And.intro hX5.1.1 (And.intro hX5.1.2.1 (fun M6 a6 b6 => ?_)))))
      have hX6 := IX_call hX5 hD sm_value a6 b6
      refine Or.inr (And.intro kd_492 (And.intro vrg4 (And.intro (fun z => absurd ?_ z) (fun _ => ?_))))
      · exact (hv_value (w := 9) (by decide)).trans (rrg4 hX6.1.2.2.1).symm
      refine And.intro (Nat.le_trans hX6.2.2 (by decide)) (And.intro rfl (Exists.intro Z (And.intro hX6.1.1 (And.intro hX6.1.2.1 (fun M7 a7 b7 => ?_)))))
      have hX7 := IX_call hX6 hD sm_value a7 b7
      refine Or.inr (And.intro kd_492 (And.intro vrg5 (And.intro (fun z => absurd ?_ z) (fun _ => ?_))))
      · exact (hv_value (w := 10) (by decide)).trans (rrg5 hX7.1.2.2.1).symm
      exact Exists.intro (20000 + 1000 * (6 - 0) + 500) (Exists.intro 0 ⟨rfl, Nat.zero_le _, rfl, rfl, hX7⟩)
    · intro r hr n ls st M' hi
      simp only [List.mem_cons, List.not_mem_nil, or_false] at hr
      rcases hr with rfl | rfl | rfl | rfl | rfl | rfl
      · obtain ⟨k, rfl, hk, rfl, rfl, hX⟩ := hi
        have hR := hX.1.2.2.1
        have g2 : M'.1 (B + 492) (2 : Int32).toNatClampNeg = nI (cn Z.1) := (rrg2 hR).trans e2
        refine ⟨60, Or.inr (And.intro kd_492 (And.intro vrg2 (And.intro (fun h1 => ?_) (fun h1 => And.intro (fun z => absurd z (by decide)) (fun _ => ?_)))))⟩
        · have h1 : M'.1 (B + 492) (2 : Int32).toNatClampNeg ≤ nI k := h1
          rw [g2, n_ge (by omega) (by omega)] at h1
          have ek : k = cn Z.1 := by omega
          subst ek
          exact Exists.intro (1000 * (8 - 0) + 900) (And.intro (by omega) (Exists.intro 0 ⟨rfl, Nat.zero_le _, rfl, rfl, IX_up hX (by omega)⟩))
        · have h1 : ¬ M'.1 (B + 492) (2 : Int32).toNatClampNeg ≤ nI k := h1
          rw [g2, n_ge (by omega) (by omega)] at h1
          exact Exists.intro (20000 + 1000 * (6 - k) + 400 - 0) (And.intro (by omega) (Exists.intro k (Exists.intro 0 ⟨rfl, by omega, Nat.zero_le _, rfl, rfl, hX⟩)))
      · obtain ⟨k, m, rfl, hk, hm, rfl, rfl, hX⟩ := hi
        have hR := hX.1.2.2.1
        have hk6 : k < 6 := by omega
        have g3 : M'.1 (B + 492) (3 : Int32).toNatClampNeg = nI (pn Z.1) := (rrg3 hR).trans e3
        refine ⟨100, Or.inr (And.intro kd_492 (And.intro vrg3 (And.intro (fun h1 => ?_) (fun h1 => ?_))))⟩
        · have h1 : M'.1 (B + 492) (3 : Int32).toNatClampNeg ≤ nI m := h1
          rw [g3, n_ge (by omega) (by omega)] at h1
          have em : m = pn Z.1 := by omega
          subst em
          have f2 := rrc2 hR hk6
          have f3 := rrc3 hR hk6
          have key : ∀ v u, v = iTip Z.1 (k + 1) → u = iCar Z.1 (k + 1) → ∃ n', n' < 20000 + 1000 * (6 - k) + 400 - pn Z.1 ∧ ∃ k' w, n' = 20000 + 1000 * (6 - k') + 300 - w ∧ k' < cn Z.1 ∧ w ≤ 5 ∧ isL B D v 0 (iLeg Z.1 k + lgC Z.1 k (pn Z.1)) u (some (.int (nI k))) (some (.int (lgC Z.1 k (pn Z.1)))) (some (.int 0)) none = isL B D (iTip Z.1 (k' + 1)) (0) (iLeg Z.1 (k' + 1)) (iCar Z.1 (k' + 1)) (some (.int (nI k'))) (some (.int (lgC Z.1 k' (pn Z.1)))) (some (.int (nI w))) (none) ∧ ([] : List Value) = [] ∧ IX B D Z 0 (7 + 8 * k' + w) M' := by
            rintro v u rfl rfl
            exact ⟨20000 + 1000 * (6 - k) + 300 - 0, by omega, k, 0, rfl, hk, by omega, rfl, rfl, hX⟩
          refine Or.inr (And.intro kd_493 (And.intro (vrc2 hk6) (Or.inr (And.intro kd_493 (And.intro (vrc3 hk6) (And.intro (fun h2 => key _ _ ?_ ?_) (fun h2 => key _ _ ?_ ?_)))))))
          · show iTip Z.1 k + M'.1 (B + 493) ((5 : Int32) * nI k + 2).toNatClampNeg = _
            rw [f2]; rfl
          · have h2 : ¬ M'.1 (B + 493) ((5 : Int32) * nI k + 3).toNatClampNeg = 2 := h2
            rw [f3] at h2
            show iCar Z.1 k + 0 = iCar Z.1 k + (if sC Z.1 k 3 = 2 then 1 else 0)
            rw [if_neg h2]
          · show iTip Z.1 k + M'.1 (B + 493) ((5 : Int32) * nI k + 2).toNatClampNeg = _
            rw [f2]; rfl
          · have h2 : M'.1 (B + 493) ((5 : Int32) * nI k + 3).toNatClampNeg = 2 := h2
            rw [f3] at h2
            show iCar Z.1 k + 1 = iCar Z.1 k + (if sC Z.1 k 3 = 2 then 1 else 0)
            rw [if_pos h2]
        · have h1 : ¬ M'.1 (B + 492) (3 : Int32).toNatClampNeg ≤ nI m := h1
          rw [g3, n_ge (by omega) (by omega)] at h1
          have hm8 : m < 8 := by omega
          refine Or.inr (And.intro kd_495 (And.intro (vrl hm8 hk6) (Exists.intro (20000 + 1000 * (6 - k) + 400 - (m + 1)) (And.intro (by omega) (Exists.intro k (Exists.intro (m + 1) ⟨rfl, hk, by omega, ?_, rfl, hX⟩))))))
          show isL B D (iTip Z.1 k) 0 (iLeg Z.1 k) (iCar Z.1 k) (some (.int (nI k))) (some (.int (lgC Z.1 k m + M'.1 (B + 495) ((6 : Int32) * nI m + nI k).toNatClampNeg))) (some (.int (nI m + 1))) none = _
          rw [rrl hR hm8 hk6, nI_1]
          rfl
      · obtain ⟨k, w, rfl, hk, hw, rfl, rfl, hX⟩ := hi
        have hR := hX.1.2.2.1
        have hk6 : k < 6 := by omega
        refine ⟨200, And.intro (fun h1 => ?_) (fun h1 => ?_)⟩
        · have h1 : (5 : Int32) ≤ nI w := h1
          rw [show (5 : Int32) = nI 5 from rfl, n_ge (by decide) (by omega)] at h1
          have ew : w = 5 := by omega
          subst ew
          have nxt : ∀ M3, IX B D Z 0 (7 + 8 * (k + 1)) M3 → ∃ n', n' < 20000 + 1000 * (6 - k) + 300 - 5 ∧ ∃ k', n' = 20000 + 1000 * (6 - k') + 500 ∧ k' ≤ cn Z.1 ∧ isL B D (iTip Z.1 (k + 1)) 0 (iLeg Z.1 (k + 1)) (iCar Z.1 (k + 1)) (some (.int (nI k + 1))) none none none = isL B D (iTip Z.1 k') (0) (iLeg Z.1 k') (iCar Z.1 k') (some (.int (nI k'))) (none) (none) (none) ∧ ([] : List Value) = [] ∧ IX B D Z 0 (7 + 8 * k') M3 :=
            fun M3 g => ⟨20000 + 1000 * (6 - (k + 1)) + 500, by omega, k + 1, rfl, by omega, by rw [nI_1], rfl, g⟩
          refine And.intro (fun z => absurd z (by decide)) (fun _ => And.intro (Nat.le_trans hX.2.2 (by omega)) (And.intro rfl (Exists.intro Z (And.intro hX.1.1 (And.intro hX.1.2.1 (fun M1 a1 b1 => ?_))))))
          have hX1 := IX_call hX hD sm_courier a1 b1
          have hR1 := hX1.1.2.2.1
          refine And.intro (fun z => absurd ?_ z) (fun _ => Or.inr (And.intro kd_493 (And.intro (vrc3 hk6) (And.intro (fun h2 => ?_) (fun h2 => Or.inr (And.intro kd_493 (And.intro (vrc4 hk6) ?_)))))))
          · exact hv_courier (w := 5) hW hk (by decide)
          · exact nxt _ (IX_up hX1 (by omega))
          · have h2 : ¬ M1.1 (B + 493) ((5 : Int32) * nI k + 3).toNatClampNeg < 2 := h2
            rw [rrc3 hR1 hk6] at h2
            have c3 : sC Z.1 k 3 = 2 := by
              rcases (hW.2.2.2.2.1 k hk).2 with ⟨y, -⟩ | ⟨q', -, -, y⟩
              · rw [y] at h2; exact absurd (by decide) h2
              · rcases y with y | y
                · rw [y] at h2; exact absurd (by decide) h2
                · exact y.1
            obtain ⟨q, hq, ec4, -⟩ := WF_with hW hk (by rw [c3]; decide)
            have q4 := WF_car1 hW hk c3 ec4 hq
            have q5 := hI.2.2.2.2.1 k q hk hq c3 ec4
            have f4 : M1.1 (B + 493) ((5 : Int32) * nI k + 4).toNatClampNeg = nI q := (rrc4 hR1 hk6).trans ec4
            refine And.intro (Nat.le_trans hX1.2.2 (by omega)) (And.intro rfl (Exists.intro Z (And.intro hX1.1.1 (And.intro hX1.1.2.1 (fun M2 a2 b2 => ?_)))))
            have hX2 := IX_call hX1 hD sm_parcel a2 b2
            have hR2 := hX2.1.2.2.1
            have f42 : M2.1 (B + 493) ((5 : Int32) * nI k + 4).toNatClampNeg = nI q := (rrc4 hR2 hk6).trans ec4
            refine Or.inr (And.intro kd_493 (And.intro (vrc1 hk6) (And.intro (fun z => absurd ?_ z) (fun _ => Or.inr (And.intro kd_493 (And.intro (vrc4 hk6) (And.intro (Nat.le_trans hX2.2.2 (by omega)) (And.intro rfl (Exists.intro Z (And.intro hX2.1.1 (And.intro hX2.1.2.1 (fun M3 a3 b3 => ?_))))))))))))
            · show hv (-100001) (-100002) (opParcel (M1.1 (B + 493) ((5 : Int32) * nI k + 4).toNatClampNeg) (nI 5) Z) = M2.1 (B + 493) ((5 : Int32) * nI k + 1).toNatClampNeg
              rw [f4, hv_parcel (w := 5) hW hq (by decide), rrc1 hR2 hk6]
              exact q5
            · have hX3 := IX_call hX2 hD sm_parcel a3 b3
              refine And.intro (fun z => absurd ?_ z) (fun _ => nxt _ (IX_up hX3 (by omega)))
              show hv (-100001) (-100002) (opParcel (M2.1 (B + 493) ((5 : Int32) * nI k + 4).toNatClampNeg) (nI 4) Z) = 1
              rw [f42, hv_parcel (w := 4) hW hq (by decide)]
              exact q4
        · have h1 : ¬ (5 : Int32) ≤ nI w := h1
          rw [show (5 : Int32) = nI 5 from rfl, n_ge (by decide) (by omega)] at h1
          have hw5 : w < 5 := by omega
          refine And.intro (fun z => absurd z (by decide)) (fun _ => And.intro (Nat.le_trans hX.2.2 (by omega)) (And.intro rfl (Exists.intro Z (And.intro hX.1.1 (And.intro hX.1.2.1 (fun M1 a1 b1 => ?_))))))
          have hX1 := IX_call hX hD sm_courier a1 b1
          refine Or.inr (And.intro kd_493 (And.intro (vrcw hk6 hw5) (And.intro (fun z => absurd ?_ z) (fun _ => ?_))))
          · refine (hv_courier hW hk (by omega)).trans ?_
            refine Eq.trans ?_ (rrcw hX1.1.2.2.1 hk6 hw5).symm
            exact if_pos hw5
          · refine Exists.intro (20000 + 1000 * (6 - k) + 300 - (w + 1)) (And.intro (by omega) (Exists.intro k (Exists.intro (w + 1) ⟨rfl, hk, by omega, ?_, rfl, hX1⟩)))
            show isL B D (iTip Z.1 (k + 1)) 0 (iLeg Z.1 (k + 1)) (iCar Z.1 (k + 1)) (some (.int (nI k))) (some (.int (lgC Z.1 k (pn Z.1)))) (some (.int (nI w + 1))) none = _
            rw [nI_1]
      · obtain ⟨m, rfl, hm, rfl, rfl, hX⟩ := hi
        have hR := hX.1.2.2.1
        have g3 : M'.1 (B + 492) (3 : Int32).toNatClampNeg = nI (pn Z.1) := (rrg3 hR).trans e3
        refine ⟨300, Or.inr (And.intro kd_492 (And.intro vrg3 (And.intro (fun h1 => ?_) (fun h1 => And.intro (fun z => absurd z (by decide)) (fun _ => ?_)))))⟩
        · have h1 : M'.1 (B + 492) (3 : Int32).toNatClampNeg ≤ nI m := h1
          rw [g3, n_ge (by omega) (by omega)] at h1
          have em : m = pn Z.1 := by omega
          subst em
          have v4 : ∀ i, i < 4 → fw_sd (vp_in (nI i) 4) := fun i hi => vn_i hi (by decide)
          refine And.intro (fun z => absurd z (by decide)) (fun _ => ?_)
          refine And.intro (Nat.le_trans hX.2.2 (by omega)) (And.intro rfl (Exists.intro Z (And.intro hX.1.1 (And.intro hX.1.2.1 (fun M1 a1 b1 => ?_)))))
          have hX1 := IX_call hX hD sm_value a1 b1
          refine Or.inl (And.intro rfl (And.intro (v4 0 (by decide)) (And.intro (fun z => absurd ?_ z) (fun _ => ?_))))
          · exact (hv_value (w := 4) (by decide)).trans (hX1.2.1 0 (by decide)).symm
          refine And.intro (Nat.le_trans hX1.2.2 (by omega)) (And.intro rfl (Exists.intro Z (And.intro hX1.1.1 (And.intro hX1.1.2.1 (fun M2 a2 b2 => ?_)))))
          have hX2 := IX_call hX1 hD sm_value a2 b2
          refine Or.inl (And.intro rfl (And.intro (v4 1 (by decide)) (And.intro (fun z => absurd ?_ z) (fun _ => ?_))))
          · exact (hv_value (w := 5) (by decide)).trans (hX2.2.1 1 (by decide)).symm
          refine And.intro (Nat.le_trans hX2.2.2 (by omega)) (And.intro rfl (Exists.intro Z (And.intro hX2.1.1 (And.intro hX2.1.2.1 (fun M3 a3 b3 => ?_)))))
          have hX3 := IX_call hX2 hD sm_value a3 b3
          refine Or.inl (And.intro rfl (And.intro (v4 2 (by decide)) (And.intro (fun z => absurd ?_ z) (fun _ => ?_))))
          · exact (hv_value (w := 6) (by decide)).trans (hX3.2.1 2 (by decide)).symm
          refine And.intro (Nat.le_trans hX3.2.2 (by omega)) (And.intro rfl (Exists.intro Z (And.intro hX3.1.1 (And.intro hX3.1.2.1 (fun M4 a4 b4 => ?_)))))
          have hX4 := IX_call hX3 hD sm_value a4 b4
          refine Or.inl (And.intro rfl (And.intro (v4 3 (by decide)) (And.intro (fun z => absurd ?_ z) (fun _ => ?_))))
          · exact (hv_value (w := 7) (by decide)).trans (hX4.2.1 3 (by decide)).symm
          have hR4 := hX4.1.2.2.1
          refine Or.inl (And.intro rfl (And.intro (v4 1 (by decide)) (And.intro (fun z => absurd ?_ z) (fun _ => Or.inr (And.intro kd_492 (And.intro vrg6 (And.intro (fun z => absurd ?_ z) (fun _ => Or.inr (And.intro kd_492 (And.intro vrg6 (And.intro (fun z => absurd ?_ z) (fun _ => Or.inr (And.intro kd_492 (And.intro vrg5 (And.intro (fun z => absurd z ?_) (fun _ => And.intro (Or.inr rfl) ⟨?_, ?_⟩))))))))))))))))
          · exact (carried_eq hI hW).trans (hX4.2.1 1 (by decide)).symm
          · exact hI.1.trans (rrg6 hR4).symm
          · exact hI.2.1.trans (rrg6 hR4).symm
          · show ¬ M4.1 (B + 492) (5 : Int32).toNatClampNeg < iLeg Z.1 (cn Z.1)
            rw [rrg5 hR4]
            exact Int32.not_lt.mpr (legs_le (by omega) hI)
          · exact h _ hX4.1
          · exact Nat.le_trans hX4.2.2 (by omega)
        · have h1 : ¬ M'.1 (B + 492) (3 : Int32).toNatClampNeg ≤ nI m := h1
          rw [g3, n_ge (by omega) (by omega)] at h1
          have hm8 : m < 8 := by omega
          have hmn : m < pn Z.1 := by omega
          obtain ⟨q, hq, eq⟩ := (hW.2.2.2.2.2.2 m hmn).2.2.2.1
          have f4 : M'.1 (B + 494) ((8 : Int32) * nI m + 4).toNatClampNeg = nI q := (rrp4 hR hm8).trans eq
          have f7 := rrp7 hR hm8
          have vq : fw_sd (vp_in (M'.1 (B + 494) ((8 : Int32) * nI m + 4).toNatClampNeg) 4) := by rw [f4]; exact vn_i (by omega) (by decide)
          refine Or.inr (And.intro kd_494 (And.intro (vrp4 hm8) (Or.inl (And.intro rfl (And.intro vq (Or.inl (And.intro rfl (And.intro vq (Or.inr (And.intro kd_494 (And.intro (vrp7 hm8) ?_)))))))))))
          have hX1 : IX B D Z (m + 1) (55 + 22 * m + 0) (fw_st M' D (M'.1 (B + 494) ((8 : Int32) * nI m + 4).toNatClampNeg).toNatClampNeg (M'.1 D (M'.1 (B + 494) ((8 : Int32) * nI m + 4).toNatClampNeg).toNatClampNeg + 1)) := by
            refine ⟨LZ_st hX.1 hD, fun q' hq' => ?_, hX.2.2⟩
            rw [f4, n_cl (by omega)]
            show _ = inSt Z.1 (nI q') m + (if sP Z.1 m 4 = nI q' then 1 else 0)
            rw [eq]
            by_cases e : q' = q
            · subst e
              rw [st_s, hX.2.1 q' hq', if_pos rfl]
            · rw [st_n e, hX.2.1 q' hq', if_neg (fun y => e (by rw [nI_eq (by omega) (by omega)] at y; exact y.symm)), Int32.add_zero]
          have f7' := rrp7 hX1.1.2.2.1 hm8
          refine Exists.intro (1000 * (8 - m) + 800 - 0) (And.intro (by omega) (Exists.intro m (Exists.intro 0 ⟨rfl, hmn, Nat.zero_le _, ?_, rfl, hX1⟩)))
          show isL B D (iTip Z.1 (cn Z.1)) (iGot Z.1 m + (fw_st M' D (M'.1 (B + 494) ((8 : Int32) * nI m + 4).toNatClampNeg).toNatClampNeg (M'.1 D (M'.1 (B + 494) ((8 : Int32) * nI m + 4).toNatClampNeg).toNatClampNeg + 1)).1 (B + 494) ((8 : Int32) * nI m + 7).toNatClampNeg) (iLeg Z.1 (cn Z.1)) (iCar Z.1 (cn Z.1)) (some (.int (nI m))) (some (.int 0)) (some (.int 0)) (some (.int 0)) = _
          rw [f7']
          rfl
      · obtain ⟨m, w, rfl, hm, hw, rfl, rfl, hX⟩ := hi
        have hm8 : m < 8 := by omega
        refine ⟨100, And.intro (fun h1 => ?_) (fun h1 => ?_)⟩
        · have h1 : (8 : Int32) ≤ nI w := h1
          rw [show (8 : Int32) = nI 8 from rfl, n_ge (by decide) (by omega)] at h1
          have ew : w = 8 := by omega
          subst ew
          exact Exists.intro (1000 * (8 - m) + 700 - 0) (And.intro (by omega) (Exists.intro m (Exists.intro 0 ⟨rfl, hm, Nat.zero_le _, rfl, rfl, hX⟩)))
        · have h1 : ¬ (8 : Int32) ≤ nI w := h1
          rw [show (8 : Int32) = nI 8 from rfl, n_ge (by decide) (by omega)] at h1
          have hw8 : w < 8 := by omega
          refine And.intro (fun z => absurd z (by decide)) (fun _ => And.intro (Nat.le_trans hX.2.2 (by omega)) (And.intro rfl (Exists.intro Z (And.intro hX.1.1 (And.intro hX.1.2.1 (fun M1 a1 b1 => ?_))))))
          have hX1 := IX_call hX hD sm_parcel a1 b1
          refine Or.inr (And.intro kd_494 (And.intro (vrpw hm8 hw8) (And.intro (fun z => absurd ?_ z) (fun _ => ?_))))
          · refine (hv_parcel hW hm (by omega)).trans ?_
            refine Eq.trans ?_ (rrpw hX1.1.2.2.1 hm8 hw8).symm
            exact if_pos hw8
          · refine Exists.intro (1000 * (8 - m) + 800 - (w + 1)) (And.intro (by omega) (Exists.intro m (Exists.intro (w + 1) ⟨rfl, hm, by omega, ?_, rfl, hX1⟩)))
            show isL B D (iTip Z.1 (cn Z.1)) (iGot Z.1 (m + 1)) (iLeg Z.1 (cn Z.1)) (iCar Z.1 (cn Z.1)) (some (.int (nI m))) (some (.int 0)) (some (.int 0)) (some (.int (nI w + 1))) = _
            rw [nI_1]
      · obtain ⟨m, k, rfl, hm, hk, rfl, rfl, hX⟩ := hi
        have hm8 : m < 8 := by omega
        have hR := hX.1.2.2.1
        have g2 : M'.1 (B + 492) (2 : Int32).toNatClampNeg = nI (cn Z.1) := (rrg2 hR).trans e2
        obtain ⟨f, t', z', f1, f2, f3, f4, f5, f6, f7, f8, f9, f10, f11, f12⟩ := hI.2.2.2.2.2.1 m hm
        refine ⟨200, Or.inr (And.intro kd_492 (And.intro vrg2 (And.intro (fun h1 => And.intro (fun z => absurd z (by decide)) (fun _ => ?_)) (fun h1 => ?_))))⟩
        · have h1 : M'.1 (B + 492) (2 : Int32).toNatClampNeg ≤ nI k := h1
          rw [g2, n_ge (by omega) (by omega)] at h1
          have ek : k = cn Z.1 := by omega
          subst ek
          have es : iSum Z.1 m (cn Z.1) = nI (ds f z') := by
            rw [← f9]
            exact (sI_ext 6 hn (fun i h1 h2 => (f12 i h2 h1).1)).symm
          have eh : iShr Z.1 m (cn Z.1) = sP Z.1 m 7 := by
            rw [← f10]
            exact (sI_ext 6 hn (fun i h1 h2 => (f12 i h2 h1).2)).symm
          refine And.intro (Nat.le_trans hX.2.2 (by omega)) (And.intro rfl (Exists.intro Z (And.intro hX.1.1 (And.intro hX.1.2.1 (fun M1 a1 b1 => ?_)))))
          have hX1 := IX_call hX hD sm_parcel a1 b1
          have hR1 := hX1.1.2.2.1
          refine And.intro (fun z => absurd ?_ z) (fun _ => Or.inr (And.intro kd_494 (And.intro (vrp hm8) (Or.inr (And.intro kd_494 (And.intro (vrp5 hm8) (And.intro (Nat.le_trans hX1.2.2 (by omega)) (And.intro rfl (Exists.intro Z (And.intro hX1.1.1 (And.intro hX1.1.2.1 (fun M2 a2 b2 => ?_))))))))))))
          · refine (hv_parcel (w := 8) hW hm (by decide)).trans ?_
            show lsum Z.1 m 6 = _
            rw [lsum_sI, f9, es]
          · have hX2 := IX_call hX1 hD sm_dist a2 b2
            have hR2 := hX2.1.2.2.1
            refine And.intro (fun z => absurd ?_ z) (fun _ => Or.inr (And.intro kd_494 (And.intro (vrp7 hm8) (And.intro (fun z => absurd ?_ z) (fun _ => ?_)))))
            · show iSum Z.1 m (cn Z.1) = hv (-100001) 0 (opDist (M1.1 (B + 494) ((8 : Int32) * nI m).toNatClampNeg) (M1.1 (B + 494) ((8 : Int32) * nI m + 5).toNatClampNeg) Z)
              rw [rrp hR1 hm8, rrp5 hR1 hm8, f4, f6, hv_dist f1 f3, dist_n f f1 z' f3]
              exact es
            · show iShr Z.1 m (cn Z.1) = M2.1 (B + 494) ((8 : Int32) * nI m + 7).toNatClampNeg
              rw [rrp7 hR2 hm8]
              exact eh
            · refine Exists.intro (1000 * (8 - (m + 1)) + 900) (And.intro (by omega) (Exists.intro (m + 1) ⟨rfl, by omega, ?_, rfl, IX_up hX2 (by omega)⟩))
              show isL B D (iTip Z.1 (cn Z.1)) (iGot Z.1 (m + 1)) (iLeg Z.1 (cn Z.1)) (iCar Z.1 (cn Z.1)) (some (.int (nI m + 1))) none none none = _
              rw [nI_1]
        · have h1 : ¬ M'.1 (B + 492) (2 : Int32).toNatClampNeg ≤ nI k := h1
          rw [g2, n_ge (by omega) (by omega)] at h1
          have hkn : k < cn Z.1 := by omega
          have hk6 : k < 6 := by omega
          have r1 := rrl hR hm8 hk6
          have r2 := rrh hR hm8 hk6
          refine Or.inr (And.intro kd_495 (And.intro (vrl hm8 hk6) (Or.inr (And.intro kd_496 (And.intro (vrh hm8 hk6) (And.intro (fun z => absurd z (by decide)) (fun _ => And.intro (Nat.le_trans hX.2.2 (by omega)) (And.intro rfl (Exists.intro Z (And.intro hX.1.1 (And.intro hX.1.2.1 (fun M1 a1 b1 => ?_))))))))))))
          have hX1 := IX_call hX hD sm_legs a1 b1
          have hR1 := hX1.1.2.2.1
          refine Or.inr (And.intro kd_495 (And.intro (vrl hm8 hk6) (And.intro (fun z => absurd ?_ z) (fun _ => And.intro (Nat.le_trans hX1.2.2 (by omega)) (And.intro rfl (Exists.intro Z (And.intro hX1.1.1 (And.intro hX1.1.2.1 (fun M2 a2 b2 => ?_)))))))))
          · exact (hv_legs hW hm hkn).trans (rrl hR1 hm8 hk6).symm
          · have hX2 := IX_call hX1 hD sm_legs a2 b2
            have hR2 := hX2.1.2.2.1
            refine Or.inr (And.intro kd_496 (And.intro (vrh hm8 hk6) (And.intro (fun z => absurd ?_ z) (fun _ => ?_))))
            · exact (hv_legs hW hm hkn).trans (rrh hR2 hm8 hk6).symm
            · refine Exists.intro (1000 * (8 - m) + 700 - (k + 1)) (And.intro (by omega) (Exists.intro m (Exists.intro (k + 1) ⟨rfl, hm, by omega, ?_, rfl, hX2⟩)))
              show isL B D (iTip Z.1 (cn Z.1)) (iGot Z.1 (m + 1)) (iLeg Z.1 (cn Z.1)) (iCar Z.1 (cn Z.1)) (some (.int (nI m))) (some (.int (iSum Z.1 m k + M'.1 (B + 495) ((6 : Int32) * nI m + nI k).toNatClampNeg))) (some (.int (iShr Z.1 m k + M'.1 (B + 496) ((6 : Int32) * nI m + nI k).toNatClampNeg))) (some (.int (nI k + 1))) = _
              rw [r1, r2, nI_1]
              rfl
  · exact h.elim
end WLI

/-! THE LAW'S OWN METHODS WALKED: ticks -/
section WLT
abbrev tkL (B n : Nat) (t : Int32) (o7 o8 o9 : Option Value) : fw_L := [some (.ref (B + 492)), some (.ref (B + 493)), some (.ref (B + 494)), some (.ref (B + 495)), some (.ref (B + 496)), some (.int (nI n)), some (.int t), o7, o8, o9]
abbrev tkT (S : Sx) (i : Nat) : Sx := upd (tkN S i) 0 (tkN S i 0 + 1)
abbrev tkF (S : Sx) (i m : Nat) : Sx := flW (tkA (tkN S i)) m
def tkC (T : Sx) (m : Nat) : Prop := sP T m 4 < 2 ∧ sP T m 2 + T 1 < T 0
set_option maxRecDepth 100000 in
theorem wk_L_ticks (B : Nat) : fw_Wk B fl_L (cal_L_ticks B) [] [] none kL_ticks 10 (ct_L_ticks B) := by
  intro as M Q QX h
  unfold ct_L_ticks at h
  split at h
  · obtain ⟨rfl, rfl, rfl, rfl, rfl, b, S, n, hR, hW, hb, hpn, hn2, rfl, h⟩ := h
    have hn := hW.2.1
    have hm24 := hW.2.2.2.1
    have k2 : ∀ i, tkN S i 2 = nI (cn S) := fun i => (tkN_lo (by decide) (by decide) i).trans hW.1
    have k3 : ∀ i, tkN S i 3 = nI (pn S) := fun i => (tkN_lo (by decide) (by decide) i).trans hW.2.2.1
    have c2 : ∀ X : Sx, X 2 = nI (cn S) → cn X = cn S := fun X e => by unfold cn at e ⊢; rw [e, n_cl (by have := hn; unfold cn at this; omega)]
    have c3 : ∀ X : Sx, X 3 = nI (pn S) → pn X = pn S := fun X e => by unfold pn at e ⊢; rw [e, n_cl (by have := hm24; unfold pn at this; omega)]
    have a2 : ∀ i k, actW (tkT S i) k 2 = nI (cn S) := fun i k => (actW_lo (by decide) k).trans ((upd_n (by decide)).trans (k2 i))
    have a3 : ∀ i k, actW (tkT S i) k 3 = nI (pn S) := fun i k => (actW_lo (by decide) k).trans ((upd_n (by decide)).trans (k3 i))
    have f2 : ∀ i m, tkF S i m 2 = nI (cn S) := fun i m => (flW_lo (by decide) m).trans ((tkA_lo (by decide) (by decide)).trans (k2 i))
    have f3 : ∀ i m, tkF S i m 3 = nI (pn S) := fun i m => (flW_lo (by decide) m).trans ((tkA_lo (by decide) (by decide)).trans (k3 i))
    have hWi : ∀ i, WF (b + 6 * i) (tkN S i) := fun i => WF_tkN hW i
    have hWT : ∀ i, WF (b + 6 * i) (tkT S i) := fun i => WF_time _ (hWi i)
    have cT : ∀ i, cn (tkT S i) = cn S := fun i => c2 _ ((upd_n (by decide)).trans (k2 i))
    have etk : ∀ i, tkN S (i + 1) = tkF S i (pn S) := fun i => by
      show flW (tkA (tkN S i)) (pn (tkN S i)) = _
      rw [c3 _ (k3 i)]
    have eta : ∀ i, tkA (tkN S i) = actW (tkT S i) (cn S) := fun i => by
      show actW (tkT S i) (cn (tkN S i)) = _
      rw [c2 _ (k2 i)]
    refine ⟨rfl, [
      (3, [true, true, true, true, true, true, true, false, false, false], fun w ls st M' => ∃ i, w = 1000 * (n - i) ∧ i ≤ n ∧ ls = tkL B n (nI i) none none none ∧ st = [] ∧ RW B M' (tkN S i) ∧ FL B M M'),
      (20, [true, true, true, true, true, true, true, true, false, false], fun w ls st M' => ∃ i k, w = 1000 * (n - i) - 1 - k ∧ i < n ∧ k ≤ cn S ∧ ls = tkL B n (nI i) (some (.int (nI k))) none none ∧ st = [] ∧ RW B M' (actW (tkT S i) k) ∧ FL B M M'),
      (48, [true, true, true, true, true, true, true, true, false, false], fun w ls st M' => ∃ i m, w = 1000 * (n - i) - 100 - 20 * m ∧ i < n ∧ m ≤ pn S ∧ ls = tkL B n (nI i) (some (.int (nI m))) none none ∧ st = [] ∧ RW B M' (tkF S i m) ∧ FL B M M'),
      (125, [true, true, true, true, true, true, true, true, true, true], fun w ls st M' => ∃ i m k f, w = 1000 * (n - i) - 100 - 20 * m - 1 - k ∧ i < n ∧ m < pn S ∧ k ≤ cn S ∧ ((f = 1 ∧ tkC (tkF S i m) m ∧ RW B M' (frW (uP (tkF S i m) m 4 3) m k)) ∨ (f = 0 ∧ ¬ tkC (tkF S i m) m ∧ RW B M' (tkF S i m))) ∧ ls = tkL B n (nI i) (some (.int (nI m))) (some (.int f)) (some (.int (nI k))) ∧ st = [] ∧ FL B M M')], ⟨40, ?_⟩, ?_⟩
    · exact Exists.intro (1000 * (n - 0)) (Exists.intro 0 ⟨rfl, Nat.zero_le _, rfl, rfl, hR, FL_id⟩)
    · intro r hr w ls st M' hi
      simp only [List.mem_cons, List.not_mem_nil, or_false] at hr
      rcases hr with rfl | rfl | rfl | rfl
      · obtain ⟨i, rfl, hi, rfl, rfl, hR1, hF1⟩ := hi
        refine ⟨60, And.intro (fun h1 => ?_) (fun h1 => ?_)⟩
        · have h1 : nI n ≤ nI i := h1
          rw [n_ge (by omega) (by omega)] at h1
          rw [show i = n by omega] at hR1
          exact h _ hR1 hF1
        · have h1 : ¬ nI n ≤ nI i := h1
          rw [n_ge (by omega) (by omega)] at h1
          refine And.intro kd_492 (And.intro vrg0 (And.intro kd_492 (And.intro vrg0 (Exists.intro (1000 * (n - i) - 1 - 0) (And.intro (by omega) (Exists.intro i (Exists.intro 0 ⟨rfl, by omega, Nat.zero_le _, rfl, rfl, arg0 hR1, FL_s hF1⟩)))))))
      · obtain ⟨i, k, rfl, hi, hk, rfl, rfl, hR1, hF1⟩ := hi
        have g2 : M'.1 (B + 492) (2 : Int32).toNatClampNeg = nI (cn S) := (rrg2 hR1).trans (a2 i k)
        refine ⟨60, And.intro kd_492 (And.intro vrg2 (And.intro (fun h1 => ?_) (fun h1 => ?_)))⟩
        · have h1 : M'.1 (B + 492) (2 : Int32).toNatClampNeg ≤ nI k := h1
          rw [g2, n_ge (by omega) (by omega)] at h1
          rw [show k = cn S by omega, ← eta] at hR1
          exact Exists.intro (1000 * (n - i) - 100 - 20 * 0) (And.intro (by omega) (Exists.intro i (Exists.intro 0 ⟨rfl, hi, Nat.zero_le _, rfl, rfl, hR1, hF1⟩)))
        · have h1 : ¬ M'.1 (B + 492) (2 : Int32).toNatClampNeg ≤ nI k := h1
          rw [g2, n_ge (by omega) (by omega)] at h1
          have hk2 : k < cn S := by omega
          refine And.intro rfl (And.intro rfl (And.intro rfl (And.intro rfl (And.intro rfl (Exists.intro (b + 6 * i + k) (Exists.intro (actW (tkT S i) k) (Exists.intro k (And.intro hR1 (And.intro (WF_actW (hWT i) k (by rw [cT]; omega)) (And.intro (by omega) (And.intro (by rw [c3 _ (a3 i k)]; exact hpn) (And.intro (by rw [c2 _ (a2 i k)]; exact hk2) (And.intro rfl (fun M'' g3 g4 => ?_))))))))))))))
          refine Exists.intro (1000 * (n - i) - 1 - (k + 1)) (And.intro (by omega) (Exists.intro i (Exists.intro (k + 1) ⟨rfl, hi, by omega, ?_, rfl, g3, FL_tr hF1 g4⟩)))
          show tkL B n (nI i) (some (.int (nI k + 1))) none none = _
          rw [nI_1]
      · obtain ⟨i, m, rfl, hi, hm, rfl, rfl, hR1, hF1⟩ := hi
        have g3 : M'.1 (B + 492) (3 : Int32).toNatClampNeg = nI (pn S) := (rrg3 hR1).trans (f3 i m)
        refine ⟨100, And.intro kd_492 (And.intro vrg3 (And.intro (fun h1 => ?_) (fun h1 => ?_)))⟩
        · have h1 : M'.1 (B + 492) (3 : Int32).toNatClampNeg ≤ nI m := h1
          rw [g3, n_ge (by omega) (by omega)] at h1
          rw [show m = pn S by omega, ← etk] at hR1
          refine Exists.intro (1000 * (n - (i + 1))) (And.intro (by omega) (Exists.intro (i + 1) ⟨rfl, by omega, ?_, rfl, hR1, hF1⟩))
          show tkL B n (nI i + 1) none none none = _
          rw [nI_1]
        · have h1 : ¬ M'.1 (B + 492) (3 : Int32).toNatClampNeg ≤ nI m := h1
          rw [g3, n_ge (by omega) (by omega)] at h1
          have hmn : m < pn S := by omega
          have hm8 : m < 8 := by omega
          have p4 := rrp4 hR1 hm8
          have p2 := rrp2 hR1 hm8
          have key : ∀ (M'' : fw_M) (f : Int32), ((f = 1 ∧ tkC (tkF S i m) m ∧ RW B M'' (frW (uP (tkF S i m) m 4 3) m 0)) ∨ (f = 0 ∧ ¬ tkC (tkF S i m) m ∧ RW B M'' (tkF S i m))) → FL B M M'' → ∃ w', w' < 1000 * (n - i) - 100 - 20 * m ∧ ∃ i' m' k f', w' = 1000 * (n - i') - 100 - 20 * m' - 1 - k ∧ i' < n ∧ m' < pn S ∧ k ≤ cn S ∧ ((f' = 1 ∧ tkC (tkF S i' m') m' ∧ RW B M'' (frW (uP (tkF S i' m') m' 4 3) m' k)) ∨ (f' = 0 ∧ ¬ tkC (tkF S i' m') m' ∧ RW B M'' (tkF S i' m'))) ∧ tkL B n (nI i) (some (.int (nI m))) (some (.int f)) (some (.int 0)) = tkL B n (nI i') (some (.int (nI m'))) (some (.int f')) (some (.int (nI k))) ∧ ([] : List Value) = [] ∧ FL B M M'' :=
            fun M'' f hf hF => ⟨1000 * (n - i) - 100 - 20 * m - 1 - 0, by omega, i, m, 0, f, rfl, hi, hmn, Nat.zero_le _, hf, rfl, rfl, hF⟩
          have same : RW B (fw_st M' (B + 494) ((8 : Int32) * nI m + 4).toNatClampNeg (M'.1 (B + 494) ((8 : Int32) * nI m + 4).toNatClampNeg)) (tkF S i m) := by
            have := wrp4 hR1 hm8 p4
            rw [uP_self rfl] at this
            exact this
          refine And.intro kd_494 (And.intro (vrp4 hm8) (And.intro (fun h2 => And.intro (fun _ => And.intro kd_494 (And.intro (vrp4 hm8) (And.intro kd_494 (And.intro (vrp4 hm8) (key _ _ (Or.inr ⟨rfl, ?_, same⟩) (FL_s hF1)))))) (fun z => absurd rfl z)) (fun h2 => And.intro kd_494 (And.intro (vrp2 hm8) (And.intro kd_492 (And.intro vrg1 (And.intro kd_492 (And.intro vrg0 (And.intro (fun h3 => And.intro (fun _ => And.intro kd_494 (And.intro (vrp4 hm8) (And.intro kd_494 (And.intro (vrp4 hm8) (key _ _ (Or.inr ⟨rfl, ?_, same⟩) (FL_s hF1)))))) (fun z => absurd rfl z)) (fun h3 => And.intro (fun z => absurd z (by decide)) (fun _ => And.intro kd_494 (And.intro (vrp4 hm8) (key _ _ (Or.inl ⟨rfl, ?_, wrp4 hR1 hm8 rfl⟩) (FL_s hF1))))))))))))))
          · have h2 : (2 : Int32) ≤ M'.1 (B + 494) ((8 : Int32) * nI m + 4).toNatClampNeg := h2
            rw [p4] at h2
            exact fun y => absurd y.1 (Int32.not_lt.mpr h2)
          · have h3 : M'.1 (B + 492) (0 : Int32).toNatClampNeg ≤ M'.1 (B + 494) ((8 : Int32) * nI m + 2).toNatClampNeg + M'.1 (B + 492) (1 : Int32).toNatClampNeg := h3
            rw [p2, rrg0 hR1, rrg1 hR1] at h3
            exact fun y => absurd y.2 (Int32.not_lt.mpr h3)
          · have h2 : ¬ (2 : Int32) ≤ M'.1 (B + 494) ((8 : Int32) * nI m + 4).toNatClampNeg := h2
            have h3 : ¬ M'.1 (B + 492) (0 : Int32).toNatClampNeg ≤ M'.1 (B + 494) ((8 : Int32) * nI m + 2).toNatClampNeg + M'.1 (B + 492) (1 : Int32).toNatClampNeg := h3
            rw [p4] at h2
            rw [p2, rrg0 hR1, rrg1 hR1] at h3
            exact ⟨Int32.not_le.mp h2, Int32.not_le.mp h3⟩
      · obtain ⟨i, m, k, f, rfl, hi, hmn, hk, hf, rfl, rfl, hF1⟩ := hi
        have hm8 : m < 8 := by omega
        have w2 : frW (uP (tkF S i m) m 4 3) m k 2 = nI (cn S) := by rw [frW_lo (by decide), uP_lo (by decide)]; exact f2 i m
        have g2 : M'.1 (B + 492) (2 : Int32).toNatClampNeg = nI (cn S) := by
          rcases hf with ⟨-, -, y⟩ | ⟨-, -, y⟩
          · exact (rrg2 y).trans w2
          · exact (rrg2 y).trans (f2 i m)
        have fl1 : tkF S i (m + 1) = if sP (tkF S i m) m 4 < 2 ∧ sP (tkF S i m) m 2 + (tkF S i m) 1 < (tkF S i m) 0 then faiS (tkF S i m) m else tkF S i m := rfl
        have cF : cn (tkF S i m) = cn S := c2 _ (f2 i m)
        refine ⟨100, And.intro kd_492 (And.intro vrg2 (And.intro (fun h1 => ?_) (fun h1 => ?_)))⟩
        · have h1 : M'.1 (B + 492) (2 : Int32).toNatClampNeg ≤ nI k := h1
          rw [g2, n_ge (by omega) (by omega)] at h1
          have ek : k = cn S := by omega
          refine Exists.intro (1000 * (n - i) - 100 - 20 * (m + 1)) (And.intro (by omega) (Exists.intro i (Exists.intro (m + 1) ⟨rfl, hi, by omega, ?_, rfl, ?_, hF1⟩)))
          · show tkL B n (nI i) (some (.int (nI m + 1))) none none = _
            rw [nI_1]
          · rcases hf with ⟨-, y1, y2⟩ | ⟨-, y1, y2⟩
            · rw [fl1, if_pos (show sP (tkF S i m) m 4 < 2 ∧ sP (tkF S i m) m 2 + (tkF S i m) 1 < (tkF S i m) 0 from y1)]
              unfold faiS
              rw [cF, ← ek]
              exact y2
            · rw [fl1, if_neg (show ¬ (sP (tkF S i m) m 4 < 2 ∧ sP (tkF S i m) m 2 + (tkF S i m) 1 < (tkF S i m) 0) from y1)]
              exact y2
        · have h1 : ¬ M'.1 (B + 492) (2 : Int32).toNatClampNeg ≤ nI k := h1
          rw [g2, n_ge (by omega) (by omega)] at h1
          have hk6 : k < 6 := by omega
          have nxt : ∀ (M'' : fw_M), ((f = 1 ∧ tkC (tkF S i m) m ∧ RW B M'' (frW (uP (tkF S i m) m 4 3) m (k + 1))) ∨ (f = 0 ∧ ¬ tkC (tkF S i m) m ∧ RW B M'' (tkF S i m))) → FL B M M'' → ∃ w', w' < 1000 * (n - i) - 100 - 20 * m - 1 - k ∧ ∃ i' m' k' f', w' = 1000 * (n - i') - 100 - 20 * m' - 1 - k' ∧ i' < n ∧ m' < pn S ∧ k' ≤ cn S ∧ ((f' = 1 ∧ tkC (tkF S i' m') m' ∧ RW B M'' (frW (uP (tkF S i' m') m' 4 3) m' k')) ∨ (f' = 0 ∧ ¬ tkC (tkF S i' m') m' ∧ RW B M'' (tkF S i' m'))) ∧ tkL B n (nI i) (some (.int (nI m))) (some (.int f)) (some (.int (nI k + 1))) = tkL B n (nI i') (some (.int (nI m'))) (some (.int f')) (some (.int (nI k'))) ∧ ([] : List Value) = [] ∧ FL B M M'' :=
            fun M'' hf hF => ⟨1000 * (n - i) - 100 - 20 * m - 1 - (k + 1), by omega, i, m, k + 1, f, rfl, hi, hmn, by omega, hf, by rw [nI_1], rfl, hF⟩
          have fr1 : frW (uP (tkF S i m) m 4 3) m (k + 1) = if sC (frW (uP (tkF S i m) m 4 3) m k) k 4 = nI m then frS (frW (uP (tkF S i m) m 4 3) m k) k else frW (uP (tkF S i m) m 4 3) m k := rfl
          refine And.intro (fun h2 => ?_) (fun h2 => ?_)
          · have h2 : f = 0 := h2
            refine nxt _ ?_ hF1
            rcases hf with ⟨y, -, -⟩ | y
            · rw [h2] at y; exact absurd y (by decide)
            · exact Or.inr y
          · have h2 : ¬ f = 0 := h2
            rcases hf with ⟨y1, y2, y3⟩ | y
            · have d4 := rrc4 y3 hk6
              refine And.intro kd_493 (And.intro (vrc4 hk6) (And.intro (fun h3 => ?_) (fun h3 => ?_)))
              · have h3 : ¬ M'.1 (B + 493) ((5 : Int32) * nI k + 4).toNatClampNeg = nI m := h3
                rw [d4] at h3
                exact nxt _ (Or.inl ⟨y1, y2, by rw [fr1, if_neg h3]; exact y3⟩) hF1
              · have h3 : M'.1 (B + 493) ((5 : Int32) * nI k + 4).toNatClampNeg = nI m := h3
                rw [d4] at h3
                refine And.intro rfl (Exists.intro _ (Exists.intro k (And.intro y3 (And.intro hk6 (And.intro rfl (fun M'' q1 q2 => ?_))))))
                exact nxt _ (Or.inl ⟨y1, y2, by rw [fr1, if_pos h3]; exact q1⟩) (FL_tr hF1 q2)
            · exact absurd y.1 h2
  · exact h.elim
end WLT

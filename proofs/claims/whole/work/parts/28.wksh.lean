/-! THE REFERENCE'S shares, walked -/
section WS
theorem uC_lo {S : Sx} {c w k : Nat} {v : Int32} (h : k < 7) : uC S c w v k = S k := upd_n (by omega)
theorem uP_lo {S : Sx} {p w k : Nat} {v : Int32} (h : k < 37) : uP S p w v k = S k := upd_n (by omega)
theorem frS_lo {S : Sx} {c k : Nat} (h : k < 7) : frS S c k = S k := by unfold frS; rw [uC_lo h, uC_lo h]
theorem tipW_lo {S : Sx} {p k : Nat} (h : k < 7) : ∀ i, tipW S p i k = S k := by
  intro i
  induction i with
  | zero => rfl
  | succ i ih => unfold tipW; rw [uC_lo h, ih]
theorem shW_lo {S : Sx} {p k : Nat} {m : Int32} (h : k < 37) : ∀ i, shW S p m i k = S k := by
  intro i
  induction i with
  | zero => rfl
  | succ i ih => unfold shW; rw [uP_lo h, ih]
theorem cB_f {P : Nat → Bool} : ∀ n, (∀ d, d < n → P d = false) → cB P n = 0 := by
  intro n
  induction n with
  | zero => intro _; rfl
  | succ n ih =>
    intro h
    unfold cB
    rw [ih (fun d hd => h d (by omega)), h n (by omega)]
    rfl
/-- best and most of the scan -/
def gV (r : Nat → Nat) : Option Nat → Int32 × Int32
  | none => (-1, 0)
  | some b => (nI b, nI (r b))
set_option maxHeartbeats 4000000 in
set_option maxRecDepth 100000 in
theorem wk_X6_shares (B : Nat) : fw_Wk B fl_X6 (cal_X6_shares B) [] cst_X6 none kX6_shares 10 (ct_X6_shares B) := by
  intro as M Q QX h
  unfold ct_X6_shares at h
  split at h
  · obtain ⟨rfl, p, k, hp, hk, rfl, rfl, hLG, hn, hn6, h⟩ := h
    obtain ⟨A, R, L, hS⟩ := SHN_of hk hLG
    have hA := hS.2.2.1
    have hA2 := hS.2.2.2.1
    have hRk := rR_lt hS
    have hsum : lsum (mS B M) p 6 = nI A := by rw [lsum_n hS 6 (Nat.le_refl _), hS.2.1]
    generalize hN : cn (mS B M) = N at hn hn6
    have hrlt : ∀ c, k * L c % A < A := fun c => Nat.mod_lt _ hA
    refine ⟨rfl, [
      (12, [true, true, true, true, true, true, false, false, false, false], fun n ls st M' => ∃ i, n = 20000 + (6 - i) ∧ i ≤ 6 ∧ ls = [some (.ref (B + 492)), some (.int (nI p)), some (.int (nI k)), some (.int (nI A)), some (.int (rst (mS B M) p (nI k) i)), some (.int (nI i)), none, none, none, none] ∧ st = [] ∧ M' = mK B M (shF (mS B M) p (fun c => if c < i then shq (mS B M) p (nI k) c else mS B M (51 + 20 * p + c)))),
      (63, [true, true, true, true, true, true, false, false, false, false], fun n ls st M' => ∃ j v, n = 100 + 10 * (R - j) + 9 ∧ j ≤ R ∧ v < 64 ∧ (∀ c, c < 6 → v.testBit c = decide (rk (fun c => k * L c % A) c < j)) ∧ cB (fun c => decide (rk (fun c => k * L c % A) c < j)) 6 = j ∧ ls = [some (.ref (B + 492)), some (.int (nI p)), some (.int (nI k)), some (.int (nI A)), some (.int (nI (R - j))), some (.int (nI v)), none, none, none, none] ∧ st = [] ∧ M' = mK B M (shF (mS B M) p (fun c => nI (k * L c / A + (if rk (fun c => k * L c % A) c < j then 1 else 0))))),
      (77, [true, true, true, true, true, true, true, true, true, false], fun n ls st M' => ∃ j v i, n = 100 + 10 * (R - j) + (6 - i) ∧ j < R ∧ i ≤ 6 ∧ v < 64 ∧ (∀ c, c < 6 → v.testBit c = decide (rk (fun c => k * L c % A) c < j)) ∧ cB (fun c => decide (rk (fun c => k * L c % A) c < j)) 6 = j ∧ ls = [some (.ref (B + 492)), some (.int (nI p)), some (.int (nI k)), some (.int (nI A)), some (.int (nI (R - j))), some (.int (nI v)), some (.int (gV (fun c => k * L c % A) (gS (fun c => k * L c % A) (fun c => v.testBit c) i)).1), some (.int (gV (fun c => k * L c % A) (gS (fun c => k * L c % A) (fun c => v.testBit c) i)).2), some (.int (nI i)), none] ∧ st = [] ∧ M' = mK B M (shF (mS B M) p (fun c => nI (k * L c / A + (if rk (fun c => k * L c % A) c < j then 1 else 0))))),
      (171, [true, true, false, false, false, false, true, false, false, false], fun n ls st M' => ∃ i, n = N - i ∧ i ≤ N ∧ ls = [some (.ref (B + 492)), some (.int (nI p)), none, none, none, none, some (.int (nI i)), none, none, none] ∧ st = [] ∧ M' = mK B M (tipW (shW (mS B M) p (nI k) 6) p i))], ⟨30, ?_⟩, ?_⟩
    · refine And.intro kd_492 (And.intro rfl (Exists.intro p (And.intro hp (And.intro rfl ?_))))
      refine Exists.intro 20006 (Exists.intro 0 ⟨rfl, by omega, ?_, rfl, ?_⟩)
      · show [some (Value.ref (B + 492)), some (Value.int (nI p)), some (Value.int (nI k)), some (Value.int (lsum (mS B M) p 6)), some (Value.int (nI k)), some (Value.int 0), none, none, none, none] = _
        rw [hsum]
        rfl
      · rw [shF_id (fun c _ => if_neg (Nat.not_lt_zero c)), mK_S]
    · intro q hq n ls st M' hi
      simp only [List.mem_cons, List.not_mem_nil, or_false] at hq
      rcases hq with rfl | rfl | rfl | rfl
      · obtain ⟨i, rfl, hi, rfl, rfl, rfl⟩ := hi
        refine ⟨60, And.intro (fun h1 => ?_) (fun h1 => ?_)⟩
        · have h1 : nI 6 ≤ nI i := h1
          rw [n_ge (by decide) (by omega)] at h1
          have e6 : i = 6 := by omega
          subst e6
          refine Exists.intro (100 + 10 * R + 9) (And.intro (by omega) (Exists.intro 0 (Exists.intro 0 ⟨by omega, by omega, by omega, fun c hc => ?_, ?_, ?_, rfl, ?_⟩)))
          · rw [decide_eq_false (Nat.not_lt_zero _)]
            simp
          · exact cB_f 6 (fun d _ => decide_eq_false (Nat.not_lt_zero _))
          · show [some (Value.ref (B + 492)), some (Value.int (nI p)), some (Value.int (nI k)), some (Value.int (nI A)), some (Value.int (rst (mS B M) p (nI k) 6)), some (Value.int 0), none, none, none, none] = _
            rw [rst_R hS]
            rfl
          · refine congrArg (mK B M) (shF_cg (fun c hc => ?_))
            rw [if_pos hc, if_neg (Nat.not_lt_zero _), shq_n hS hc]
            rfl
        · have h1 : ¬ nI 6 ≤ nI i := h1
          rw [n_ge (by decide) (by omega)] at h1
          have hlg : mS B (mK B M (shF (mS B M) p (fun c => if c < i then shq (mS B M) p (nI k) c else mS B M (51 + 20 * p + c)))) (37 + 20 * p + (8 + i)) = nI (L i) := by
            rw [mS_K, shF_off (by omega)]
            exact (hS.1 i (by omega)).2
          refine And.intro kd_492 (And.intro rfl (And.intro (vPL hp (by omega)) ?_))
          refine And.intro (fw_sd_i (fun z => ?_)) ?_
          · have z : nI A = nI 0 := z
            rw [nI_eq (by omega) (by omega)] at z
            omega
          refine And.intro kd_492 (And.intro rfl (And.intro (vPS hp (by omega)) ?_))
          have eq : nI k * mS B (mK B M (shF (mS B M) p (fun c => if c < i then shq (mS B M) p (nI k) c else mS B M (51 + 20 * p + c)))) ((37 : Int32) + 20 * nI p + (8 + nI i)).toNatClampNeg / nI A = shq (mS B M) p (nI k) i := by
            rw [pxL, n_cl (by omega), hlg]
            unfold shq sP
            rw [hsum]
            have := (hS.1 i (by omega)).2
            unfold sP at this
            rw [this]
          refine Exists.intro (20000 + (6 - (i + 1))) (And.intro (by omega) (Exists.intro (i + 1) ⟨rfl, by omega, ?_, rfl, ?_⟩))
          · show [some (Value.ref (B + 492)), some (Value.int (nI p)), some (Value.int (nI k)), some (Value.int (nI A)), some (Value.int (rst (mS B M) p (nI k) i - nI k * mS B (mK B M (shF (mS B M) p (fun c => if c < i then shq (mS B M) p (nI k) c else mS B M (51 + 20 * p + c)))) ((37 : Int32) + 20 * nI p + (8 + nI i)).toNatClampNeg / nI A)), some (Value.int (nI i + 1)), none, none, none, none] = _
            rw [eq, nI_1]
            rfl
          · show mK B (mK B M _) (upd (mS B (mK B M _)) ((37 : Int32) + 20 * nI p + (14 + nI i)).toNatClampNeg (nI k * mS B (mK B M (shF (mS B M) p (fun c => if c < i then shq (mS B M) p (nI k) c else mS B M (51 + 20 * p + c)))) ((37 : Int32) + 20 * nI p + (8 + nI i)).toNatClampNeg / nI A)) = _
            rw [eq, pxS, n_cl (by omega), mS_K, mK_K, shF_put (by omega)]
            refine congrArg (mK B M) (shF_cg (fun c hc => ?_))
            unfold upd
            by_cases e : c = i
            · subst e
              rw [if_pos rfl, if_pos (by omega)]
            · rw [if_neg e]
              dsimp only
              by_cases e2 : c < i
              · rw [if_pos e2, if_pos (by omega)]
              · rw [if_neg e2, if_neg (by omega)]
      · obtain ⟨j, v, rfl, hj, hv, hbit, hcnt, rfl, rfl, rfl⟩ := hi
        refine ⟨60, And.intro (fun h1 => ?_) (fun h1 => ?_)⟩
        · have h1 : nI (R - j) ≤ nI 0 := h1
          rw [n_ge (by omega) (by omega)] at h1
          have e : j = R := by omega
          subst e
          refine Exists.intro N (And.intro (by omega) (Exists.intro 0 ⟨by omega, by omega, rfl, rfl, ?_⟩))
          refine congrArg (mK B M) ?_
          show _ = shW (mS B M) p (nI k) 6
          rw [shW_F 6 (Nat.le_refl _)]
          refine shF_cg (fun c hc => ?_)
          rw [if_pos hc, fsh_n hS hc]
        · have h1 : ¬ nI (R - j) ≤ nI 0 := h1
          rw [n_ge (by omega) (by omega)] at h1
          refine Exists.intro (100 + 10 * (R - j) + 6) (And.intro (by omega) (Exists.intro j (Exists.intro v (Exists.intro 0 ⟨rfl, by omega, by omega, hv, hbit, hcnt, rfl, rfl, rfl⟩))))
      · obtain ⟨j, v, i, rfl, hj, hi, hv, hbit, hcnt, rfl, rfl, rfl⟩ := hi
        refine ⟨90, And.intro (fun h1 => ?_) (fun h1 => ?_)⟩
        · have h1 : nI 6 ≤ nI i := h1
          rw [n_ge (by decide) (by omega)] at h1
          have e6 : i = 6 := by omega
          subst e6
          obtain ⟨g1, g2⟩ := gS_ok (fun c => k * L c % A) (fun c => v.testBit c) 6
          cases hg : gS (fun c => k * L c % A) (fun c => v.testBit c) 6 with
          | none =>
            exfalso
            obtain ⟨d, hd, hd1, hd2⟩ := rk_some hcnt (fun d _ => hrlt d) hS.2.2.2.2.2.2 hj
            have := g1 hg d hd (by show v.testBit d = false; rw [hbit d hd]; exact decide_eq_false hd1)
            omega
          | some b =>
            obtain ⟨k1, k2, k3, k4⟩ := g2 b hg
            have k2 : v.testBit b = false := k2
            have hbn : ¬ rk (fun c => k * L c % A) b < j := by
              rw [hbit b k1] at k2
              exact of_decide_eq_false k2
            obtain ⟨r1, r2, r3⟩ := rk_next hcnt k1 hbn (fun d hd hdn hne => k4 d hd (by show v.testBit d = false; rw [hbit d hd]; exact decide_eq_false hdn) hne)
            obtain ⟨s1, s2, s3⟩ := mk_set v hv b k1
            have eb : (gV (fun c => k * L c % A) (some b)).1 = nI b := rfl
            refine And.intro kd_492 (And.intro rfl (And.intro ?_ (And.intro kd_492 (And.intro rfl (And.intro ?_ ?_)))))
            · rw [eb]; exact vPS hp k1
            · rw [eb]; exact vPS hp k1
            refine Exists.intro (100 + 10 * (R - (j + 1)) + 9) (And.intro (by omega) (Exists.intro (j + 1) (Exists.intro (v ||| 2 ^ b) ⟨rfl, by omega, s2, fun c hc => ?_, r2, ?_, rfl, ?_⟩)))
            · rw [s3 c hc, hbit c hc]
              by_cases z : rk (fun c => k * L c % A) c < j
              · rw [decide_eq_true z, decide_eq_true (show rk (fun c => k * L c % A) c < j + 1 by omega)]; rfl
              · rw [decide_eq_false z, Bool.false_or]
                by_cases e : c = b
                · rw [decide_eq_true e, decide_eq_true ((r3 c hc).mpr (Or.inr e))]
                · rw [decide_eq_false e, decide_eq_false (fun y => ((r3 c hc).mp y).elim z e)]
            · show [some (Value.ref (B + 492)), some (Value.int (nI p)), some (Value.int (nI k)), some (Value.int (nI A)), some (Value.int (nI (R - j) + (-1))), some (Value.int (nI v ||| (1 : Int32) <<< (nI b &&& 31))), none, none, none, none] = _
              rw [s1, show R - j = (R - (j + 1)) + 1 by omega, pk_m1]
            · show mK B (mK B M _) (upd (mS B (mK B M _)) ((37 : Int32) + 20 * nI p + (14 + nI b)).toNatClampNeg (mS B (mK B M _) ((37 : Int32) + 20 * nI p + (14 + nI b)).toNatClampNeg + 1)) = _
              rw [pxS, n_cl (by omega), mS_K, mK_K, shF_get k1, shF_put k1]
              refine congrArg (mK B M) (shF_cg (fun c hc => ?_))
              unfold upd
              by_cases e : c = b
              · subst e
                rw [if_pos rfl, if_neg hbn, if_pos ((r3 c hc).mpr (Or.inr rfl)), nI_1]
              · rw [if_neg e]
                dsimp only
                by_cases z : rk (fun c => k * L c % A) c < j
                · rw [if_pos z, if_pos (by omega)]
                · rw [if_neg z, if_neg (fun y => ((r3 c hc).mp y).elim z e)]
        · have h1 : ¬ nI 6 ≤ nI i := h1
          rw [n_ge (by decide) (by omega)] at h1
          have hlg : nI k * mS B (mK B M (shF (mS B M) p (fun c => nI (k * L c / A + (if rk (fun c => k * L c % A) c < j then 1 else 0))))) ((37 : Int32) + 20 * nI p + (8 + nI i)).toNatClampNeg = nI (k * L i) := by
            rw [pxL, n_cl (by omega)]
            rw [mS_K, shF_off (by omega)]
            have := (hS.1 i (by omega)).2
            unfold sP at this
            rw [this, n_mul]
          have key : ∀ o : Option Nat, gS (fun c => k * L c % A) (fun c => v.testBit c) (i + 1) = o → ∃ n', n' < 100 + 10 * (R - j) + (6 - i) ∧ ∃ j' v' i', n' = 100 + 10 * (R - j') + (6 - i') ∧ j' < R ∧ i' ≤ 6 ∧ v' < 64 ∧ (∀ c, c < 6 → v'.testBit c = decide (rk (fun c => k * L c % A) c < j')) ∧ cB (fun c => decide (rk (fun c => k * L c % A) c < j')) 6 = j' ∧ [some (Value.ref (B + 492)), some (Value.int (nI p)), some (Value.int (nI k)), some (Value.int (nI A)), some (Value.int (nI (R - j))), some (Value.int (nI v)), some (Value.int (gV (fun c => k * L c % A) o).1), some (Value.int (gV (fun c => k * L c % A) o).2), some (Value.int (nI i + 1)), none] = [some (.ref (B + 492)), some (.int (nI p)), some (.int (nI k)), some (.int (nI A)), some (.int (nI (R - j'))), some (.int (nI v')), some (.int (gV (fun c => k * L c % A) (gS (fun c => k * L c % A) (fun c => v'.testBit c) i')).1), some (.int (gV (fun c => k * L c % A) (gS (fun c => k * L c % A) (fun c => v'.testBit c) i')).2), some (.int (nI i')), none] ∧ ([] : List Value) = [] ∧ (mK B M (shF (mS B M) p (fun c => nI (k * L c / A + (if rk (fun c => k * L c % A) c < j then 1 else 0))))) = mK B M (shF (mS B M) p (fun c => nI (k * L c / A + (if rk (fun c => k * L c % A) c < j' then 1 else 0)))) := by
            intro o ho
            exact ⟨100 + 10 * (R - j) + (6 - (i + 1)), by omega, j, v, i + 1, rfl, hj, by omega, hv, hbit, hcnt, by rw [ho, nI_1], rfl, rfl⟩
          have hmr : nI (k * L i) - nI (k * L i) / nI A * nI A = nI (k * L i % A) := pk_rem (kL_lt hS (by omega)) hA (by omega)
          have hmost : ∃ w, w < 1000000 ∧ (gV (fun c => k * L c % A) (gS (fun c => k * L c % A) (fun c => v.testBit c) i)).2 = nI w ∧ w = (match gS (fun c => k * L c % A) (fun c => v.testBit c) i with | none => 0 | some b => k * L b % A) := by
            cases gS (fun c => k * L c % A) (fun c => v.testBit c) i with
            | none => exact ⟨0, by omega, rfl, rfl⟩
            | some b => exact ⟨k * L b % A, by have := hrlt b; omega, rfl, rfl⟩
          obtain ⟨w, hw1, hw2, hw3⟩ := hmost
          have hri := hrlt i
          refine And.intro kd_492 (And.intro rfl (And.intro (vPL hp (by omega)) ?_))
          refine And.intro (fw_sd_i (fun z => ?_)) ?_
          · have z : nI A = nI 0 := z
            rw [nI_eq (by omega) (by omega)] at z
            omega
          refine And.intro (fun h2 => ?_) (fun h2 => ?_)
          · have h2 : ¬ (nI v >>> (nI i &&& 31)) &&& 1 = 0 := h2
            refine key _ ?_
            rw [gS, if_neg]
            rintro ⟨z, -⟩
            exact h2 ((mk_bit v hv i (by omega)).mpr z)
          · have h2 : (nI v >>> (nI i &&& 31)) &&& 1 = 0 := h2
            have h2 := (mk_bit v hv i (by omega)).mp h2
            refine And.intro (fun h3 => ?_) (fun h3 => ?_)
            · have h3 : nI k * mS B (mK B M _) ((37 : Int32) + 20 * nI p + (8 + nI i)).toNatClampNeg - nI k * mS B (mK B M _) ((37 : Int32) + 20 * nI p + (8 + nI i)).toNatClampNeg / nI A * nI A ≤ (gV (fun c => k * L c % A) (gS (fun c => k * L c % A) (fun c => v.testBit c) i)).2 := h3
              rw [hlg, hmr, hw2, n_ge (by omega) (by omega)] at h3
              refine key _ ?_
              rw [gS, if_neg]
              rintro ⟨-, z⟩
              have z2 : w < k * L i % A := by rw [hw3]; exact z
              omega
            · have h3 : ¬ nI k * mS B (mK B M _) ((37 : Int32) + 20 * nI p + (8 + nI i)).toNatClampNeg - nI k * mS B (mK B M _) ((37 : Int32) + 20 * nI p + (8 + nI i)).toNatClampNeg / nI A * nI A ≤ (gV (fun c => k * L c % A) (gS (fun c => k * L c % A) (fun c => v.testBit c) i)).2 := h3
              rw [hlg, hmr, hw2, n_ge (by omega) (by omega)] at h3
              have z2 : w < k * L i % A := by omega
              rw [hw3] at z2
              have hk := key (some i) (by rw [gS, if_pos ⟨h2, z2⟩])
              have e2 : (gV (fun c => k * L c % A) (some i)).2 = nI k * mS B (mK B M (shF (mS B M) p (fun c => nI (k * L c / A + (if rk (fun c => k * L c % A) c < j then 1 else 0))))) ((37 : Int32) + 20 * nI p + (8 + nI i)).toNatClampNeg - nI k * mS B (mK B M (shF (mS B M) p (fun c => nI (k * L c / A + (if rk (fun c => k * L c % A) c < j then 1 else 0))))) ((37 : Int32) + 20 * nI p + (8 + nI i)).toNatClampNeg / nI A * nI A := by
                rw [hlg, hmr]
                rfl
              rw [e2] at hk
              exact hk
      · obtain ⟨i, rfl, hi, rfl, rfl, rfl⟩ := hi
        have e2 : mS B (mK B M (tipW (shW (mS B M) p (nI k) 6) p i)) 2 = nI N := by
          rw [mS_K, tipW_lo (by omega), shW_lo (by omega), hn]
        refine ⟨60, And.intro kd_492 (And.intro kd_493 (And.intro (vn_493 (i := 2) (by decide)) (And.intro (fun h1 => ?_) (fun h1 => ?_))))⟩
        · have h1 : mS B (mK B M (tipW (shW (mS B M) p (nI k) 6) p i)) 2 ≤ nI i := h1
          rw [e2, n_ge (by omega) (by omega)] at h1
          unfold shareS at h
          rw [hN] at h
          rw [show i = N by omega]
          exact h
        · have h1 : ¬ mS B (mK B M (tipW (shW (mS B M) p (nI k) 6) p i)) 2 ≤ nI i := h1
          rw [e2, n_ge (by omega) (by omega)] at h1
          refine And.intro kd_492 (And.intro rfl (And.intro (vC2 (by omega)) (And.intro kd_492 (And.intro rfl (And.intro (vPS hp (by omega)) (And.intro kd_492 (And.intro rfl (And.intro (vC2 (by omega)) ?_))))))))
          refine Exists.intro (N - (i + 1)) (And.intro (by omega) (Exists.intro (i + 1) ⟨rfl, by omega, ?_, rfl, ?_⟩))
          · show [some (Value.ref (B + 492)), some (Value.int (nI p)), none, none, none, none, some (Value.int (nI i + 1)), none, none, none] = _
            rw [nI_1]
          · show mK B (mK B M _) (upd (mS B (mK B M _)) ((7 : Int32) + 5 * nI i + 2).toNatClampNeg (mS B (mK B M _) ((7 : Int32) + 5 * nI i + 2).toNatClampNeg + mS B (mK B M _) ((37 : Int32) + 20 * nI p + (14 + nI i)).toNatClampNeg)) = _
            rw [cx2, pxS, n_cl (by omega), n_cl (by omega), mS_K, mK_K]
            rfl
  · exact h.elim
end WS

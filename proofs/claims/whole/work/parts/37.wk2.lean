/-! THE REFERENCE'S METHODS WALKED: the rest, 2 -/
section WR2
def dN (z t : Nat) : Nat := (z % 4 - t % 4) + (t % 4 - z % 4) + ((z / 4 - t / 4) + (t / 4 - z / 4))
theorem dN_le {z t : Nat} (hz : z < 16) (ht : t < 16) : dN z t ≤ 6 := by unfold dN; omega
theorem dN_0 {z t : Nat} (hz : z < 16) (ht : t < 16) (h : dN z t = 0) : z = t := by unfold dN at h; omega
theorem dN_dist : ∀ z, z < 16 → ∀ t, t < 16 → dist (nI z) (nI t) = nI (dN z t) := by decide +kernel
theorem dN_next : ∀ z, z < 16 → ∀ t, t < 16 → z ≠ t → ∃ y, y < 16 ∧ nxz (nI z) (nI t) = nI y ∧ dN y t + 1 = dN z t := by decide +kernel
theorem rchN_stop {S : Sx} {c n : Nat} {t z : Int32} (h : ¬ (z ≠ t ∧ hs (sC S c 0) z = true ∧ hs (sC S c 0) (nxz z t) = true)) : rchN S c t n z = z := by
  cases n with
  | zero => rfl
  | succ n => unfold rchN; rw [if_neg h]
theorem rchN_ok {S : Sx} {c t : Nat} (ht : t < 16) : ∀ n z, z < 16 → ∃ r, r < 16 ∧ rchN S c (nI t) n (nI z) = nI r := by
  intro n
  induction n with
  | zero => intro z hz; exact ⟨z, hz, rfl⟩
  | succ n ih =>
    intro z hz
    unfold rchN
    by_cases h : nI z ≠ nI t ∧ hs (sC S c 0) (nI z) = true ∧ hs (sC S c 0) (nxz (nI z) (nI t)) = true
    · rw [if_pos h]
      obtain ⟨y, hy, e, -⟩ := dN_next z hz t ht (fun e => h.1 (by rw [e]))
      rw [e]; exact ih y hy
    · rw [if_neg h]; exact ⟨z, hz, rfl⟩
theorem rch_ok {S : Sx} {c z t : Nat} (hz : z < 16) (ht : t < 16) : ∃ r, r < 16 ∧ rch S c (nI z) (nI t) = nI r := rchN_ok ht 16 z hz
theorem rlB_ok {S : Sx} {z t : Nat} (hz : z < 16) (ht : t < 16) : ∀ c, ∃ r, r < 16 ∧ rlB S (nI z) (nI t) c = nI r ∧ (r = z ∨ dN r t < dN z t) := by
  intro c
  induction c with
  | zero => exact ⟨z, hz, rfl, Or.inl rfl⟩
  | succ c ih =>
    obtain ⟨r, hr, er, hd⟩ := ih
    obtain ⟨y, hy, ey⟩ := rch_ok (S := S) (c := c) hz ht
    unfold rlB
    rw [er, ey, dN_dist y hy t ht, dN_dist r hr t ht]
    by_cases h : dN y t < dN r t
    · rw [if_pos ((n_lt (by have := dN_le hy ht; omega) (by have := dN_le hr ht; omega)).mpr h)]
      refine ⟨y, hy, rfl, Or.inr ?_⟩
      rcases hd with hd | hd
      · subst hd; exact h
      · omega
    · rw [if_neg (fun e => h ((n_lt (by have := dN_le hy ht; omega) (by have := dN_le hr ht; omega)).mp e))]; exact ⟨r, hr, rfl, hd⟩
set_option maxRecDepth 100000 in
theorem wk_X6_reach (B : Nat) : fw_Wk B fl_X6 (cal_X6_reach B) [] cst_X6 (some .int) kX6_reach 5 (ct_X6_reach B) := by
  intro as M Q QX h
  unfold ct_X6_reach at h
  split at h
  · obtain ⟨rfl, c, i, j, hc, hi, hj, rfl, rfl, rfl, h⟩ := h
    refine ⟨rfl, [(3, [true, true, true, true, true], fun n ls st M' => ∃ z, z < 16 ∧ dN z j ≤ n ∧ rchN (mS B M) c (nI j) n (nI z) = rch (mS B M) c (nI i) (nI j) ∧ ls = [some (.ref (B + 492)), some (.int (nI c)), some (.int (nI i)), some (.int (nI j)), some (.int (nI z))] ∧ st = [] ∧ M' = M)], ⟨10, ?_⟩, ?_⟩
    · exact Exists.intro 16 (Exists.intro i ⟨hi, by have := dN_le hi hj; omega, rfl, rfl, rfl, rfl⟩)
    · intro q hq n ls st M' hi
      cases List.mem_singleton.mp hq
      obtain ⟨z, hz, hd, hr, rfl, rfl, rfl⟩ := hi
      have stop : ¬ (nI z ≠ nI j ∧ hs (sC (mS B M') c 0) (nI z) = true ∧ hs (sC (mS B M') c 0) (nxz (nI z) (nI j)) = true) → Q (some (.int (nI z))) M' := fun e => by
        rw [← hr, rchN_stop e] at h; exact h
      refine ⟨60, And.intro (fun h1 => ?_) (fun h1 => And.intro kd_492 (And.intro rfl (Exists.intro c (And.intro hc (And.intro rfl (And.intro (fun h2 => ?_) (fun h2 => And.intro kd_492 (And.intro rfl (Exists.intro c (And.intro hc (And.intro rfl (And.intro (fun h3 => ?_) (fun h3 => ?_)))))))))))))⟩
      · have h1 : nI z = nI j := h1
        exact stop (fun e => e.1 h1)
      · have h2 := bi_0.mp h2
        exact stop (fun e => by rw [h2] at e; exact absurd e.2.1 (by decide))
      · have h3 := bi_0.mp h3
        exact stop (fun e => by rw [h3] at e; exact absurd e.2.2 (by decide))
      · have h1 : ¬ nI z = nI j := h1
        have h2 := bi_n0.mp h2
        have h3 := bi_n0.mp h3
        obtain ⟨y, hy, ey, ed⟩ := dN_next z hz j hj (fun e => h1 (by rw [e]))
        obtain ⟨n', rfl⟩ : ∃ n', n = n' + 1 := ⟨n - 1, by omega⟩
        refine Exists.intro n' (And.intro (by omega) (Exists.intro y ⟨hy, by omega, ?_, ?_, rfl, rfl⟩))
        · rw [← hr]
          conv => rhs; unfold rchN
          rw [if_pos ⟨h1, h2, h3⟩, ey]
        · show [some (Value.ref (B + 492)), some (Value.int (nI c)), some (Value.int (nI i)), some (Value.int (nI j)), some (Value.int (nxz (nI z) (nI j)))] = _
          rw [ey]
  · exact h.elim
theorem n4s : fw_sd (¬ (4 : Int32) = 0) := fw_sd_i (by decide)
set_option maxRecDepth 100000 in
theorem wk_X6_relays (B : Nat) : fw_Wk B fl_X6 (cal_X6_relays B) [] cst_X6 (some .int) kX6_relays 9 (ct_X6_relays B) := by
  intro as M Q QX h
  unfold ct_X6_relays at h
  split at h
  · obtain ⟨rfl, b, p, hW, hp, rfl, h⟩ := h
    obtain ⟨⟨o, d, ho, hd, -, eo, ed⟩, -⟩ := hW.2.2.2.2.2.2 p hp
    have hn := hW.1
    have hn6 := hW.2.1
    have hm := hW.2.2.2.1
    generalize hN : cn (mS B M) = N at hn hn6
    unfold rel at h
    rw [eo, ed] at h
    have eo' : mS B M (37 + 20 * p + 0) = nI o := eo
    have ed' : mS B M (37 + 20 * p + 1) = nI d := ed
    refine ⟨rfl, [
      (17, [true, true, true, true, true, false, false, false, false], fun m ls st M' => ∃ n z k, m = 100 * n + 99 ∧ z < 16 ∧ dN z d < n ∧ rlN (mS B M) (nI d) n (nI z) k = rlN (mS B M) (nI d) 16 (nI o) 0 ∧ ls = [some (.ref (B + 492)), some (.int (nI p)), some (.int (nI z)), some (.int (nI d)), some (.int k), none, none, none, none] ∧ st = [] ∧ M' = M),
      (28, [true, true, true, true, true, true, true, false, false], fun m ls st M' => ∃ n z k c, m = 100 * n + 150 + (N - c) ∧ c ≤ N ∧ z < 16 ∧ z ≠ d ∧ dN z d ≤ n ∧ rlN (mS B M) (nI d) (n + 1) (nI z) k = rlN (mS B M) (nI d) 16 (nI o) 0 ∧ ls = [some (.ref (B + 492)), some (.int (nI p)), some (.int (nI z)), some (.int (nI d)), some (.int k), some (.int (rlB (mS B M) (nI z) (nI d) c)), some (.int (nI c)), none, none] ∧ st = [] ∧ M' = M)], ⟨40, ?_⟩, ?_⟩
    · refine And.intro kd_492 (And.intro rfl (And.intro (vP0 (by omega)) (And.intro kd_492 (And.intro rfl (And.intro (vP1 (by omega)) ?_)))))
      refine Exists.intro 1699 (Exists.intro 16 (Exists.intro o (Exists.intro 0 ⟨rfl, ho, by have := dN_le ho hd; omega, rfl, ?_, rfl, rfl⟩)))
      show [some (Value.ref (B + 492)), some (Value.int (nI p)), some (Value.int (mS B M ((37 : Int32) + 20 * nI p + 0).toNatClampNeg)), some (Value.int (mS B M ((37 : Int32) + 20 * nI p + 1).toNatClampNeg)), some (Value.int 0), none, none, none, none] = _
      rw [px0, px1, n_cl (by omega), n_cl (by omega), eo', ed']
    · intro q hq m ls st M' hi
      simp only [List.mem_cons, List.not_mem_nil, or_false] at hq
      rcases hq with rfl | rfl
      · obtain ⟨n, z, k, rfl, hz, hdn, hr, rfl, rfl, rfl⟩ := hi
        refine ⟨40, And.intro (fun h1 => ?_) (fun h1 => ?_)⟩
        · have h1 : nI z = nI d := h1
          rw [← hr] at h
          cases n with
          | zero => omega
          | succ n =>
            unfold rlN at h
            rw [if_pos h1] at h
            exact h
        · have h1 : ¬ nI z = nI d := h1
          obtain ⟨y, hy, ey, eyd⟩ := dN_next z hz d hd (fun e => h1 (by rw [e]))
          obtain ⟨n', rfl⟩ : ∃ n', n = n' + 1 := ⟨n - 1, by omega⟩
          exact Exists.intro (100 * n' + 150 + (N - 0)) (And.intro (by omega) (Exists.intro n' (Exists.intro z (Exists.intro k (Exists.intro 0 ⟨rfl, by omega, hz, fun e => h1 (by rw [e]), by omega, hr, rfl, rfl, rfl⟩)))))
      · obtain ⟨n, z, k, c, rfl, hc, hz, hzd, hdn, hr, rfl, rfl, rfl⟩ := hi
        refine ⟨120, And.intro kd_492 (And.intro kd_493 (And.intro (vn_493 (i := 2) (by decide)) (And.intro (fun h1 => ?_) (fun h1 => ?_))))⟩
        · have h1 : mS B M' 2 ≤ nI c := h1
          rw [hn, n_ge (by omega) (by omega)] at h1
          have ec : c = N := by omega
          subst ec
          obtain ⟨r, hr16, er, erd⟩ := rlB_ok (S := mS B M') hz hd c
          rw [← hr] at h
          unfold rlN at h
          rw [if_neg (by rw [nI_eq (by omega) (by omega)]; exact hzd), hN] at h
          refine And.intro (fun h2 => ?_) (fun h2 => ?_)
          · have h2 : ¬ rlB (mS B M') (nI z) (nI d) c = nI z := h2
            rw [if_neg h2] at h
            rw [er] at h h2
            have h2 : ¬ r = z := fun e => h2 (by rw [e])
            rcases erd with erd | erd
            · exact absurd erd h2
            refine Exists.intro (100 * n + 99) (And.intro (by omega) (Exists.intro n (Exists.intro r (Exists.intro (k + 1) ⟨rfl, hr16, by omega, ?_, ?_, rfl, rfl⟩))))
            · rw [← hr]
              conv => rhs; unfold rlN
              rw [if_neg (by rw [nI_eq (by omega) (by omega)]; exact hzd), hN, er, if_neg (by rw [nI_eq (by omega) (by omega)]; exact h2)]
            · show [some (Value.ref (B + 492)), some (Value.int (nI p)), some (Value.int (rlB (mS B M') (nI z) (nI d) c)), some (Value.int (nI d)), some (Value.int (k + 1)), none, none, none, none] = _
              rw [er]
          · have h2 : rlB (mS B M') (nI z) (nI d) c = nI z := h2
            rw [if_pos h2] at h
            exact h
        · have h1 : ¬ mS B M' 2 ≤ nI c := h1
          rw [hn, n_ge (by omega) (by omega)] at h1
          have key : ∀ x, rlB (mS B M') (nI z) (nI d) (c + 1) = x → ∀ u v, u = none → v = none → ∃ m', m' < 100 * n + 150 + (N - c) ∧ ∃ n' z' k' c', m' = 100 * n' + 150 + (N - c') ∧ c' ≤ N ∧ z' < 16 ∧ z' ≠ d ∧ dN z' d ≤ n' ∧ rlN (mS B M') (nI d) (n' + 1) (nI z') k' = rlN (mS B M') (nI d) 16 (nI o) 0 ∧ [some (Value.ref (B + 492)), some (Value.int (nI p)), some (Value.int (nI z)), some (Value.int (nI d)), some (Value.int k), some (Value.int x), some (Value.int (nI c + 1)), u, v] = [some (.ref (B + 492)), some (.int (nI p)), some (.int (nI z')), some (.int (nI d)), some (.int k'), some (.int (rlB (mS B M') (nI z') (nI d) c')), some (.int (nI c')), none, none] ∧ ([] : List Value) = [] ∧ M' = M' := by
            rintro x hx u v rfl rfl
            exact ⟨100 * n + 150 + (N - (c + 1)), by omega, n, z, k, c + 1, rfl, by omega, hz, hzd, hdn, hr, by rw [hx, nI_1], rfl, rfl⟩
          refine And.intro kd_492 (And.intro rfl (Exists.intro c (Exists.intro z (Exists.intro d (And.intro (by omega) (And.intro hz (And.intro hd (And.intro rfl (And.intro rfl (And.intro rfl ?_))))))))))
          refine And.intro n4s (And.intro n4s (And.intro n4s (And.intro n4s (And.intro n4s (And.intro n4s (And.intro n4s (And.intro n4s (And.intro (fun h2 => ?_) (fun h2 => ?_)))))))))
          · have h2 : dist (rlB (mS B M') (nI z) (nI d) c) (nI d) ≤ dist (rch (mS B M') c (nI z) (nI d)) (nI d) := h2
            refine And.intro (fun _ => key (rlB (mS B M') (nI z) (nI d) c) ?_ none none rfl rfl) (fun h3 => absurd rfl h3)
            conv => lhs; unfold rlB
            rw [if_neg (Int32.not_lt.mpr h2)]
          · have h2 : ¬ dist (rlB (mS B M') (nI z) (nI d) c) (nI d) ≤ dist (rch (mS B M') c (nI z) (nI d)) (nI d) := h2
            refine And.intro (fun h3 => absurd (show (1 : Int32) = 0 from h3) (by decide)) (fun _ => key (rch (mS B M') c (nI z) (nI d)) ?_ none none rfl rfl)
            conv => lhs; unfold rlB
            rw [if_pos (Int32.not_le.mp h2)]
  · exact h.elim
set_option maxRecDepth 100000 in
theorem wk_X6_more (B : Nat) : fw_Wk B fl_X6 (cal_X6_more B) [] cst_X6 (some .int) kX6_more 4 (ct_X6_more B) := by
  intro as M Q QX h
  unfold ct_X6_more at h
  split at h
  · obtain ⟨rfl, t, n, S0, ht, rfl, hW, hk, hz, h⟩ := h
    refine ⟨rfl, [], ⟨60, ?_⟩, nofun⟩
    refine And.intro kd_492 (And.intro kd_493 (And.intro (vn_493 (i := 6) (by decide)) (And.intro kd_492 (And.intro rfl (Exists.intro t (Exists.intro n (And.intro ht (And.intro rfl (And.intro hW ?_)))))))))
    refine And.intro kd_492 (And.intro kd_493 (And.intro (vn_493 (i := 6) (by decide)) (And.intro kd_492 (And.intro kd_492 (And.intro kd_493 (And.intro kd_496 (And.intro ln_493 (And.intro ln_496 (And.intro ?_ ?_)))))))))
    · show B + 493 ≠ B + 496
      omega
    · show Q (some (.int (mS B (mK B M (tkN (mS B M) n)) 6 - mS B M 6))) (fw_row (mK B M (tkN (mS B M) n)) (B + 493) (cpN 517 ((mK B M (tkN (mS B M) n)).1 (B + 496)) (mS B (mK B M (tkN (mS B M) n)))))
      rw [mS_K, row_row, row_n (by omega)]
      have e : cpN 517 (M.1 (B + 496)) (tkN (mS B M) n) = S0 := by
        funext k
        unfold cpN
        by_cases g : k < 517
        · rw [if_pos g]; exact hk k g
        · rw [if_neg g, tkN_hi hW (by omega), (hz k (by omega)).1, (hz k (by omega)).2]
      rw [e]
      exact h
  · exact h.elim
set_option maxRecDepth 100000 in
theorem wk_X6_paidBy (B : Nat) : fw_Wk B fl_X6 (cal_X6_paidBy B) [] cst_X6 (some .int) kX6_paidBy 2 (ct_X6_paidBy B) := by
  intro as M Q QX h
  unfold ct_X6_paidBy at h
  split at h
  · obtain ⟨rfl, t, n, ht, rfl, hW, hz, h⟩ := h
    refine ⟨rfl, [], ⟨60, ?_⟩, nofun⟩
    refine And.intro kd_492 (And.intro kd_492 (And.intro kd_496 (And.intro kd_493 (And.intro ln_496 (And.intro ln_493 (And.intro ?_ ?_))))))
    · show B + 496 ≠ B + 493
      omega
    · have e1 : mS B (fw_row M (B + 496) (cpN 517 (M.1 (B + 493)) (M.1 (B + 496)))) = mS B M := row_n (by omega)
      refine And.intro kd_492 (And.intro rfl (Exists.intro t (Exists.intro n (Exists.intro (mS B M) (And.intro ht (And.intro rfl (And.intro (by rw [e1]; exact hW) (And.intro (fun k hk => ?_) (And.intro (fun k hk => by rw [e1]; exact ⟨hz k hk, hz k hk⟩) ?_)))))))))
      · show (fw_row M (B + 496) (cpN 517 (M.1 (B + 493)) (M.1 (B + 496)))).1 (B + 496) k = _
        rw [row_1]; unfold cpN; rw [if_pos hk]
      · show Q (some (.int (payN (mS B (fw_row M (B + 496) (cpN 517 (M.1 (B + 493)) (M.1 (B + 496))))) n))) (mK B (fw_row M (B + 496) (cpN 517 (M.1 (B + 493)) (M.1 (B + 496)))) (mS B M))
        rw [e1]
        refine h _ mS_K (fun k hk => ?_) (fun Z hZ => ?_) (Fr_tr (Fr_row (by decide) (by decide)) Fr_K)
        · rw [row_n (by omega), row_1]; unfold cpN; rw [if_pos hk]
        · have := RM_K (S := Z.1) (RM_row (f := cpN 517 (M.1 (B + 493)) (M.1 (B + 496))) hZ (Or.inr rfl))
          rw [show mS B M = Z.1 from hZ.1]
          exact this
  · exact h.elim
set_option maxRecDepth 100000 in
theorem wk_X6_isDone (B : Nat) : fw_Wk B fl_X6 (cal_X6_isDone B) [] cst_X6 (some .boolean) kX6_isDone 1 (ct_X6_isDone B) := by
  intro as M Q QX h
  unfold ct_X6_isDone at h
  split at h
  · obtain ⟨rfl, hm, hm24, h⟩ := h
    refine ⟨rfl, [], ⟨60, ?_⟩, nofun⟩
    refine And.intro kd_492 (And.intro rfl (And.intro hm (And.intro hm24 (And.intro kd_492 (And.intro rfl (And.intro hm (And.intro hm24 (And.intro (fun h1 => ?_) (fun h1 => ?_)))))))))
    · have h1 : ¬ inSt (mS B M) 0 (pn (mS B M)) + inSt (mS B M) 1 (pn (mS B M)) = 0 := h1
      unfold dnB at h
      rw [decide_eq_false h1] at h
      exact And.intro (Or.inl rfl) h
    · have h1 : inSt (mS B M) 0 (pn (mS B M)) + inSt (mS B M) 1 (pn (mS B M)) = 0 := h1
      unfold dnB at h
      rw [decide_eq_true h1] at h
      exact And.intro (Or.inr rfl) h
  · exact h.elim
end WR2

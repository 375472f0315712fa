/-! THE REFERENCE'S METHODS WALKED: the rest, 1 -/
section WR
theorem cle_n {a b : Nat} (ha : a < 2 ^ 31) (hb : b < 2 ^ 31) : (nI a ≤ nI b) = (a ≤ b) := propext (n_ge ha hb)
set_option maxHeartbeats 2000000 in
set_option maxRecDepth 100000 in
theorem wk_X6_ends (B : Nat) : fw_Wk B fl_X6 (cal_X6_ends B) [] cst_X6 (some .int) kX6_ends 3 (ct_X6_ends B) := by
  intro as M Q QX h
  unfold ct_X6_ends at h
  split at h
  · rename_i a v
    obtain ⟨rfl, Z, S0, hR, hS0, h⟩ := h
    obtain ⟨h1, h2, h3, h4, h5, h6, h7⟩ := hR
    generalize hn : Z.2.1 = n at h2 h3 h4 h
    -- the row of saved states, when i of the shift, when i of the copy are done; j: how many stand ahead
    have fin : ∀ j, j ≤ 3 → phN n = j + 1 → (∀ i, i < j + 1 → ∀ k, k < 517 → (if i = j then S0 k else (if n = 4 then M.1 (B + 494) (517 * i + k + 517) else M.1 (B + 494) (517 * i + k))) = phH n Z.2.2.1 S0 i k) → ∀ P : Nat → Int32, (∀ k, k < 517 * j → P k = (if n = 4 then M.1 (B + 494) (k + 517) else M.1 (B + 494) k)) → (∀ k, k < 517 → P (517 * j + k) = M.1 (B + 495) k) → Q (some (.int v)) (fw_st (fw_row (fw_st M (B + 492) 4 (nI (j + 1))) (B + 494) P) (B + 492) 7 0) := by
      intro j hj hph hH P hP1 hP2
      refine h _ ⟨?_, ?_, ?_, ?_, ?_, h6, ?_⟩ st_s (Fr_tr Fr_st (Fr_tr (Fr_row (by decide) (by decide)) Fr_st))
      · rw [st_o (by omega), row_n (by omega), st_o (by omega)]; exact h1
      · rw [st_n (by decide), row_n (by omega), st_s, hph]
      · show phN n ≤ 4; omega
      · intro i hi k hk
        have hi : i < phN n := hi
        rw [st_o (by omega), row_1]
        show P (517 * i + k) = phH n Z.2.2.1 S0 i k
        rw [← hH i (by omega) k hk]
        by_cases e : i = j
        · subst e
          rw [if_pos rfl, hP2 k hk, hS0 k hk]
        · rw [if_neg e, hP1 _ (by omega)]
      · rw [st_n (by decide), row_n (by omega), st_n (by decide)]; exact h5
      · intro k hk
        rw [st_o (by omega), row_n (by omega), st_o (by omega)]; exact h7 k hk
    refine ⟨rfl, [
      (10, [true, true, true], fun m ls st M' => ∃ i, m = 1000 + (1551 - i) ∧ n = 4 ∧ i ≤ 1551 ∧ ls = [some (.ref (B + 492)), some (.int v), some (.int (nI i))] ∧ st = [] ∧ M' = fw_row M (B + 494) (fun k => if k < i then M.1 (B + 494) (k + 517) else M.1 (B + 494) k)),
      (51, [true, true, true], fun m ls st M' => ∃ i j P, m = 517 - i ∧ i ≤ 517 ∧ j ≤ 3 ∧ phN n = j + 1 ∧ (∀ i, i < j + 1 → ∀ k, k < 517 → (if i = j then S0 k else (if n = 4 then M.1 (B + 494) (517 * i + k + 517) else M.1 (B + 494) (517 * i + k))) = phH n Z.2.2.1 S0 i k) ∧ (∀ k, k < 517 * j → P k = (if n = 4 then M.1 (B + 494) (k + 517) else M.1 (B + 494) k)) ∧ (∀ k, k < i → P (517 * j + k) = M.1 (B + 495) k) ∧ ls = [some (.ref (B + 492)), some (.int v), some (.int (nI i))] ∧ st = [] ∧ M' = fw_row (fw_st M (B + 492) 4 (nI j)) (B + 494) P)], ⟨60, ?_⟩, ?_⟩
    · refine And.intro kd_492 (And.intro (fun e => ?_) (fun e => ?_))
      · have e : ¬ M.1 (B + 492) 4 = nI 4 := e
        rw [h2, nI_eq (by omega) (by decide)] at e
        refine Exists.intro 517 (Exists.intro 0 (Exists.intro n (Exists.intro (M.1 (B + 494)) ⟨rfl, by omega, by omega, by unfold phN; rw [if_neg e], fun i hi k hk => ?_, fun k hk => by rw [if_neg e], fun k hk => by omega, rfl, rfl, ?_⟩)))
        · by_cases e2 : i = n
          · simp only [phH, if_neg e, if_pos e2]
          · simp only [phH, if_neg e, if_neg e2]
            exact h4 i (by omega) k hk
        · rw [← h2, st_row, upd_self, row_self, row_self]
      · have e : M.1 (B + 492) 4 = nI 4 := e
        rw [h2, nI_eq (by omega) (by decide)] at e
        refine Exists.intro 2551 (Exists.intro 0 ⟨rfl, e, by omega, rfl, rfl, ?_⟩)
        exact row_self.symm
    · intro q hq m ls st M' hi
      simp only [List.mem_cons, List.not_mem_nil, or_false] at hq
      rcases hq with rfl | rfl
      · obtain ⟨i, rfl, e4, hi, rfl, rfl, rfl⟩ := hi
        refine ⟨60, And.intro (fun g1 => ?_) (fun g1 => ?_)⟩
        · have g1 : nI 1551 ≤ nI i := g1
          rw [n_ge (by decide) (by omega)] at g1
          have ei : i = 1551 := by omega
          subst ei
          refine And.intro kd_492 (And.intro kd_492 ?_)
          refine Exists.intro 517 (And.intro (by omega) (Exists.intro 0 (Exists.intro 3 (Exists.intro (fun k => if k < 1551 then M.1 (B + 494) (k + 517) else M.1 (B + 494) k) ⟨rfl, by omega, by omega, by unfold phN; rw [if_pos e4], fun i hi k hk => ?_, fun k hk => by simp only [if_pos e4]; rw [if_pos (by omega)], fun k hk => by omega, rfl, rfl, ?_⟩))))
          · by_cases e2 : i = 3
            · simp only [phH, if_pos e4, if_pos e2]
            · simp only [phH, if_pos e4, if_neg e2, show 517 * i + k + 517 = 517 * (i + 1) + k by omega]
              exact h4 (i + 1) (by omega) k hk
          · rw [row_n (by omega), h2, e4, st_row, st_row, row_n (by omega), row_comm (by omega)]
            rfl
        · have g1 : ¬ nI 1551 ≤ nI i := g1
          rw [n_ge (by decide) (by omega)] at g1
          have e9 : nI i + 517 = nI (i + 517) := n_add i 517
          refine And.intro kd_492 (And.intro kd_492 (And.intro kd_494 (And.intro ?_ (And.intro kd_494 (And.intro ?_ ?_)))))
          · show fw_sd (vp_in (nI i + 517) (fw_len B (B + 494)))
            rw [ln_494, e9]; exact vn_i (by omega) (by decide)
          · show fw_sd (vp_in (nI i) (fw_len B (B + 494)))
            rw [ln_494]; exact vn_i (by omega) (by decide)
          refine Exists.intro (1000 + (1551 - (i + 1))) (And.intro (by omega) (Exists.intro (i + 1) ⟨rfl, e4, by omega, ?_, rfl, ?_⟩))
          · show [some (Value.ref (B + 492)), some (Value.int v), some (Value.int (nI i + 1))] = _
            rw [nI_1]
          · show fw_st (fw_row M (B + 494) _) (B + 494) (nI i).toNatClampNeg ((fw_row M (B + 494) _).1 (B + 494) (nI i + 517).toNatClampNeg) = _
            rw [e9, n_cl (by omega), n_cl (by omega), st_row, row_1, row_row]
            refine congrArg (fw_row M (B + 494)) (funext fun k => ?_)
            unfold upd
            by_cases e1 : k = i
            · subst e1
              simp only [if_pos]
              rw [if_neg (by omega), if_pos (by omega)]
            · simp only [if_neg e1]
              by_cases e2 : k < i
              · rw [if_pos e2, if_pos (by omega)]
              · rw [if_neg e2, if_neg (by omega)]
      · obtain ⟨i, j, P, rfl, hi, hj, hph, hH, hP1, hP2, rfl, rfl, rfl⟩ := hi
        have ej : (fw_row (fw_st M (B + 492) 4 (nI j)) (B + 494) P).1 (B + 492) 4 = nI j := by rw [row_n (by omega), st_s]
        refine ⟨60, And.intro (fun g1 => ?_) (fun g1 => ?_)⟩
        · have g1 : nI 517 ≤ nI i := g1
          rw [n_ge (by decide) (by omega)] at g1
          have ei : i = 517 := by omega
          subst ei
          refine And.intro kd_492 (And.intro kd_492 (And.intro kd_492 (And.intro rfl ?_)))
          have hf := fin j hj hph hH P hP1 hP2
          have e1 : fw_st (fw_row (fw_st M (B + 492) 4 (nI j)) (B + 494) P) (B + 492) 4 ((fw_row (fw_st M (B + 492) 4 (nI j)) (B + 494) P).1 (B + 492) 4 + 1) = fw_row (fw_st M (B + 492) 4 (nI (j + 1))) (B + 494) P := by
            rw [ej, nI_1, st_row, row_n (by omega), st_row, row_1, upd_upd, row_comm (by omega), row_row]
            rfl
          show Q (some (.int v)) (fw_st (fw_st (fw_row (fw_st M (B + 492) 4 (nI j)) (B + 494) P) (B + 492) 4 ((fw_row (fw_st M (B + 492) 4 (nI j)) (B + 494) P).1 (B + 492) 4 + 1)) (B + 492) 7 0)
          rw [e1]
          exact hf
        · have g1 : ¬ nI 517 ≤ nI i := g1
          rw [n_ge (by decide) (by omega)] at g1
          have e9 : (517 : Int32) * (fw_row (fw_st M (B + 492) 4 (nI j)) (B + 494) P).1 (B + 492) 4 + nI i = nI (517 * j + i) := by
            rw [ej, show (517 : Int32) = nI 517 from rfl, n_mul, n_add]
          refine And.intro kd_492 (And.intro kd_492 (And.intro kd_492 (And.intro kd_495 (And.intro ?_ (And.intro kd_494 (And.intro ?_ ?_))))))
          · show fw_sd (vp_in (nI i) (fw_len B (B + 495)))
            rw [ln_495]; exact vn_i (by omega) (by decide)
          · show fw_sd (vp_in ((517 : Int32) * (fw_row (fw_st M (B + 492) 4 (nI j)) (B + 494) P).1 (B + 492) 4 + nI i) (fw_len B (B + 494)))
            rw [ln_494, e9]; exact vn_i (by omega) (by decide)
          refine Exists.intro (517 - (i + 1)) (And.intro (by omega) (Exists.intro (i + 1) (Exists.intro j (Exists.intro (upd P (517 * j + i) (M.1 (B + 495) i)) ⟨rfl, by omega, hj, hph, hH, fun k hk => ?_, fun k hk => ?_, ?_, rfl, ?_⟩))))
          · rw [upd_n (by omega)]; exact hP1 k hk
          · by_cases e1 : k = i
            · subst e1; rw [upd_s]
            · rw [upd_n (by omega)]; exact hP2 k (by omega)
          · show [some (Value.ref (B + 492)), some (Value.int v), some (Value.int (nI i + 1))] = _
            rw [nI_1]
          · show fw_st (fw_row _ (B + 494) P) (B + 494) ((517 : Int32) * (fw_row (fw_st M (B + 492) 4 (nI j)) (B + 494) P).1 (B + 492) 4 + nI i).toNatClampNeg ((fw_row _ (B + 494) P).1 (B + 495) (nI i).toNatClampNeg) = _
            rw [e9, n_cl (by omega), n_cl (by omega), row_n (by omega), st_o (by omega), st_row, row_1, row_row]
  · exact h.elim
set_option maxRecDepth 100000 in
theorem wk_X6_inState (B : Nat) : fw_Wk B fl_X6 (cal_X6_inState B) [] cst_X6 (some .int) kX6_inState 4 (ct_X6_inState B) := by
  intro as M Q QX h
  unfold ct_X6_inState at h
  split at h
  · rename_i a q
    obtain ⟨rfl, hm, hm24, h⟩ := h
    generalize hN : pn (mS B M) = N at hm hm24 h
    refine ⟨rfl, [(4, [true, true, true, true], fun n ls st M' => ∃ i, n = N - i ∧ i ≤ N ∧ ls = [some (.ref (B + 492)), some (.int q), some (.int (inSt (mS B M) q i)), some (.int (nI i))] ∧ st = [] ∧ M' = M)], ⟨10, ?_⟩, ?_⟩
    · exact Exists.intro N (Exists.intro 0 ⟨rfl, by omega, rfl, rfl, rfl⟩)
    · intro q' hq n ls st M' hi
      cases List.mem_singleton.mp hq
      obtain ⟨i, rfl, hi, rfl, rfl, rfl⟩ := hi
      refine ⟨60, And.intro kd_492 (And.intro kd_493 (And.intro (vn_493 (i := 3) (by decide)) (And.intro (fun h1 => ?_) (fun h1 => ?_))))⟩
      · have h1 : mS B M' 3 ≤ nI i := h1
        rw [hm, n_ge (by omega) (by omega)] at h1
        rw [show i = N by omega]
        exact h
      · have h1 : ¬ mS B M' 3 ≤ nI i := h1
        rw [hm, n_ge (by omega) (by omega)] at h1
        refine And.intro kd_492 (And.intro rfl (And.intro (vP4 (by omega)) ?_))
        refine And.intro (fun h2 => ?_) (fun h2 => ?_)
        · simp (disch := omega) only [cx0, cx1, cx2, cx3, cx4, px0, px1, px2, px3, px4, px5, px6, px7, pxL, pxS, n_cl, cl0, cl1, cl2, cl3, cl4, cl5, cl6, b493, b494, b495, b496, b497] at h2
          refine Exists.intro (N - (i + 1)) (And.intro (by omega) (Exists.intro (i + 1) ⟨rfl, by omega, ?_, rfl, rfl⟩))
          show [some (Value.ref (B + 492)), some (Value.int q), some (Value.int (inSt (mS B M') q i + 0)), some (Value.int (nI i + 1))] = _
          rw [nI_1, inSt, if_neg (show ¬ sP (mS B M') i 4 = q from h2)]
        · simp (disch := omega) only [cx0, cx1, cx2, cx3, cx4, px0, px1, px2, px3, px4, px5, px6, px7, pxL, pxS, n_cl, cl0, cl1, cl2, cl3, cl4, cl5, cl6, b493, b494, b495, b496, b497] at h2
          refine Exists.intro (N - (i + 1)) (And.intro (by omega) (Exists.intro (i + 1) ⟨rfl, by omega, ?_, rfl, rfl⟩))
          show [some (Value.ref (B + 492)), some (Value.int q), some (Value.int (inSt (mS B M') q i + 1)), some (Value.int (nI i + 1))] = _
          rw [nI_1, inSt, if_pos (show sP (mS B M') i 4 = q from h2)]
  · exact h.elim
theorem zrP_lo {S : Sx} {p k : Nat} (h : k < 37) : ∀ w, zrP S p w k = S k := by
  intro w
  induction w with
  | zero => rfl
  | succ w ih => unfold zrP; rw [uP_lo h, ih]
set_option maxRecDepth 100000 in
theorem wk_X6_comes (B : Nat) : fw_Wk B fl_X6 (cal_X6_comes B) [] cst_X6 none kX6_comes 7 (ct_X6_comes B) := by
  intro as M Q QX h
  unfold ct_X6_comes at h
  split at h
  · rename_i a o g k t
    obtain ⟨rfl, hm, hm24, h⟩ := h
    unfold comS at h
    generalize hN : pn (mS B M) = N at hm hm24 h
    refine ⟨rfl, [(11, [true, true, true, true, true, true, true], fun n ls st M' => ∃ i, n = 20 - i ∧ i ≤ 20 ∧ ls = [some (.ref (B + 492)), some (.int o), some (.int g), some (.int k), some (.int t), some (.int (nI N)), some (.int (nI i))] ∧ st = [] ∧ M' = mK B M (zrP (mS B M) N i))], ⟨20, ?_⟩, ?_⟩
    · refine And.intro kd_492 (And.intro kd_493 (And.intro (vn_493 (i := 3) (by decide)) (Exists.intro 20 (Exists.intro 0 ⟨rfl, by omega, ?_, rfl, mK_S.symm⟩))))
      show [some (Value.ref (B + 492)), some (Value.int o), some (Value.int g), some (Value.int k), some (Value.int t), some (Value.int (mS B M 3)), some (Value.int 0)] = _
      rw [hm]
      rfl
    · intro q' hq n ls st M' hi
      cases List.mem_singleton.mp hq
      obtain ⟨i, rfl, hi, rfl, rfl, rfl⟩ := hi
      refine ⟨100, And.intro (fun h1 => ?_) (fun h1 => ?_)⟩
      · have h1 : nI 20 ≤ nI i := h1
        rw [n_ge (by decide) (by omega)] at h1
        have ei : i = 20 := by omega
        subst ei
        have z3 : zrP (mS B M) N 20 3 = mS B M 3 := zrP_lo (by decide) 20
        repeat' first
          | refine And.intro ?_ ?_
          | intro _
          | exact kd_492
          | exact kd_493
          | exact rfl
          | exact bi_01
          | exact vnl_493 (by decide)
          | (simp (disch := omega) only [cx0, cx1, cx2, cx3, cx4, px0, px1, px2, px3, px4, px5, px6, px7, pxL, pxS, n_cl, cl0, cl1, cl2, cl3, cl4, cl5, cl6, b493, b494, b495, b496, b497]; exact vn_i (by omega) (by decide))
          | exact Or.inl rfl
          | exact Or.inr rfl
        conv => whnf
        simp (disch := omega) only [cx0, cx1, cx2, cx3, cx4, px0, px1, px2, px3, px4, px5, px6, px7, pxL, pxS, n_cl, cl0, cl1, cl2, cl3, cl4, cl5, cl6, b493, b494, b495, b496, b497, row_1, row_row, st_row, upd_s, upd_n, mS_K, mK_K, z3]
        exact h
      · have h1 : ¬ nI 20 ≤ nI i := h1
        rw [n_ge (by decide) (by omega)] at h1
        refine And.intro kd_492 (And.intro rfl (And.intro ?_ ?_))
        · show fw_sd (vp_in ((37 : Int32) + 20 * nI N + nI i) 517)
          rw [ixP]; exact vn_i (by omega) (by decide)
        refine Exists.intro (20 - (i + 1)) (And.intro (by omega) (Exists.intro (i + 1) ⟨rfl, by omega, ?_, rfl, ?_⟩))
        · show [some (Value.ref (B + 492)), some (Value.int o), some (Value.int g), some (Value.int k), some (Value.int t), some (Value.int (nI N)), some (Value.int (nI i + 1))] = _
          rw [nI_1]
        · show mK B (mK B M _) (upd (mS B (mK B M _)) ((37 : Int32) + 20 * nI N + nI i).toNatClampNeg 0) = _
          rw [ixP, n_cl (by omega), mS_K, mK_K]
          rfl
  · exact h.elim
set_option maxRecDepth 100000 in
theorem wk_X6_drops (B : Nat) : fw_Wk B fl_X6 (cal_X6_drops B) [] cst_X6 (some .int) kX6_drops 3 (ct_X6_drops B) := by
  intro as M Q QX h
  unfold ct_X6_drops at h
  split at h
  · obtain ⟨rfl, b, c, hW, hcn, rfl, h⟩ := h
    have hn6 := hW.2.1
    have hm := hW.2.2.2.1
    have hc : c < 6 := by omega
    unfold drS at h
    refine ⟨rfl, [], ⟨200, ?_⟩, nofun⟩
    refine And.intro kd_492 (And.intro rfl (And.intro (vC4 hc) (And.intro kd_492 (And.intro rfl (And.intro (vC3 hc) ?_)))))
    refine And.intro (fun h1 => ?_) (fun h1 => ?_)
    · simp (disch := omega) only [cx0, cx1, cx2, cx3, cx4, px0, px1, px2, px3, px4, px5, px6, px7, pxL, pxS, n_cl, cl0, cl1, cl2, cl3, cl4, cl5, cl6, b493, b494, b495, b496, b497] at h1
      rw [if_neg (show ¬ sC (mS B M) c 3 = 2 from h1)] at h
      refine And.intro kd_492 (And.intro rfl (Exists.intro c (And.intro hc (And.intro rfl ?_))))
      conv => whnf
      simp (disch := omega) only [cx0, cx1, cx2, cx3, cx4, px0, px1, px2, px3, px4, px5, px6, px7, pxL, pxS, n_cl, cl0, cl1, cl2, cl3, cl4, cl5, cl6, b493, b494, b495, b496, b497, row_1, row_row, st_row, upd_s, upd_n, mS_K, mK_K]
      exact h
    · simp (disch := omega) only [cx0, cx1, cx2, cx3, cx4, px0, px1, px2, px3, px4, px5, px6, px7, pxL, pxS, n_cl, cl0, cl1, cl2, cl3, cl4, cl5, cl6, b493, b494, b495, b496, b497] at h1
      have h1 : sC (mS B M) c 3 = 2 := h1
      rw [if_pos h1] at h
      obtain ⟨p, hp, ep, ep2⟩ := WF_with hW hcn (by rw [h1]; decide)
      have ep3 : mS B M (7 + 5 * c + 4) = nI p := ep
      rw [ep2] at h
      refine And.intro kd_492 (And.intro rfl (And.intro ?_ (And.intro kd_492 (And.intro rfl (Exists.intro c (And.intro hc (And.intro rfl ?_)))))))
      · show fw_sd (vp_in ((37 : Int32) + 20 * mS B M ((7 : Int32) + 5 * nI c + 4).toNatClampNeg + 4) 517)
        rw [cx4, n_cl (by omega), ep3]
        exact vP4 (by omega)
      · conv => whnf
        simp (disch := omega) only [cx0, cx1, cx2, cx3, cx4, px0, px1, px2, px3, px4, px5, px6, px7, pxL, pxS, n_cl, cl0, cl1, cl2, cl3, cl4, cl5, cl6, b493, b494, b495, b496, b497, row_1, row_row, st_row, upd_s, upd_n, mS_K, mK_K, ep3]
        rw [ep] at h
        exact h
  · exact h.elim
set_option maxRecDepth 100000 in
theorem wk_X6_valueOf (B : Nat) : fw_Wk B fl_X6 (cal_X6_valueOf B) [] cst_X6 (some .int) kX6_valueOf 2 (ct_X6_valueOf B) := by
  intro as M Q QX h
  unfold ct_X6_valueOf at h
  split at h
  · obtain ⟨rfl, hm, hm24, w, hw, rfl, h⟩ := h
    have e : (nI w).toInt = (w : Int) := nI_toInt (by omega)
    have es : ∀ j, w = j + 4 → nI w - (4 : Int32) = nI j := fun j hj => by rw [hj, n_sub4]
    have cs : ∀ P : Prop, (w = 0 → P) → (w = 1 → P) → (w = 2 → P) → (w = 3 → P) → (4 ≤ w → w ≤ 7 → P) → (w = 8 → P) → (w = 9 → P) → (w = 10 → P) → P := by
      intro P p0 p1 p2 p3 p4 p8 p9 p10
      rcases (show w = 0 ∨ w = 1 ∨ w = 2 ∨ w = 3 ∨ (4 ≤ w ∧ w ≤ 7) ∨ w = 8 ∨ w = 9 ∨ w = 10 by omega) with y | y | y | y | y | y | y | y
      · exact p0 y
      · exact p1 y
      · exact p2 y
      · exact p3 y
      · exact p4 y.1 y.2
      · exact p8 y
      · exact p9 y
      · exact p10 y
    have f4 : 4 ≤ w → w ≤ 7 → valS (mS B M) w = inSt (mS B M) (nI w - 4) (pn (mS B M)) := by
      intro y1 y2
      unfold valS
      rw [if_neg (by omega), if_neg (by omega), if_neg (by omega), if_neg (by omega), if_neg (by omega), if_neg (by omega), if_neg (by omega), es (w - 4) (by omega)]
    have A0 : ∀ {z : Int}, (w : Int) ≠ z → (nI w).toInt = z → False := fun h1 h2 => h1 (by rw [← e]; exact h2)
    refine ⟨rfl, [], ⟨60, ?_⟩, nofun⟩
    refine And.intro (And.intro (fun z => ?_) (And.intro (fun z => ?_) (And.intro (fun z => ?_) (And.intro (fun z => ?_) (And.intro (fun z => ?_) (And.intro (fun z => ?_) (And.intro (fun z => ?_) (And.intro (fun z => ?_) (And.intro (fun z => ?_) (And.intro (fun z => ?_) trivial)))))))))) (fun z => ?_)
    · have z : w = 0 := by rw [e] at z; omega
      subst z
      exact And.intro kd_492 (And.intro kd_493 (And.intro (vn_493 (i := 0) (by decide)) h))
    · have z : w = 1 := by rw [e] at z; omega
      subst z
      exact And.intro kd_492 (And.intro kd_493 (And.intro (vn_493 (i := 2) (by decide)) h))
    · have z : w = 2 := by rw [e] at z; omega
      subst z
      exact And.intro kd_492 (And.intro kd_493 (And.intro (vn_493 (i := 3) (by decide)) h))
    · have z : w = 3 := by rw [e] at z; omega
      subst z
      exact And.intro kd_492 (And.intro kd_493 (And.intro (vn_493 (i := 1) (by decide)) h))
    · have z : w = 4 := by rw [e] at z; omega
      rw [f4 (by omega) (by omega)] at h
      exact And.intro kd_492 (And.intro rfl (And.intro hm (And.intro hm24 h)))
    · have z : w = 5 := by rw [e] at z; omega
      rw [f4 (by omega) (by omega)] at h
      exact And.intro kd_492 (And.intro rfl (And.intro hm (And.intro hm24 h)))
    · have z : w = 6 := by rw [e] at z; omega
      rw [f4 (by omega) (by omega)] at h
      exact And.intro kd_492 (And.intro rfl (And.intro hm (And.intro hm24 h)))
    · have z : w = 7 := by rw [e] at z; omega
      rw [f4 (by omega) (by omega)] at h
      exact And.intro kd_492 (And.intro rfl (And.intro hm (And.intro hm24 h)))
    · have z : w = 8 := by rw [e] at z; omega
      subst z
      exact And.intro kd_492 (And.intro kd_493 (And.intro (vn_493 (i := 6) (by decide)) h))
    · have z : w = 9 := by rw [e] at z; omega
      subst z
      exact And.intro kd_492 (And.intro kd_493 (And.intro (vn_493 (i := 4) (by decide)) h))
    · have z : w = 10 := by rw [e] at z; omega
      subst z
      exact And.intro kd_492 (And.intro kd_493 (And.intro (vn_493 (i := 5) (by decide)) h))
  · exact h.elim
set_option maxRecDepth 100000 in
theorem wk_X6_courierOf (B : Nat) : fw_Wk B fl_X6 (cal_X6_courierOf B) [] cst_X6 (some .int) kX6_courierOf 5 (ct_X6_courierOf B) := by
  intro as M Q QX h
  unfold ct_X6_courierOf at h
  split at h
  · obtain ⟨rfl, hm, hm24, c, w, hc, hw, rfl, rfl, h⟩ := h
    generalize hN : pn (mS B M) = N at hm hm24
    unfold crS at h
    rw [hN] at h
    refine ⟨rfl, [(17, [true, true, false, true, true], fun n ls st M' => ∃ i, n = N - i ∧ ¬ w < 5 ∧ i ≤ N ∧ ls = [some (.ref (B + 492)), some (.int (nI c)), none, some (.int (lgC (mS B M) c i)), some (.int (nI i))] ∧ st = [] ∧ M' = M)], ⟨30, ?_⟩, ?_⟩
    · refine And.intro (fun h1 => ?_) (fun h1 => ?_)
      · have h1 : nI 5 ≤ nI w := h1
        rw [n_ge (by decide) (by omega)] at h1
        exact Exists.intro N (Exists.intro 0 ⟨rfl, by omega, by omega, rfl, rfl, rfl⟩)
      · have h1 : ¬ nI 5 ≤ nI w := h1
        rw [n_ge (by decide) (by omega)] at h1
        rw [if_pos (by omega)] at h
        refine And.intro kd_492 (And.intro rfl (And.intro ?_ ?_))
        · show fw_sd (vp_in ((7 : Int32) + 5 * nI c + nI w) 517)
          rw [ixC]; exact vn_i (by omega) (by decide)
        · conv => whnf
          rw [ixC, n_cl (by omega)]
          exact h
    · intro q' hq n ls st M' hi
      cases List.mem_singleton.mp hq
      obtain ⟨i, rfl, hw5, hi, rfl, rfl, rfl⟩ := hi
      rw [if_neg hw5] at h
      refine ⟨60, And.intro kd_492 (And.intro kd_493 (And.intro (vn_493 (i := 3) (by decide)) (And.intro (fun h1 => ?_) (fun h1 => ?_))))⟩
      · have h1 : mS B M' 3 ≤ nI i := h1
        rw [hm, n_ge (by omega) (by omega)] at h1
        rw [show i = N by omega]
        exact h
      · have h1 : ¬ mS B M' 3 ≤ nI i := h1
        rw [hm, n_ge (by omega) (by omega)] at h1
        refine And.intro kd_492 (And.intro rfl (And.intro (vPL (by omega) hc) ?_))
        refine Exists.intro (N - (i + 1)) (And.intro (by omega) (Exists.intro (i + 1) ⟨rfl, hw5, by omega, ?_, rfl, rfl⟩))
        show [some (Value.ref (B + 492)), some (Value.int (nI c)), none, some (Value.int (lgC (mS B M') c i + mS B M' ((37 : Int32) + 20 * nI i + (8 + nI c)).toNatClampNeg)), some (Value.int (nI i + 1))] = _
        rw [nI_1, pxL, n_cl (by omega)]
        rfl
  · exact h.elim
set_option maxRecDepth 100000 in
theorem wk_X6_parcelOf (B : Nat) : fw_Wk B fl_X6 (cal_X6_parcelOf B) [] cst_X6 (some .int) kX6_parcelOf 3 (ct_X6_parcelOf B) := by
  intro as M Q QX h
  unfold ct_X6_parcelOf at h
  split at h
  · obtain ⟨rfl, p, w, hp, hw, rfl, rfl, h⟩ := h
    unfold paS at h
    refine ⟨rfl, [], ⟨30, And.intro (fun h1 => ?_) (fun h1 => ?_)⟩, nofun⟩
    · have h1 : nI 8 ≤ nI w := h1
      rw [n_ge (by decide) (by omega)] at h1
      rw [if_neg (by omega)] at h
      exact And.intro kd_492 (And.intro rfl (Exists.intro p (And.intro hp (And.intro rfl h))))
    · have h1 : ¬ nI 8 ≤ nI w := h1
      rw [n_ge (by decide) (by omega)] at h1
      rw [if_pos (by omega)] at h
      refine And.intro kd_492 (And.intro rfl (And.intro ?_ ?_))
      · show fw_sd (vp_in ((37 : Int32) + 20 * nI p + nI w) 517)
        rw [ixP]; exact vn_i (by omega) (by decide)
      · conv => whnf
        rw [ixP, n_cl (by omega)]
        exact h
  · exact h.elim
set_option maxRecDepth 100000 in
theorem wk_X6_apart (B : Nat) : fw_Wk B fl_X6 (cal_X6_apart B) [] cst_X6 (some .int) kX6_apart 2 (ct_X6_apart B) := by
  intro as M Q QX h
  unfold ct_X6_apart at h
  split at h
  · unfold aprt at h
    refine ⟨rfl, [], ⟨30, And.intro (fun h1 => ?_) (fun h1 => ?_)⟩, nofun⟩
    · rw [if_neg (Int32.not_lt.mpr h1)] at h
      exact h
    · rw [if_pos (Int32.not_le.mp h1)] at h
      exact h
  · exact h.elim
end WR

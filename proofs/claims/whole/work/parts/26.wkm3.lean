/-! THE REFERENCE'S METHODS WALKED: loops -/
section WO
set_option maxRecDepth 100000 in
theorem wk_X6_copies (B : Nat) : fw_Wk B fl_X6 (cal_X6_copies B) [] cst_X6 none kX6_copies 3 (ct_X6_copies B) := by
  intro as M Q QX h
  unfold ct_X6_copies at h
  split at h
  · rename_i a b
    obtain ⟨ha, hb, la, lb, hab, h⟩ := h
    refine ⟨rfl, [(2, [true, true, true], fun n ls st M' => ∃ i, n = 517 - i ∧ i ≤ 517 ∧ ls = [some (.ref a), some (.ref b), some (.int (nI i))] ∧ st = [] ∧ M' = fw_row M a (cpN i (M.1 b) (M.1 a)))], ⟨10, ?_⟩, ?_⟩
    · exact Exists.intro 517 (Exists.intro 0 ⟨rfl, by omega, rfl, rfl, by rw [cpN_0, row_self]⟩)
    · intro q hq n ls st M' hi
      cases List.mem_singleton.mp hq
      obtain ⟨i, rfl, hi, rfl, rfl, rfl⟩ := hi
      refine ⟨30, And.intro (fun h1 => ?_) (fun h1 => ?_)⟩
      · have h1 : nI 517 ≤ nI i := h1
        rw [n_ge (by decide) (by omega)] at h1
        rw [show i = 517 by omega]
        exact h
      · have h1 : ¬ nI 517 ≤ nI i := h1
        rw [n_ge (by decide) (by omega)] at h1
        refine And.intro hb (And.intro (by rw [lb]; exact vn_i (by omega) (by decide)) (And.intro ha (And.intro (by rw [la]; exact vn_i (by omega) (by decide)) ?_)))
        refine Exists.intro (517 - (i + 1)) (And.intro (by omega) (Exists.intro (i + 1) ⟨rfl, by omega, ?_, rfl, ?_⟩))
        · show [some (Value.ref a), some (Value.ref b), some (Value.int (nI i + 1))] = _
          rw [nI_1]
        · rw [n_cl (by omega), row_n (Ne.symm hab), st_row, row_1, row_row, cpN_s]
  · exact h.elim
set_option maxRecDepth 100000 in
theorem wk_X6_legsOf (B : Nat) : fw_Wk B fl_X6 (cal_X6_legsOf B) [] cst_X6 (some .int) kX6_legsOf 4 (ct_X6_legsOf B) := by
  intro as M Q QX h
  unfold ct_X6_legsOf at h
  split at h
  · obtain ⟨rfl, p, hp, rfl, h⟩ := h
    refine ⟨rfl, [(4, [true, true, true, true], fun n ls st M' => ∃ i, n = 6 - i ∧ i ≤ 6 ∧ ls = [some (.ref (B + 492)), some (.int (nI p)), some (.int (lsum (mS B M) p i)), some (.int (nI i))] ∧ st = [] ∧ M' = M)], ⟨10, ?_⟩, ?_⟩
    · exact Exists.intro 6 (Exists.intro 0 ⟨rfl, by omega, rfl, rfl, rfl⟩)
    · intro q hq n ls st M' hi
      cases List.mem_singleton.mp hq
      obtain ⟨i, rfl, hi, rfl, rfl, rfl⟩ := hi
      refine ⟨30, And.intro (fun h1 => ?_) (fun h1 => ?_)⟩
      · have h1 : nI 6 ≤ nI i := h1
        rw [n_ge (by decide) (by omega)] at h1
        rw [show i = 6 by omega]
        exact h
      · have h1 : ¬ nI 6 ≤ nI i := h1
        rw [n_ge (by decide) (by omega)] at h1
        refine And.intro kd_492 (And.intro rfl (And.intro (vPL hp (by omega)) ?_))
        refine Exists.intro (6 - (i + 1)) (And.intro (by omega) (Exists.intro (i + 1) ⟨rfl, by omega, ?_, rfl, rfl⟩))
        show [some (Value.ref (B + 492)), some (Value.int (nI p)), some (Value.int (lsum (mS B M') p i + mS B M' ((37 : Int32) + 20 * nI p + (8 + nI i)).toNatClampNeg)), some (Value.int (nI i + 1))] = _
        rw [nI_1, pxL, n_cl (by omega)]
        rfl
  · exact h.elim
set_option maxRecDepth 100000 in
theorem wk_X6_isAsked (B : Nat) : fw_Wk B fl_X6 (cal_X6_isAsked B) [] cst_X6 (some .boolean) kX6_isAsked 5 (ct_X6_isAsked B) := by
  intro as M Q QX h
  unfold ct_X6_isAsked at h
  split at h
  · obtain ⟨rfl, p, c, hp, hc, rfl, rfl, hn, hn6, h⟩ := h
    generalize hN : cn (mS B M) = N at hn hn6 h
    refine ⟨rfl, [(5, [true, true, true, true, true], fun n ls st M' => ∃ i, n = N - i ∧ i ≤ N ∧ ls = [some (.ref (B + 492)), some (.int (nI p)), some (.int (nI c)), some (.int (bi (asked (mS B M) p c i))), some (.int (nI i))] ∧ st = [] ∧ M' = M)], ⟨10, ?_⟩, ?_⟩
    · exact Exists.intro N (Exists.intro 0 ⟨rfl, by omega, rfl, rfl, rfl⟩)
    · intro q hq n ls st M' hi
      cases List.mem_singleton.mp hq
      obtain ⟨i, rfl, hi, rfl, rfl, rfl⟩ := hi
      refine ⟨60, And.intro kd_492 (And.intro kd_493 (And.intro (vn_493 (i := 2) (by decide)) (And.intro (fun h1 => ?_) (fun h1 => ?_))))⟩
      · have h1 : mS B M' 2 ≤ nI i := h1
        rw [hn, n_ge (by omega) (by omega)] at h1
        rw [show i = N by omega]
        exact And.intro bi_01 h
      · have h1 : ¬ mS B M' 2 ≤ nI i := h1
        rw [hn, n_ge (by omega) (by omega)] at h1
        have key : ∀ b : Bool, asked (mS B M') p c (i + 1) = b → ∃ n', n' < N - i ∧ ∃ j, n' = N - j ∧ j ≤ N ∧ [some (Value.ref (B + 492)), some (Value.int (nI p)), some (Value.int (nI c)), some (Value.int (bi b)), some (Value.int (nI i + 1))] = [some (.ref (B + 492)), some (.int (nI p)), some (.int (nI c)), some (.int (bi (asked (mS B M') p c j))), some (.int (nI j))] ∧ ([] : List Value) = [] ∧ M' = M' := by
          intro b hb
          exact ⟨N - (i + 1), by omega, i + 1, rfl, by omega, by rw [hb, nI_1], rfl, rfl⟩
        refine And.intro (fun h2 => ?_) (fun h2 => And.intro (fun h3 => ?_) (fun h3 => And.intro kd_492 (And.intro rfl (And.intro (vC3 (by omega)) (And.intro (fun h4 => ?_) (fun h4 => And.intro kd_492 (And.intro rfl (And.intro (vC4 (by omega)) (And.intro (fun h5 => ?_) (fun h5 => ?_)))))))))) 
        · have h2 := bi_n0.mp h2
          exact key true (by unfold asked; rw [h2]; rfl)
        · have h2 := bi_0.mp h2
          have h3 : nI i = nI c := h3
          rw [nI_eq (by omega) (by omega)] at h3
          exact key false (by unfold asked; rw [h2, h3]; simp)
        · have h2 := bi_0.mp h2
          simp (disch := omega) only [cx0, cx1, cx2, cx3, cx4, px0, px1, px2, px3, px4, px5, px6, px7, pxL, pxS, n_cl, cl0, cl1, cl2, cl3, cl4, cl5, cl6, b493, b494, b495, b496, b497] at h4
          exact key false (by unfold asked sC; rw [h2, decide_eq_false h4]; simp)
        · have h2 := bi_0.mp h2
          simp (disch := omega) only [cx0, cx1, cx2, cx3, cx4, px0, px1, px2, px3, px4, px5, px6, px7, pxL, pxS, n_cl, cl0, cl1, cl2, cl3, cl4, cl5, cl6, b493, b494, b495, b496, b497] at h5
          exact key false (by unfold asked sC; rw [h2, decide_eq_false h5]; simp)
        · have h2 := bi_0.mp h2
          have h3 : ¬ nI i = nI c := h3
          rw [nI_eq (by omega) (by omega)] at h3
          simp (disch := omega) only [cx0, cx1, cx2, cx3, cx4, px0, px1, px2, px3, px4, px5, px6, px7, pxL, pxS, n_cl, cl0, cl1, cl2, cl3, cl4, cl5, cl6, b493, b494, b495, b496, b497] at h4 h5
          exact key true (by unfold asked sC; rw [h2, decide_eq_true h4, decide_eq_true h5, decide_eq_true h3]; rfl)
  · exact h.elim
theorem chB_ok (S : Sx) (c : Nat) : ∀ p, chB S c p = -1 ∨ ∃ b, b < p ∧ chB S c p = nI b := by
  intro p
  induction p with
  | zero => exact Or.inl rfl
  | succ p ih =>
    unfold chB
    split
    · exact Or.inr ⟨p, by omega, rfl⟩
    · rcases ih with h | ⟨b, hb, h⟩
      · exact Or.inl h
      · exact Or.inr ⟨b, by omega, h⟩
theorem nI_m1 {b : Nat} (h : b < 2 ^ 31) : nI b ≠ -1 := by
  intro e
  have := congrArg Int32.toInt e
  rw [nI_toInt h] at this
  have e2 : ((-1 : Int32)).toInt = -1 := by decide
  omega
set_option maxRecDepth 100000 in
theorem wk_X6_chooses (B : Nat) : fw_Wk B fl_X6 (cal_X6_chooses B) [] cst_X6 none kX6_chooses 5 (ct_X6_chooses B) := by
  intro as M Q QX h
  unfold ct_X6_chooses at h
  split at h
  · obtain ⟨rfl, c, hc, rfl, hn, hn6, hm, hm24, h⟩ := h
    unfold chS at h
    generalize hN : pn (mS B M) = N at hm hm24 h
    refine ⟨rfl, [(4, [true, true, true, true, false], fun n ls st M' => ∃ i, n = N - i ∧ i ≤ N ∧ ls = [some (.ref (B + 492)), some (.int (nI c)), some (.int (chB (mS B M) c i)), some (.int (nI i)), none] ∧ st = [] ∧ M' = M)], ⟨10, ?_⟩, ?_⟩
    · exact Exists.intro N (Exists.intro 0 ⟨rfl, by omega, rfl, rfl, rfl⟩)
    · intro q hq n ls st M' hi
      cases List.mem_singleton.mp hq
      obtain ⟨i, rfl, hi, rfl, rfl, rfl⟩ := hi
      refine ⟨100, And.intro kd_492 (And.intro kd_493 (And.intro (vn_493 (i := 3) (by decide)) (And.intro (fun h1 => ?_) (fun h1 => ?_))))⟩
      · have h1 : mS B M' 3 ≤ nI i := h1
        rw [hm, n_ge (by omega) (by omega)] at h1
        rw [show i = N by omega]
        refine And.intro (fun h2 => ?_) (fun h2 => ?_)
        · have h2 : ¬ chB (mS B M') c N = -1 := h2
          rw [if_neg h2] at h
          repeat' first
            | refine And.intro ?_ ?_
            | intro _
            | exact kd_492
            | exact kd_493
            | exact rfl
            | exact bi_01
            | exact vnl_493 (by decide)
            | (simp (disch := omega) only [cx0, cx1, cx2, cx3, cx4, px0, px1, px2, px3, px4, px5, px6, px7, pxL, pxS, n_cl, cl0, cl1, cl2, cl3, cl4, cl5, cl6, b493, b494, b495, b496, b497]; exact vn_i (by omega) (by decide))
            | exact Or.inl rfl
            | exact Or.inr rfl
          conv => whnf
          simp (disch := omega) only [cx0, cx1, cx2, cx3, cx4, px0, px1, px2, px3, px4, px5, px6, px7, pxL, pxS, n_cl, cl0, cl1, cl2, cl3, cl4, cl5, cl6, b493, b494, b495, b496, b497, row_1, row_row, st_row, upd_s, upd_n]
          exact h
        · have h2 : chB (mS B M') c N = -1 := h2
          rw [if_pos h2] at h
          repeat' first
            | refine And.intro ?_ ?_
            | intro _
            | exact kd_492
            | exact kd_493
            | exact rfl
            | exact bi_01
            | exact vnl_493 (by decide)
            | (simp (disch := omega) only [cx0, cx1, cx2, cx3, cx4, px0, px1, px2, px3, px4, px5, px6, px7, pxL, pxS, n_cl, cl0, cl1, cl2, cl3, cl4, cl5, cl6, b493, b494, b495, b496, b497]; exact vn_i (by omega) (by decide))
            | exact Or.inl rfl
            | exact Or.inr rfl
          conv => whnf
          simp (disch := omega) only [cx0, cx1, cx2, cx3, cx4, px0, px1, px2, px3, px4, px5, px6, px7, pxL, pxS, n_cl, cl0, cl1, cl2, cl3, cl4, cl5, cl6, b493, b494, b495, b496, b497, row_1, row_row, st_row, upd_s, upd_n]
          exact h
      · have h1 : ¬ mS B M' 3 ≤ nI i := h1
        rw [hm, n_ge (by omega) (by omega)] at h1
        have key : ∀ x : Int32, chB (mS B M') c (i + 1) = x → ∃ n', n' < N - i ∧ ∃ j, n' = N - j ∧ j ≤ N ∧ [some (Value.ref (B + 492)), some (Value.int (nI c)), some (Value.int x), some (Value.int (nI i + 1)), none] = [some (.ref (B + 492)), some (.int (nI c)), some (.int (chB (mS B M') c j)), some (.int (nI j)), none] ∧ ([] : List Value) = [] ∧ M' = M' := by
          intro x hx
          exact ⟨N - (i + 1), by omega, i + 1, rfl, by omega, by rw [hx, nI_1], rfl, rfl⟩
        have z0 : ¬ (¬ (0 : Int32) = 0) := fun z => z rfl
        refine And.intro kd_492 (And.intro rfl (And.intro (vP4 (by omega)) ?_))
        refine And.intro (fun h2 => ?_) (fun h2 => ?_)
        · refine And.intro (fun _ => ?_) (fun z => absurd z z0)
          simp (disch := omega) only [cx0, cx1, cx2, cx3, cx4, px0, px1, px2, px3, px4, px5, px6, px7, pxL, pxS, n_cl, cl0, cl1, cl2, cl3, cl4, cl5, cl6, b493, b494, b495, b496, b497] at h2
          refine key _ ?_
          rw [chB, if_neg]
          rintro ⟨z, -⟩
          unfold may sP at z
          rw [decide_eq_false h2] at z
          simp at z
        · refine And.intro kd_492 (And.intro rfl (Exists.intro i (Exists.intro c (And.intro (by omega) (And.intro hc (And.intro rfl (And.intro rfl ?_)))))))
          refine And.intro (fun h3 => ?_) (fun h3 => ?_)
          · refine And.intro (fun _ => ?_) (fun z => absurd z z0)
            have h3 := bi_0.mp h3
            refine key _ ?_
            rw [chB, if_neg]
            rintro ⟨z, -⟩
            unfold may at z
            rw [h3] at z
            simp at z
          · refine And.intro kd_492 (And.intro rfl (Exists.intro i (Exists.intro c (And.intro (by omega) (And.intro hc (And.intro rfl (And.intro rfl (And.intro hn (And.intro hn6 ?_)))))))))
            refine And.intro (fun h4 => ?_) (fun h4 => ?_)
            · refine And.intro (fun _ => ?_) (fun z => absurd z z0)
              have h4 := bi_n0.mp h4
              refine key _ ?_
              rw [chB, if_neg]
              rintro ⟨z, -⟩
              unfold may at z
              rw [h4] at z
              simp at z
            · refine And.intro (fun z => absurd z (by decide)) (fun _ => ?_)
              simp (disch := omega) only [cx0, cx1, cx2, cx3, cx4, px0, px1, px2, px3, px4, px5, px6, px7, pxL, pxS, n_cl, cl0, cl1, cl2, cl3, cl4, cl5, cl6, b493, b494, b495, b496, b497] at h2
              have h3 := bi_n0.mp h3
              have h4 := bi_0.mp h4
              have hmay : may (mS B M') c i = true := by
                unfold may sP
                rw [decide_eq_true h2, h3, h4]
                rfl
              refine And.intro (fun h5 => ?_) (fun h5 => ?_)
              · have h5 : chB (mS B M') c i = -1 := h5
                refine key _ ?_
                rw [chB, if_pos ⟨hmay, Or.inl h5⟩]
              · have h5 : ¬ chB (mS B M') c i = -1 := h5
                rcases chB_ok (mS B M') c i with z | ⟨b, hb, eb⟩
                · exact absurd z h5
                · have e1 : ((37 : Int32) + 20 * chB (mS B M') c i + 2).toNatClampNeg = 37 + 20 * b + 2 := by rw [eb, px2, n_cl (by omega)]
                  have e2 : (chB (mS B M') c i).toNatClampNeg = b := by rw [eb, n_cl (by omega)]
                  refine And.intro kd_492 (And.intro rfl (And.intro (vP2 (by omega)) (And.intro kd_492 (And.intro rfl (And.intro (by rw [eb]; exact vP2 (by omega)) (And.intro (fun h6 => ?_) (fun h6 => ?_)))))))
                  · have h6 : mS B M' ((37 : Int32) + 20 * chB (mS B M') c i + 2).toNatClampNeg ≤ mS B M' ((37 : Int32) + 20 * nI i + 2).toNatClampNeg := h6
                    rw [e1, px2, n_cl (by omega)] at h6
                    refine key _ ?_
                    rw [chB, if_neg]
                    rintro ⟨-, z | z⟩
                    · exact h5 z
                    · rw [e2] at z
                      exact absurd z (Int32.not_lt.mpr h6)
                  · have h6 : ¬ mS B M' ((37 : Int32) + 20 * chB (mS B M') c i + 2).toNatClampNeg ≤ mS B M' ((37 : Int32) + 20 * nI i + 2).toNatClampNeg := h6
                    rw [e1, px2, n_cl (by omega)] at h6
                    refine key _ ?_
                    rw [chB, if_pos ⟨hmay, Or.inr (by rw [e2]; exact Int32.not_le.mp h6)⟩]
  · exact h.elim
end WO

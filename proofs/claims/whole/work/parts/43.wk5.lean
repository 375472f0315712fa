/-! THE REFERENCE'S METHODS WALKED: the text, the digest -/
section WR5
theorem okN_eq {x s : Int32} : okN x s s = true ↔ x = s := by
  unfold okN
  simp only [Bool.and_eq_true, decide_eq_true_eq]
  exact ⟨fun h => Int32.le_antisymm h.2 h.1, fun h => by subst h; exact ⟨Int32.le_refl _, Int32.le_refl _⟩⟩
theorem tN_tN {B : Nat} {M : fw_M} {v v' : Int32} {p p' : Nat} : tN B (tN B M v p) v' p' = tN B M v' p' := by
  show fw_st (fw_st (fw_st (fw_st M _ _ _) _ _ _) _ _ _) _ _ _ = fw_st (fw_st M _ _ _) _ _ _
  rw [st_row, st_row, st_row, st_row, st_row, row_1, row_1, row_1, row_row, row_row, row_row, st_row, row_1, row_row]
  refine congrArg (fw_row M (B + 492)) (funext fun k => ?_)
  by_cases h8 : k = 8
  · subst h8; rw [upd_s, upd_s]
  · rw [upd_n h8, upd_n h8]
    by_cases h9 : k = 9
    · subst h9; rw [upd_s, upd_s]
    · rw [upd_n h9, upd_n h9, upd_n h8, upd_n h9]
theorem tN_o {B b : Nat} {M : fw_M} {v : Int32} {p : Nat} (h : b ≠ B + 492) : (tN B M v p).1 b = M.1 b := by
  rw [st_o h, st_o h]
theorem tN_n {B k : Nat} {M : fw_M} {v : Int32} {p : Nat} (h8 : k ≠ 8) (h9 : k ≠ 9) : (tN B M v p).1 (B + 492) k = M.1 (B + 492) k := by
  rw [st_n h8, st_n h9]
theorem tN_8 {B : Nat} {M : fw_M} {v : Int32} {p : Nat} : (tN B M v p).1 (B + 492) 8 = nI p := st_s
theorem tN_9 {B : Nat} {M : fw_M} {v : Int32} {p : Nat} : (tN B M v p).1 (B + 492) 9 = v := by rw [st_n (by decide), st_s]
theorem tN_K {B : Nat} {M : fw_M} {S : Sx} {v : Int32} {p : Nat} : tN B (mK B M S) v p = mK B (tN B M v p) S := by
  show fw_st (fw_st (fw_row M _ _) _ _ _) _ _ _ = fw_row (fw_st (fw_st M _ _ _) _ _ _) _ _
  rw [st_row, st_row, st_row, st_row, row_1, row_1, row_row, row_row, row_n (by omega), row_comm (by omega)]
theorem tN_id {B : Nat} {M : fw_M} {p : Nat} : tN B M (M.1 (B + 492) 9) p = fw_st M (B + 492) 8 (nI p) := by
  show fw_st (fw_st M _ _ _) _ _ _ = _
  rw [show fw_st M (B + 492) 9 (M.1 (B + 492) 9) = M from by rw [st_row, upd_self, row_self]]
theorem dgN_s {tl : Nat} {tx : Nat → Int32} {a d : Nat} : dgN tl tx a (d + 1) = if a < tl ∧ okN (tx a) 48 57 = true then dgN tl tx (a + 1) d + 1 else 0 := rfl
theorem tN_st {B : Nat} {M : fw_M} {v : Int32} {a b : Nat} : fw_st (tN B M v a) (B + 492) 8 (nI b) = tN B M v b := by
  show fw_st (fw_st _ _ _ _) _ _ _ = fw_st _ _ _ _
  rw [st_row (M := fw_st (fw_st M (B + 492) 9 v) (B + 492) 8 (nI a)), st_row (M := fw_st M (B + 492) 9 v), row_1, row_row, upd_upd]
  rfl
theorem TX_tN {B tl p p' : Nat} {M : fw_M} {v : Int32} {tx : Nat → Int32} (h : TX B M tl p tx) (hp : p' ≤ tl) : TX B (tN B M v p') tl p' tx := by
  obtain ⟨h1, h2, h3, h4, h5⟩ := h
  exact ⟨by rw [tN_o (by omega)]; exact h1, by rw [tN_n (by decide) (by decide)]; exact h2, h3, tN_8, hp⟩
set_option maxRecDepth 100000 in
theorem wk_X6_isAt (B : Nat) : fw_Wk B fl_X6 (cal_X6_isAt B) [] cst_X6 (some .boolean) kX6_isAt 3 (ct_X6_isAt B) := by
  intro as M Q QX h
  unfold ct_X6_isAt at h
  split at h
  · rename_i a x y
    obtain ⟨rfl, tl, p, tx, ⟨e1, e2, h3, e4, h5⟩, h⟩ := h
    refine ⟨rfl, [], ⟨60, And.intro kd_492 (And.intro kd_492 (And.intro (fun h1 => ?_) (fun h1 => ?_)))⟩, nofun⟩
    · have h1 : M.1 (B + 492) 6 ≤ M.1 (B + 492) 8 := h1
      rw [e2, e4, n_ge (by omega) (by omega)] at h1
      rw [decide_eq_false (by omega : ¬ p < tl)] at h
      exact And.intro (Or.inl rfl) h
    · have h1 : ¬ M.1 (B + 492) 6 ≤ M.1 (B + 492) 8 := h1
      rw [e2, e4, n_ge (by omega) (by omega)] at h1
      rw [decide_eq_true (by omega : p < tl), Bool.true_and] at h
      have ex : M.1 (B + 497) (M.1 (B + 492) 8).toNatClampNeg = tx p := by rw [e4, n_cl (by omega), e1]
      refine And.intro kd_492 (And.intro kd_492 (And.intro kd_497 (And.intro ?_ (And.intro (fun h2 => ?_) (fun h2 => ?_)))))
      · show fw_sd (vp_in (M.1 (B + 492) 8) (fw_len B (B + 497)))
        rw [e4, ln_497]; exact vn_i (by omega) (by decide)
      · have h2 : okN (M.1 (B + 497) (M.1 (B + 492) 8).toNatClampNeg) x y = false := bi_0.mp h2
        rw [ex] at h2
        rw [h2] at h
        exact And.intro (Or.inl rfl) h
      · have h2 : okN (M.1 (B + 497) (M.1 (B + 492) 8).toNatClampNeg) x y = true := bi_n0.mp h2
        rw [ex] at h2
        rw [h2] at h
        exact And.intro (Or.inr rfl) h
  · exact h.elim
set_option maxRecDepth 100000 in
theorem wk_X6_isNumber (B : Nat) : fw_Wk B fl_X6 (cal_X6_isNumber B) [] cst_X6 (some .boolean) kX6_isNumber 8 (ct_X6_isNumber B) := by
  intro as M Q QX h
  unfold ct_X6_isNumber at h
  split at h
  · rename_i a x lo hi no sg
    obtain ⟨rfl, tl, p, tx, d, hT, hd, rfl, h⟩ := h
    have hp5 := hT.2.2.2.2
    have htl := hT.2.2.1
    have hL := dgN_tl (tl := tl) (tx := tx) d p hp5
    refine ⟨rfl, [(11, [true, true, true, true, true, true, true, false], fun m ls st M' => ∃ i, m = d - i + 1 ∧ i ≤ d ∧ p + i ≤ tl ∧ dgN tl tx p d = i + dgN tl tx (p + i) (d - i) ∧ ls = [some (.ref (B + 492)), some (.int (nI d)), some (.int lo), some (.int hi), some (.int no), some (.int sg), some (.int (nI p)), none] ∧ st = [] ∧ M' = tN B M (nbN tx p i) (p + i)),
      (70, [true, true, true, true, true, true, true, false], fun m ls st M' => ∃ i, m = 0 ∧ p + i ≤ tl ∧ dgN tl tx p d = i ∧ ls = [some (.ref (B + 492)), some (.int (nI d)), some (.int lo), some (.int hi), some (.int no), some (.int sg), some (.int (nI p)), none] ∧ st = [] ∧ M' = tN B M (nbN tx p i) (p + i))], ⟨60, ?_⟩, ?_⟩
    · refine And.intro kd_492 (And.intro kd_492 (Exists.intro (d + 1) (Exists.intro 0 ⟨rfl, by omega, by omega, by rw [Nat.zero_add]; rfl, ?_, rfl, ?_⟩)))
      · show [some (Value.ref (B + 492)), some (Value.int (nI d)), some (Value.int lo), some (Value.int hi), some (Value.int no), some (Value.int sg), some (Value.int (M.1 (B + 492) 8)), none] = _
        rw [hT.2.2.2.1]
      · show fw_st M (B + 492) 9 0 = fw_st (fw_st M (B + 492) 9 0) (B + 492) 8 (nI p)
        rw [show fw_st (fw_st M (B + 492) 9 0) (B + 492) 8 (nI p) = fw_st (fw_st M (B + 492) 9 0) (B + 492) 8 ((fw_st M (B + 492) 9 0).1 (B + 492) 8) from by rw [st_n (by decide), hT.2.2.2.1], st_row (M := fw_st M (B + 492) 9 0), upd_self, row_self]
    · intro q hq m ls st M' hi'
      simp only [List.mem_cons, List.not_mem_nil, or_false] at hq
      rcases hq with rfl | rfl
      · obtain ⟨i, rfl, hi, hpi, hg, rfl, rfl, rfl⟩ := hi'
        have hT1 : TX B (tN B M (nbN tx p i) (p + i)) tl (p + i) tx := TX_tN hT hpi
        have f1 := hT1.1
        have f9 : (tN B M (nbN tx p i) (p + i)).1 (B + 492) 9 = nbN tx p i := tN_9
        have f8 : (tN B M (nbN tx p i) (p + i)).1 (B + 492) 8 = nI (p + i) := tN_8
        have es : (tN B M (nbN tx p i) (p + i)).1 (B + 492) 8 - nI p = nI i := by rw [f8, pk_sub (by omega), Nat.add_sub_cancel_left]
        refine ⟨200, And.intro kd_492 (And.intro (fun h1 => ?_) (fun h1 => ?_))⟩
        · have h1 : nI d ≤ (tN B M (nbN tx p i) (p + i)).1 (B + 492) 8 - nI p := h1
          rw [es, n_ge (by omega) (by omega)] at h1
          have ei : i = d := by omega
          subst ei
          refine Exists.intro 0 (And.intro (by omega) (Exists.intro i ⟨rfl, hpi, ?_, rfl, rfl, rfl⟩))
          rw [hg, Nat.sub_self]; rfl
        · have h1 : ¬ nI d ≤ (tN B M (nbN tx p i) (p + i)).1 (B + 492) 8 - nI p := h1
          rw [es, n_ge (by omega) (by omega)] at h1
          obtain ⟨r, hr⟩ : ∃ r, d - i = r + 1 := ⟨d - i - 1, by omega⟩
          rw [hr, dgN_s] at hg
          refine And.intro kd_492 (And.intro rfl (Exists.intro tl (Exists.intro (p + i) (Exists.intro tx (And.intro hT1 (And.intro (fun h2 => ?_) (fun h2 => ?_)))))))
          · have h2 := bi_0.mp h2
            refine Exists.intro 0 (And.intro (by omega) (Exists.intro i ⟨rfl, hpi, ?_, rfl, rfl, rfl⟩))
            rw [hg, if_neg ?_]
            · rfl
            · intro z
              have h2 : (decide (p + i < tl) && okN (tx (p + i)) 48 57) = false := h2
              rw [decide_eq_true z.1, z.2] at h2
              exact absurd h2 (by decide)
          · have h2 : (decide (p + i < tl) && okN (tx (p + i)) 48 57) = true := bi_n0.mp h2
            simp only [Bool.and_eq_true, decide_eq_true_eq] at h2
            rw [if_pos h2] at hg
            refine And.intro kd_492 (And.intro kd_492 (And.intro kd_492 (And.intro kd_497 (And.intro ?_ (And.intro kd_492 (And.intro kd_492 (And.intro kd_492 ?_)))))))
            · show fw_sd (vp_in ((tN B M (nbN tx p i) (p + i)).1 (B + 492) 8) (fw_len B (B + 497)))
              rw [f8, ln_497]; exact vn_i (by omega) (by decide)
            refine Exists.intro (d - (i + 1) + 1) (And.intro (by omega) (Exists.intro (i + 1) ⟨rfl, by omega, by omega, ?_, rfl, rfl, ?_⟩))
            · rw [hg, show d - (i + 1) = r by omega, show p + (i + 1) = p + i + 1 by omega]; omega
            · show fw_st (fw_st (tN B M (nbN tx p i) (p + i)) (B + 492) 9 (10 * (tN B M (nbN tx p i) (p + i)).1 (B + 492) 9 + (tN B M (nbN tx p i) (p + i)).1 (B + 497) ((tN B M (nbN tx p i) (p + i)).1 (B + 492) 8).toNatClampNeg - 48)) (B + 492) 8 ((fw_st (tN B M (nbN tx p i) (p + i)) (B + 492) 9 (10 * (tN B M (nbN tx p i) (p + i)).1 (B + 492) 9 + (tN B M (nbN tx p i) (p + i)).1 (B + 497) ((tN B M (nbN tx p i) (p + i)).1 (B + 492) 8).toNatClampNeg - 48)).1 (B + 492) 8 + 1) = _
              have e : (10 : Int32) * (tN B M (nbN tx p i) (p + i)).1 (B + 492) 9 + (tN B M (nbN tx p i) (p + i)).1 (B + 497) ((tN B M (nbN tx p i) (p + i)).1 (B + 492) 8).toNatClampNeg - 48 = nbN tx p (i + 1) := by rw [f9, f8, f1, n_cl (by omega)]; rfl
              rw [e, st_n (M := tN B M (nbN tx p i) (p + i)) (by decide), f8, nI_1]
              exact tN_tN (v' := nbN tx p (i + 1)) (p' := p + i + 1)
      · obtain ⟨i, rfl, hpi, hg, rfl, rfl, rfl⟩ := hi'
        have hT1 : TX B (tN B M (nbN tx p i) (p + i)) tl (p + i) tx := TX_tN hT hpi
        have f9 : (tN B M (nbN tx p i) (p + i)).1 (B + 492) 9 = nbN tx p i := tN_9
        have f8 : (tN B M (nbN tx p i) (p + i)).1 (B + 492) 8 = nI (p + i) := tN_8
        unfold numb at h
        rw [hg] at h
        have back : fw_st (tN B M (nbN tx p i) (p + i)) (B + 492) 8 (nI p) = tN B M (nbN tx p i) p := by
          show fw_st (fw_st _ _ _ _) _ _ _ = fw_st _ _ _ _
          rw [st_row (M := fw_st (fw_st M (B + 492) 9 (nbN tx p i)) (B + 492) 8 (nI (p + i))), st_row (M := fw_st M (B + 492) 9 (nbN tx p i)), row_1, row_row, upd_upd]
          rfl
        refine ⟨200, And.intro kd_492 (And.intro (fun h1 => ?_) (fun h1 => ?_))⟩
        · have h1 : (tN B M (nbN tx p i) (p + i)).1 (B + 492) 8 = nI p := h1
          rw [f8, nI_eq (by omega) (by omega)] at h1
          have ei : i = 0 := by omega
          rw [if_pos ei] at h
          subst ei
          exact And.intro (Or.inl rfl) h
        · have h1 : ¬ (tN B M (nbN tx p i) (p + i)).1 (B + 492) 8 = nI p := h1
          rw [f8, nI_eq (by omega) (by omega)] at h1
          rw [if_neg (by omega : ¬ i = 0)] at h
          refine And.intro kd_492 (And.intro rfl (Exists.intro tl (Exists.intro (p + i) (Exists.intro tx (And.intro hT1 (And.intro (fun h2 => ?_) (fun h2 => ?_)))))))
          · have h2 : (decide (p + i < tl) && okN (tx (p + i)) 48 57) = false := bi_0.mp h2
            rw [if_neg (fun z => by rw [decide_eq_true z.1, z.2] at h2; exact absurd h2 (by decide))] at h
            refine And.intro kd_492 (And.intro (fun h3 => ?_) (fun h3 => ?_))
            · have h3 : okN ((tN B M (nbN tx p i) (p + i)).1 (B + 492) 9) lo hi = false := bi_0.mp h3
              rw [f9] at h3
              rw [if_pos (Or.inl h3)] at h
              refine And.intro kd_492 (And.intro (Or.inl rfl) ?_)
              rw [← back] at h
              exact h
            · have h3 : okN ((tN B M (nbN tx p i) (p + i)).1 (B + 492) 9) lo hi = true := bi_n0.mp h3
              rw [f9] at h3
              refine And.intro kd_492 (And.intro (fun h4 => ?_) (fun h4 => ?_))
              · have h4 : ¬ (tN B M (nbN tx p i) (p + i)).1 (B + 492) 9 = no := h4
                rw [f9] at h4
                rw [if_neg (fun z => z.elim (fun z => by rw [h3] at z; cases z) h4)] at h
                have fin : ∀ v : Int32, (if p + i < tl ∧ tx (p + i) = sg then (true, p + i + 1) else (false, p + i)) = (decide (p + i < tl) && okN (tx (p + i)) sg sg, p + i + (if (decide (p + i < tl) && okN (tx (p + i)) sg sg) = true then 1 else 0)) := fun _ => by
                  by_cases z : p + i < tl ∧ tx (p + i) = sg
                  · rw [if_pos z, decide_eq_true z.1, okN_eq.mpr z.2]; rfl
                  · rw [if_neg z]
                    have : (decide (p + i < tl) && okN (tx (p + i)) sg sg) = false := by
                      cases e : (decide (p + i < tl) && okN (tx (p + i)) sg sg) with
                      | false => rfl
                      | true =>
                        simp only [Bool.and_eq_true, decide_eq_true_eq] at e
                        exact absurd ⟨e.1, okN_eq.mp e.2⟩ z
                    rw [this]; rfl
                rw [fin 0] at h
                refine And.intro kd_492 (And.intro rfl (Exists.intro tl (Exists.intro (p + i) (Exists.intro tx (And.intro hT1 (And.intro kd_492 (And.intro (fun h5 => ?_) (fun h5 => ?_))))))))
                · have h5 : (decide (p + i < tl) && okN (tx (p + i)) sg sg) = false := bi_0.mp h5
                  refine And.intro kd_492 (And.intro bi_01 ?_)
                  show Q (some (.int (bi (decide (p + i < tl) && okN (tx (p + i)) sg sg)))) (fw_st (tN B M (nbN tx p i) (p + i)) (B + 492) 8 ((tN B M (nbN tx p i) (p + i)).1 (B + 492) 8 + nI 0))
                  rw [f8, n_add, tN_st]
                  rw [h5] at h ⊢
                  exact h
                · have h5 : (decide (p + i < tl) && okN (tx (p + i)) sg sg) = true := bi_n0.mp h5
                  refine And.intro kd_492 (And.intro bi_01 ?_)
                  show Q (some (.int (bi (decide (p + i < tl) && okN (tx (p + i)) sg sg)))) (fw_st (tN B M (nbN tx p i) (p + i)) (B + 492) 8 ((tN B M (nbN tx p i) (p + i)).1 (B + 492) 8 + nI 1))
                  rw [f8, n_add, tN_st]
                  rw [h5] at h ⊢
                  exact h
              · have h4 : (tN B M (nbN tx p i) (p + i)).1 (B + 492) 9 = no := h4
                rw [f9] at h4
                rw [if_pos (Or.inr h4)] at h
                refine And.intro kd_492 (And.intro (Or.inl rfl) ?_)
                rw [← back] at h
                exact h
          · have h2 : (decide (p + i < tl) && okN (tx (p + i)) 48 57) = true := bi_n0.mp h2
            simp only [Bool.and_eq_true, decide_eq_true_eq] at h2
            rw [if_pos h2] at h
            exact And.intro (Or.inl rfl) h
  · exact h.elim
set_option maxRecDepth 100000 in
theorem wk_X6_isItem (B : Nat) : fw_Wk B fl_X6 (cal_X6_isItem B) [] cst_X6 (some .boolean) kX6_isItem 4 (ct_X6_isItem B) := by
  intro as M Q QX h
  unfold ct_X6_isItem at h
  split at h
  · obtain ⟨rfl, b, tl, p, tx, hT, hW, h24, hno, hyes⟩ := h
    have hm : mS B M 3 = nI (pn (mS B M)) := hW.2.2.1
    have hm24 : pn (mS B M) ≤ 24 := hW.2.2.2.1
    obtain ⟨i1, i2, i3, i4⟩ := item_tl (tx := tx) hT.2.2.2.2
    refine ⟨rfl, [], ⟨400, And.intro kd_492 (And.intro kd_493 (And.intro (vn_493 (i := 3) (by decide)) (And.intro (fun h1 => ?_) (fun h1 => ?_))))⟩, nofun⟩
    · exact And.intro (Or.inl rfl) (h24 h1)
    · have h1 : mS B M 3 ≠ 24 := h1
      have hno := hno h1
      have hyes := hyes h1
      have hp : pn (mS B M) < 24 := by
        rcases Nat.lt_or_ge (pn (mS B M)) 24 with z | z
        · exact z
        · exact absurd (by rw [hm, show pn (mS B M) = 24 by omega]; rfl) h1
      have no1 : (iA tl tx p).1 = false → ∀ v, Q (some (.int 0)) (tN B M v (iA tl tx p).2) := fun g1 => by
        have e : item tl tx p = iA tl tx p := by unfold item; rw [if_pos g1]
        rw [e] at hno; exact hno g1
      have no2 : (iA tl tx p).1 = true → (iB tl tx p).1 = false → ∀ v, Q (some (.int 0)) (tN B M v (iB tl tx p).2) := fun g1 g2 => by
        have e : item tl tx p = iB tl tx p := by unfold item; rw [g1, if_neg (by decide), if_pos g2]
        rw [e] at hno; exact hno g2
      have no3 : (iA tl tx p).1 = true → (iB tl tx p).1 = true → (iC tl tx p).1 = false → ∀ v, Q (some (.int 0)) (tN B M v (iC tl tx p).2) := fun g1 g2 g3 => by
        have e : item tl tx p = iC tl tx p := by unfold item; rw [g1, if_neg (by decide), g2, if_neg (by decide), if_pos g3]
        rw [e] at hno; exact hno g3
      have e4 : (iA tl tx p).1 = true → (iB tl tx p).1 = true → (iC tl tx p).1 = true → item tl tx p = iD tl tx p := fun g1 g2 g3 => by
        unfold item; rw [g1, if_neg (by decide), g2, if_neg (by decide), g3, if_neg (by decide)]
      have T1 : TX B (tN B M (iO tl tx p) (iA tl tx p).2) tl (iA tl tx p).2 tx := TX_tN hT i1
      have n1 : (tN B M (iO tl tx p) (iA tl tx p).2).1 (B + 492) 9 = iO tl tx p := tN_9
      refine And.intro kd_492 (And.intro rfl (Exists.intro tl (Exists.intro p (Exists.intro tx (Exists.intro 2 (And.intro hT (And.intro (by decide) (And.intro rfl (And.intro (fun g1 => ?_) (fun g1 => And.intro (Or.inl rfl) (no1 (bi_0.mp g1) _)))))))))))
      have g1 : (iA tl tx p).1 = true := bi_n0.mp g1
      have eB : numb tl tx (iA tl tx p).2 2 0 15 ((tN B M (iO tl tx p) (iA tl tx p).2).1 (B + 492) 9) 44 = iB tl tx p := by rw [n1]; rfl
      have eM2 : tN B (tN B M (iO tl tx p) (iA tl tx p).2) (iG tl tx p) (numb tl tx (iA tl tx p).2 2 0 15 ((tN B M (iO tl tx p) (iA tl tx p).2).1 (B + 492) 9) 44).2 = tN B M (iG tl tx p) (iB tl tx p).2 := by rw [eB, tN_tN]
      refine And.intro kd_492 (And.intro kd_492 (And.intro rfl (Exists.intro tl (Exists.intro (iA tl tx p).2 (Exists.intro tx (Exists.intro 2 (And.intro T1 (And.intro (by decide) (And.intro rfl (And.intro (fun g2 => ?_) (fun g2 => And.intro (Or.inl rfl) ?_)))))))))))
      rotate_left
      · have g2 : (numb tl tx (iA tl tx p).2 2 0 15 ((tN B M (iO tl tx p) (iA tl tx p).2).1 (B + 492) 9) 44).1 = false := bi_0.mp g2
        rw [eB] at g2
        show Q (some (.int 0)) (tN B (tN B M (iO tl tx p) (iA tl tx p).2) (iG tl tx p) (numb tl tx (iA tl tx p).2 2 0 15 ((tN B M (iO tl tx p) (iA tl tx p).2).1 (B + 492) 9) 44).2)
        rw [eM2]
        exact no2 g1 g2 _
      have g2 : (numb tl tx (iA tl tx p).2 2 0 15 ((tN B M (iO tl tx p) (iA tl tx p).2).1 (B + 492) 9) 44).1 = true := bi_n0.mp g2
      rw [eB] at g2
      have T2 : TX B (tN B (tN B M (iO tl tx p) (iA tl tx p).2) (iG tl tx p) (numb tl tx (iA tl tx p).2 2 0 15 ((tN B M (iO tl tx p) (iA tl tx p).2).1 (B + 492) 9) 44).2) tl (iB tl tx p).2 tx := by rw [eM2]; exact TX_tN hT i2
      have n2 : (tN B (tN B M (iO tl tx p) (iA tl tx p).2) (iG tl tx p) (numb tl tx (iA tl tx p).2 2 0 15 ((tN B M (iO tl tx p) (iA tl tx p).2).1 (B + 492) 9) 44).2).1 (B + 492) 9 = iG tl tx p := tN_9
      refine And.intro kd_492 (And.intro kd_492 (And.intro rfl (Exists.intro tl (Exists.intro (iB tl tx p).2 (Exists.intro tx (Exists.intro 3 (And.intro T2 (And.intro (by decide) (And.intro rfl (And.intro (fun g3 => ?_) (fun g3 => And.intro (Or.inl rfl) ?_)))))))))))
      rotate_left
      · have g3 : (iC tl tx p).1 = false := bi_0.mp g3
        show Q (some (.int 0)) (tN B (tN B (tN B M (iO tl tx p) (iA tl tx p).2) (iG tl tx p) (numb tl tx (iA tl tx p).2 2 0 15 ((tN B M (iO tl tx p) (iA tl tx p).2).1 (B + 492) 9) 44).2) (iK tl tx p) (iC tl tx p).2)
        rw [eM2, tN_tN]
        exact no3 g1 g2 g3 _
      have g3 : (iC tl tx p).1 = true := bi_n0.mp g3
      generalize hM2 : tN B (tN B M (iO tl tx p) (iA tl tx p).2) (iG tl tx p) (numb tl tx (iA tl tx p).2 2 0 15 ((tN B M (iO tl tx p) (iA tl tx p).2).1 (B + 492) 9) 44).2 = M2 at eM2 T2 n2
      have T3 : TX B (tN B M2 (iK tl tx p) (iC tl tx p).2) tl (iC tl tx p).2 tx := TX_tN T2 i3
      have n3 : (tN B M2 (iK tl tx p) (iC tl tx p).2).1 (B + 492) 9 = iK tl tx p := tN_9
      have e4 := e4 g1 g2 g3
      rw [e4] at hno hyes
      refine And.intro kd_492 (And.intro kd_492 (And.intro rfl (Exists.intro tl (Exists.intro (iC tl tx p).2 (Exists.intro tx (Exists.intro 4 (And.intro (by rw [← hM2] at T3; exact T3) (And.intro (by decide) (And.intro rfl (And.intro (fun g4 => ?_) (fun g4 => And.intro (Or.inl rfl) ?_)))))))))))
      rotate_left
      · have g4 : (iD tl tx p).1 = false := bi_0.mp g4
        have this := hno g4 (iT tl tx p)
        have key : Q (some (.int 0)) (tN B (tN B M2 (iK tl tx p) (iC tl tx p).2) (iT tl tx p) (iD tl tx p).2) := by rw [eM2, tN_tN, tN_tN]; exact this
        rw [← hM2] at key
        exact key
      have g4 : (iD tl tx p).1 = true := bi_n0.mp g4
      have key : mS B (tN B (tN B M2 (iK tl tx p) (iC tl tx p).2) (iT tl tx p) (iD tl tx p).2) 3 = nI (pn (mS B (tN B (tN B M2 (iK tl tx p) (iC tl tx p).2) (iT tl tx p) (iD tl tx p).2))) ∧ pn (mS B (tN B (tN B M2 (iK tl tx p) (iC tl tx p).2) (iT tl tx p) (iD tl tx p).2)) < 24 ∧ (((1 : Int32) = 0 ∨ (1 : Int32) = 1) ∧ Q (some (.int 1)) (mK B (tN B (tN B M2 (iK tl tx p) (iC tl tx p).2) (iT tl tx p) (iD tl tx p).2) (comS (mS B (tN B (tN B M2 (iK tl tx p) (iC tl tx p).2) (iT tl tx p) (iD tl tx p).2)) ((tN B M (iO tl tx p) (iA tl tx p).2).1 (B + 492) 9) (M2.1 (B + 492) 9) ((tN B M2 (iK tl tx p) (iC tl tx p).2).1 (B + 492) 9) ((tN B (tN B M2 (iK tl tx p) (iC tl tx p).2) (iT tl tx p) (iD tl tx p).2).1 (B + 492) 9)))) := by
        have e5 : tN B (tN B M2 (iK tl tx p) (iC tl tx p).2) (iT tl tx p) (iD tl tx p).2 = tN B M (iT tl tx p) (iD tl tx p).2 := by rw [eM2, tN_tN, tN_tN]
        have e6 : mS B (tN B M (iT tl tx p) (iD tl tx p).2) = mS B M := tN_o (by omega)
        rw [e5, e6, n1, n2, n3, show (tN B M (iT tl tx p) (iD tl tx p).2).1 (B + 492) 9 = iT tl tx p from tN_9]
        exact ⟨hm, hp, Or.inr rfl, hyes g4 (iT tl tx p)⟩
      rw [← hM2] at key
      exact And.intro kd_492 (And.intro kd_492 (And.intro rfl key))
  · exact h.elim
set_option maxRecDepth 100000 in
theorem wk_X6_mix (B : Nat) : fw_Wk B fl_X6 (cal_X6_mix B) [] cst_X6 none kX6_mix 2 (ct_X6_mix B) := by
  intro as M Q QX h
  unfold ct_X6_mix at h
  split at h
  · obtain ⟨rfl, h⟩ := h
    refine ⟨rfl, [], ⟨60, And.intro kd_492 (And.intro kd_492 ?_)⟩, nofun⟩
    exact h
  · exact h.elim
theorem dgN_ag {tl : Nat} {tx ty : Nat → Int32} (h : ∀ k, k < tl → tx k = ty k) : ∀ d a, dgN tl tx a d = dgN tl ty a d := by
  intro d
  induction d with
  | zero => intro a; rfl
  | succ d ih =>
    intro a
    rw [dgN_s, dgN_s, ih]
    by_cases z : a < tl
    · rw [h a z]
    · rw [if_neg (fun e => z e.1), if_neg (fun e => z e.1)]
theorem nbN_ag {tl : Nat} {tx ty : Nat → Int32} (h : ∀ k, k < tl → tx k = ty k) : ∀ n a, a + n ≤ tl → nbN tx a n = nbN ty a n := by
  intro n
  induction n with
  | zero => intro a _; rfl
  | succ n ih =>
    intro a ha
    unfold nbN
    rw [ih a (by omega), h (a + n) (by omega)]
theorem nbd_ag {tl a d : Nat} {tx ty : Nat → Int32} (h : ∀ k, k < tl → tx k = ty k) (ha : a ≤ tl) : nbN tx a (dgN tl tx a d) = nbN ty a (dgN tl ty a d) := by
  rw [← dgN_ag h]
  exact nbN_ag h _ a (dgN_tl d a ha)
theorem numb_ag {tl a d : Nat} {tx ty : Nat → Int32} {lo hi no sg : Int32} (h : ∀ k, k < tl → tx k = ty k) (ha : a ≤ tl) : numb tl tx a d lo hi no sg = numb tl ty a d lo hi no sg := by
  unfold numb
  rw [nbd_ag h ha, dgN_ag h]
  by_cases z : a + dgN tl ty a d < tl
  · rw [h _ z]
  · have f1 : ¬ (a + dgN tl ty a d < tl ∧ okN (tx (a + dgN tl ty a d)) 48 57 = true) := fun e => z e.1
    have f2 : ¬ (a + dgN tl ty a d < tl ∧ okN (ty (a + dgN tl ty a d)) 48 57 = true) := fun e => z e.1
    have f3 : ¬ (a + dgN tl ty a d < tl ∧ tx (a + dgN tl ty a d) = sg) := fun e => z e.1
    have f4 : ¬ (a + dgN tl ty a d < tl ∧ ty (a + dgN tl ty a d) = sg) := fun e => z e.1
    rw [if_neg f1, if_neg f2, if_neg f3, if_neg f4]
theorem item_ag {tl a : Nat} {tx ty : Nat → Int32} (h : ∀ k, k < tl → tx k = ty k) (ha : a ≤ tl) : item tl tx a = item tl ty a ∧ ∀ S, comI S tl tx a = comI S tl ty a := by
  obtain ⟨i1, i2, i3, i4⟩ := item_tl (tx := ty) ha
  have eO : iO tl tx a = iO tl ty a := nbd_ag h ha
  have eA : iA tl tx a = iA tl ty a := numb_ag h ha
  have eB : iB tl tx a = iB tl ty a := by unfold iB; rw [eA, eO]; exact numb_ag h i1
  have eC : iC tl tx a = iC tl ty a := by unfold iC; rw [eB]; exact numb_ag h i2
  have eD : iD tl tx a = iD tl ty a := by unfold iD; rw [eC]; exact numb_ag h i3
  refine ⟨by unfold item; rw [eA, eB, eC, eD], fun S => ?_⟩
  unfold comI
  rw [eO, show iG tl tx a = iG tl ty a from by unfold iG; rw [eA]; exact nbd_ag h i1, show iK tl tx a = iK tl ty a from by unfold iK; rw [eB]; exact nbd_ag h i2, show iT tl tx a = iT tl ty a from by unfold iT; rw [eC]; exact nbd_ag h i3]
theorem prN_ag {tl : Nat} {tx ty : Nat → Int32} (h : ∀ k, k < tl → tx k = ty k) : ∀ n S a, a ≤ tl → prN tl tx n S a = prN tl ty n S a := by
  intro n
  induction n with
  | zero => intro S a _; rfl
  | succ n ih =>
    intro S a ha
    obtain ⟨e1, e2⟩ := item_ag h ha
    unfold prN
    rw [e1, e2, ih _ _ (item_le ha)]
theorem prN_s {tl n a : Nat} {S : Sx} {tx : Nat → Int32} : prN tl tx (n + 1) S a = if a < tl then (if S 3 = 24 then (false, a, S) else if (item tl tx a).1 = true then prN tl tx n (comI S tl tx a) (item tl tx a).2 else (false, (item tl tx a).2, S)) else (true, a, S) := rfl
set_option maxRecDepth 100000 in
theorem wk_X6_parse (B : Nat) : fw_Wk B fl_X6 (cal_X6_parse B) [] cst_X6 (some .int) kX6_parse 1 (ct_X6_parse B) := by
  intro as M Q QX h
  unfold ct_X6_parse at h
  split at h
  · obtain ⟨rfl, ⟨S, n, H, tl, tx⟩, hR, hG, h⟩ := h
    have eS : mS B M = S := hR.1
    subst eS
    obtain ⟨t, ht, hW⟩ := GS_wf hG.1
    have hW : WF (6 * t) (mS B M) := hW
    have hz0 : ∀ k, 517 ≤ k → mS B M k = 0 := by obtain ⟨_, _, _, _, z⟩ := hG.1; exact z
    have ht6 : M.1 (B + 492) 6 = nI tl := hR.2.2.2.2.1
    have htl : tl ≤ 150 := hR.2.2.2.2.2.1
    have htx : ∀ k, k < tl → M.1 (B + 497) k = tx k := hR.2.2.2.2.2.2
    unfold opParse at h
    have h : ∀ M', RM B M' (if (prN tl tx 151 (mS B M) 0).1 = true then (0, (prN tl tx 151 (mS B M) 0).2.2 3, phZ (mS B M, n, H, tl, tx) (prN tl tx 151 (mS B M) 0).2.2) else (0, -10 - nI (prN tl tx 151 (mS B M) 0).2.1, (mS B M, n, H, tl, tx)) : Nat × Int32 × Zs).2.2 → Fr B M M' → Q (some (.int (if (prN tl tx 151 (mS B M) 0).1 = true then (0, (prN tl tx 151 (mS B M) 0).2.2 3, phZ (mS B M, n, H, tl, tx) (prN tl tx 151 (mS B M) 0).2.2) else (0, -10 - nI (prN tl tx 151 (mS B M) 0).2.1, (mS B M, n, H, tl, tx)) : Nat × Int32 × Zs).2.1)) M' := h
    have e0 : mS B (fw_st M (B + 492) 7 0) = mS B M := st_o (by omega)
    have hne : B + 495 ≠ B + 493 := by omega
    have hne' : B + 493 ≠ B + 495 := by omega
    have hR1 : RM B (fw_row (fw_st M (B + 492) 7 0) (B + 495) (cpN 517 (mS B (fw_st M (B + 492) 7 0)) ((fw_st M (B + 492) 7 0).1 (B + 495)))) (mS B M, n, H, tl, tx) := RM_row (RM_st hR ⟨by decide, by decide⟩) (Or.inl rfl)
    have hF1 : Fr B M (fw_row (fw_st M (B + 492) 7 0) (B + 495) (cpN 517 (mS B (fw_st M (B + 492) 7 0)) ((fw_st M (B + 492) 7 0).1 (B + 495)))) := Fr_tr Fr_st (Fr_row (by decide) (by decide))
    have hk1 : ∀ j, j < 517 → (fw_row (fw_st M (B + 492) 7 0) (B + 495) (cpN 517 (mS B (fw_st M (B + 492) 7 0)) ((fw_st M (B + 492) 7 0).1 (B + 495)))).1 (B + 495) j = mS B M j := fun j hj => by
      rw [row_1]; unfold cpN; rw [if_pos hj, e0]
    have e71 : (fw_row (fw_st M (B + 492) 7 0) (B + 495) (cpN 517 (mS B (fw_st M (B + 492) 7 0)) ((fw_st M (B + 492) 7 0).1 (B + 495)))).1 (B + 492) 7 = 0 := by rw [row_n (by omega), st_s]
    generalize eM1 : fw_row (fw_st M (B + 492) 7 0) (B + 495) (cpN 517 (mS B (fw_st M (B + 492) 7 0)) ((fw_st M (B + 492) 7 0).1 (B + 495))) = M1 at hR1 hF1 hk1 e71
    have hT1 : ∀ S' v a, a ≤ tl → TX B (mK B (tN B M1 v a) S') tl a (M1.1 (B + 497)) := fun S' v a ha => by
      refine ⟨?_, ?_, htl, ?_, ha⟩
      · rw [row_n (by omega), tN_o (by omega)]
      · rw [row_n (by omega), tN_n (by decide) (by decide)]; exact hR1.2.2.2.2.1
      · rw [row_n (by omega)]; exact tN_8
    have hag : ∀ k, k < tl → tx k = M1.1 (B + 497) k := fun k hk => (hR1.2.2.2.2.2.2 k hk).symm
    generalize M1.1 (B + 497) = ty at hT1 hag
    rw [prN_ag hag 151 _ 0 (Nat.zero_le _)] at h
    have hRM : ∀ S' v a, RM B (mK B (tN B M1 v a) S') (S', n, H, tl, tx) := fun S' v a => RM_K (RM_st (RM_st hR1 ⟨by decide, by decide⟩) ⟨by decide, by decide⟩)
    have hFr : ∀ S' v a, Fr B M (mK B (tN B M1 v a) S') := fun S' v a => Fr_tr hF1 (Fr_tr Fr_st (Fr_tr Fr_st Fr_K))
    have bad : ∀ S' v a, (∀ k, 517 ≤ k → S' k = mS B M k) → prN tl ty 151 (mS B M) 0 = (false, a, S') → Q (some (.int (-10 - (fw_row (mK B (tN B M1 v a) S') (B + 493) (cpN 517 ((mK B (tN B M1 v a) S').1 (B + 495)) (mS B (mK B (tN B M1 v a) S')))).1 (B + 492) 8))) (fw_row (mK B (tN B M1 v a) S') (B + 493) (cpN 517 ((mK B (tN B M1 v a) S').1 (B + 495)) (mS B (mK B (tN B M1 v a) S')))) := by
      intro S' v a hS' e
      rw [e] at h
      have h : ∀ M', RM B M' (mS B M, n, H, tl, tx) → Fr B M M' → Q (some (.int (-10 - nI a))) M' := h
      have e1 : cpN 517 ((mK B (tN B M1 v a) S').1 (B + 495)) (mS B (mK B (tN B M1 v a) S')) = mS B M := by
        funext k
        unfold cpN
        by_cases g : k < 517
        · rw [if_pos g, row_n (by omega), tN_o (by omega)]; exact hk1 k g
        · rw [if_neg g, mS_K]; exact hS' k (by omega)
      rw [e1, row_row, row_n (by omega), tN_8]
      exact h _ (hRM _ _ _) (hFr _ _ _)
    refine ⟨rfl, [(14, [true], fun m ls st M' => ∃ r S' a v b, m = r ∧ a ≤ tl ∧ tl - a < r ∧ prN tl ty r S' a = prN tl ty 151 (mS B M) 0 ∧ WF b S' ∧ (∀ k, 517 ≤ k → S' k = mS B M k) ∧ ls = [some (.ref (B + 492))] ∧ st = [] ∧ M' = mK B (tN B M1 v a) S')], ⟨100, ?_⟩, ?_⟩
    · refine And.intro kd_492 (And.intro kd_492 (And.intro rfl (And.intro kd_492 ?_)))
      refine Exists.intro 151 (Exists.intro 151 (Exists.intro (mS B M) (Exists.intro 0 (Exists.intro (M1.1 (B + 492) 9) (Exists.intro (6 * t) ⟨rfl, by omega, by omega, rfl, hW, fun _ _ => rfl, rfl, rfl, ?_⟩)))))
      rw [tN_id]
      show fw_st (fw_row (fw_st M (B + 492) 7 0) (B + 495) (cpN 517 (mS B (fw_st M (B + 492) 7 0)) ((fw_st M (B + 492) 7 0).1 (B + 495)))) (B + 492) 8 0 = _
      rw [eM1, show mS B M = mS B (fw_st M1 (B + 492) 8 (nI 0)) from (hR1.1.symm.trans (st_o (by omega)).symm), mK_S]
      rfl
    · intro q hq m ls st M' hi
      cases List.mem_singleton.mp hq
      obtain ⟨r, S', a, v, b, rfl, ha, hr, hp, hW', hS', rfl, rfl, rfl⟩ := hi
      have hT := hT1 S' v a ha
      have f6 := hT.2.1
      have f8 := hT.2.2.2.1
      obtain ⟨r', rfl⟩ : ∃ r', m = r' + 1 := ⟨m - 1, by omega⟩
      rw [prN_s] at hp
      refine ⟨200, And.intro kd_492 (And.intro kd_492 (And.intro (fun h1 => ?_) (fun h1 => ?_)))⟩
      · have h1 : (mK B (tN B M1 v a) S').1 (B + 492) 6 ≤ (mK B (tN B M1 v a) S').1 (B + 492) 8 := h1
        rw [f6, f8, n_ge (by omega) (by omega)] at h1
        rw [if_neg (by omega)] at hp
        rw [← hp] at h
        have h : ∀ M', RM B M' (phZ (mS B M, n, H, tl, tx) S') → Fr B M M' → Q (some (.int (S' 3))) M' := h
        refine And.intro kd_492 (And.intro kd_493 (And.intro (vn_493 (i := 3) (by decide)) (And.intro kd_492 ?_)))
        show ct_X6_ends B [.ref (B + 492), .int (mS B (mK B (tN B M1 v a) S') 3)] (mK B (tN B M1 v a) S') Q QX
        rw [mS_K]
        refine ⟨rfl, (S', n, H, tl, tx), mS B M, hRM S' v a, fun k hk => ?_, fun M' a1 a2 a3 => h M' a1 (Fr_tr (hFr S' v a) a3)⟩
        rw [row_n (by omega), tN_o (by omega)]
        exact hk1 k hk
      · have h1 : ¬ (mK B (tN B M1 v a) S').1 (B + 492) 6 ≤ (mK B (tN B M1 v a) S').1 (B + 492) 8 := h1
        rw [f6, f8, n_ge (by omega) (by omega)] at h1
        rw [if_pos (by omega)] at hp
        have hK : mS B (mK B (tN B M1 v a) S') = S' := mS_K
        refine And.intro kd_492 (And.intro rfl (Exists.intro b (Exists.intro tl (Exists.intro a (Exists.intro ty (And.intro hT (And.intro (by rw [hK]; exact hW') (And.intro (fun g1 => ?_) (And.intro (fun g1 g2 v' => ?_) (fun g1 g2 v' => ?_))))))))))
        · rw [hK] at g1
          rw [if_pos g1] at hp
          refine And.intro (fun z => absurd rfl z) (fun _ => ?_)
          refine And.intro kd_492 (And.intro kd_492 (And.intro kd_493 (And.intro kd_495 (And.intro ln_493 (And.intro ln_495 (And.intro hne' (And.intro kd_492 ?_)))))))
          exact bad S' v a hS' hp.symm
        · rw [hK] at g1
          rw [if_neg g1, if_neg (by rw [g2]; decide)] at hp
          refine And.intro (fun z => absurd rfl z) (fun _ => ?_)
          refine And.intro kd_492 (And.intro kd_492 (And.intro kd_493 (And.intro kd_495 (And.intro ln_493 (And.intro ln_495 (And.intro hne' (And.intro kd_492 ?_)))))))
          have key := bad S' v' (item tl ty a).2 hS' hp.symm
          rw [← tN_tN (v := v) (p := a), ← tN_K] at key
          exact key
        · rw [hK] at g1
          rw [if_neg g1, if_pos g2] at hp
          have hpn : pn S' < 24 := by
            rcases Nat.lt_or_ge (pn S') 24 with z | z
            · exact z
            · exact absurd (by rw [hW'.2.2.1, show pn S' = 24 by have := hW'.2.2.2.1; omega]; rfl) g1
          have hgt := item_gt g2
          have hle := item_le (tx := ty) ha
          refine And.intro (fun _ => ?_) (fun z => absurd (show (1 : Int32) = 0 from z) (by decide))
          refine Exists.intro r' (And.intro (by omega) (Exists.intro r' (Exists.intro (comI S' tl ty a) (Exists.intro (item tl ty a).2 (Exists.intro v' (Exists.intro b ⟨rfl, hle, by omega, hp, WF_comI hW' hpn g2, fun k hk => by rw [show comI S' tl ty a k = S' k from com_hi hpn hk]; exact hS' k hk, rfl, rfl, ?_⟩))))))
          rw [hK, tN_K, mK_K, tN_tN]
  · exact h.elim
set_option maxRecDepth 100000 in
theorem wk_X6_digest (B : Nat) : fw_Wk B fl_X6 (cal_X6_digest B) [] cst_X6 (some .long) kX6_digest 3 (ct_X6_digest B) := by
  intro as M Q QX h
  unfold ct_X6_digest at h
  split at h
  · obtain ⟨rfl, ⟨S, n, H, tl, tx⟩, hR, hG, h⟩ := h
    have eS : mS B M = S := hR.1
    subst eS
    obtain ⟨t, ht, hW⟩ := GS_wf hG.1
    have hW : WF (6 * t) (mS B M) := hW
    have hn : mS B M 2 = nI (cn (mS B M)) := hW.1
    have hn6 : cn (mS B M) ≤ 6 := hW.2.1
    have hm : mS B M 3 = nI (pn (mS B M)) := hW.2.2.1
    have hm24 : pn (mS B M) ≤ 24 := hW.2.2.2.1
    have h4 : M.1 (B + 492) 4 = nI n := hR.2.1
    have h6 : M.1 (B + 492) 6 = nI tl := hR.2.2.2.2.1
    have h := fun x => h (fw_stl (fw_st M (B + 492) 7 0) 0 x) (RM_h (RM_st hR ⟨by decide, by decide⟩)) (Fr_tr Fr_st Fr_h)
    have g4 : (fw_st M (B + 492) 7 0).1 (B + 492) 4 = nI n := by rw [st_n (by decide)]; exact h4
    have g6 : (fw_st M (B + 492) 7 0).1 (B + 492) 6 = nI tl := by rw [st_n (by decide)]; exact h6
    have gS : mS B (fw_st M (B + 492) 7 0) = mS B M := st_o (by omega)
    generalize hM1 : fw_st M (B + 492) 7 0 = M1 at h g4 g6 gS
    generalize hS : mS B M = S at hn hn6 hm hm24 h gS
    have gS : ∀ x, mS B (fw_stl M1 0 x) = S := fun _ => gS
    have hh : Q (some (.long (dgst (S, n, H, tl, tx)))) (fw_stl M1 0 (dgst (S, n, H, tl, tx))) := h _
    generalize hN : cn S = N at hn hn6
    generalize hP : pn S = P at hm hm24
    refine ⟨rfl, [
      (22, [true, true, false], fun m ls st M' => ∃ i, m = 1000000 + (11 - i) ∧ i ≤ 11 ∧ ls = [some (.ref (B + 492)), some (.int (nI i)), none] ∧ st = [] ∧ M' = fw_stl M1 0 (mixN (mixh 3313 (nI tl)) (valS S) i)),
      (45, [true, true, false], fun m ls st M' => ∃ c, m = 500000 + 100 * (N - c) + 50 ∧ c ≤ N ∧ ls = [some (.ref (B + 492)), some (.int (nI c)), none] ∧ st = [] ∧ M' = fw_stl M1 0 (dgC S (dg1 (S, n, H, tl, tx)) c)),
      (57, [true, true, true], fun m ls st M' => ∃ c w, m = 500000 + 100 * (N - c) + (6 - w) ∧ c < N ∧ w ≤ 6 ∧ ls = [some (.ref (B + 492)), some (.int (nI c)), some (.int (nI w))] ∧ st = [] ∧ M' = fw_stl M1 0 (mixN (dgC S (dg1 (S, n, H, tl, tx)) c) (fun w => crS S c w) w)),
      (87, [true, true, false], fun m ls st M' => ∃ p, m = 1000 * (P - p) + 500 ∧ p ≤ P ∧ ls = [some (.ref (B + 492)), some (.int (nI p)), none] ∧ st = [] ∧ M' = fw_stl M1 0 (dgP S (dgC S (dg1 (S, n, H, tl, tx)) N) p)),
      (99, [true, true, true], fun m ls st M' => ∃ p w, m = 1000 * (P - p) + 300 + (9 - w) ∧ p < P ∧ w ≤ 9 ∧ ls = [some (.ref (B + 492)), some (.int (nI p)), some (.int (nI w))] ∧ st = [] ∧ M' = fw_stl M1 0 (mixN (dgP S (dgC S (dg1 (S, n, H, tl, tx)) N) p) (fun w => paS S p w) w)),
      (123, [true, true, true], fun m ls st M' => ∃ p c, m = 1000 * (P - p) + 100 + (N - c) ∧ p < P ∧ c ≤ N ∧ ls = [some (.ref (B + 492)), some (.int (nI p)), some (.int (nI c))] ∧ st = [] ∧ M' = fw_stl M1 0 (dgL S p (mixN (dgP S (dgC S (dg1 (S, n, H, tl, tx)) N) p) (fun w => paS S p w) 9) c))], ⟨100, ?_⟩, ?_⟩
    · refine And.intro kd_492 (And.intro kd_492 (And.intro kd_492 (And.intro kd_492 (And.intro rfl ?_))))
      refine Exists.intro (1000000 + (11 - 0)) (Exists.intro 0 ⟨rfl, by omega, rfl, rfl, ?_⟩)
      show fw_stl (fw_stl (fw_st M (B + 492) 7 0) 0 3313) 0 (mixh ((fw_stl (fw_st M (B + 492) 7 0) 0 3313).2.1 0) ((fw_stl (fw_st M (B + 492) 7 0) 0 3313).1 (B + 492) 6)) = _
      rw [hM1, stl_stl, stl_s, show (fw_stl M1 0 3313).1 (B + 492) 6 = nI tl from g6]
      rfl
    · intro q hq m ls st M' hi
      simp only [List.mem_cons, List.not_mem_nil, or_false] at hq
      rcases hq with rfl | rfl | rfl | rfl | rfl | rfl
      · obtain ⟨i, rfl, hi, rfl, rfl, rfl⟩ := hi
        refine ⟨60, And.intro (fun h1 => ?_) (fun h1 => ?_)⟩
        · have h1 : nI 11 ≤ nI i := h1
          rw [n_ge (by decide) (by omega)] at h1
          have ei : i = 11 := by omega
          subst ei
          exact Exists.intro (500000 + 100 * (N - 0) + 50) (And.intro (by omega) (Exists.intro 0 ⟨rfl, by omega, rfl, rfl, rfl⟩))
        · have h1 : ¬ nI 11 ≤ nI i := h1
          rw [n_ge (by decide) (by omega)] at h1
          refine And.intro kd_492 (And.intro rfl (And.intro (by rw [gS, hP]; exact hm) (And.intro (by rw [gS, hP]; exact hm24) (Exists.intro i (And.intro (by omega) (And.intro rfl (And.intro kd_492 (And.intro rfl ?_))))))))
          refine Exists.intro (1000000 + (11 - (i + 1))) (And.intro (by omega) (Exists.intro (i + 1) ⟨rfl, by omega, ?_, rfl, ?_⟩))
          · show [some (Value.ref (B + 492)), some (Value.int (nI i + 1)), none] = _
            rw [nI_1]
          · show fw_stl (fw_stl M1 0 _) 0 (mixh ((fw_stl M1 0 _).2.1 0) (valS (mS B (fw_stl M1 0 _)) i)) = _
            rw [stl_stl, stl_s, gS]
            rfl
      · obtain ⟨c, rfl, hc, rfl, rfl, rfl⟩ := hi
        refine ⟨60, And.intro kd_492 (And.intro kd_493 (And.intro (vn_493 (i := 2) (by decide)) (And.intro (fun h1 => ?_) (fun h1 => ?_))))⟩
        · have h1 : mS B (fw_stl M1 0 (dgC S (dg1 (S, n, H, tl, tx)) c)) 2 ≤ nI c := h1
          rw [gS, hn, n_ge (by omega) (by omega)] at h1
          have ec : c = N := by omega
          subst ec
          exact Exists.intro (1000 * (P - 0) + 500) (And.intro (by omega) (Exists.intro 0 ⟨rfl, by omega, rfl, rfl, rfl⟩))
        · have h1 : ¬ mS B (fw_stl M1 0 (dgC S (dg1 (S, n, H, tl, tx)) c)) 2 ≤ nI c := h1
          rw [gS, hn, n_ge (by omega) (by omega)] at h1
          exact Exists.intro (500000 + 100 * (N - c) + (6 - 0)) (And.intro (by omega) (Exists.intro c (Exists.intro 0 ⟨rfl, by omega, by omega, rfl, rfl, rfl⟩)))
      · obtain ⟨c, w, rfl, hc, hw, rfl, rfl, rfl⟩ := hi
        refine ⟨60, And.intro (fun h1 => ?_) (fun h1 => ?_)⟩
        · have h1 : nI 6 ≤ nI w := h1
          rw [n_ge (by decide) (by omega)] at h1
          have ew : w = 6 := by omega
          subst ew
          refine Exists.intro (500000 + 100 * (N - (c + 1)) + 50) (And.intro (by omega) (Exists.intro (c + 1) ⟨rfl, by omega, ?_, rfl, rfl⟩))
          show [some (Value.ref (B + 492)), some (Value.int (nI c + 1)), none] = _
          rw [nI_1]
        · have h1 : ¬ nI 6 ≤ nI w := h1
          rw [n_ge (by decide) (by omega)] at h1
          refine And.intro kd_492 (And.intro rfl (And.intro (by rw [gS, hP]; exact hm) (And.intro (by rw [gS, hP]; exact hm24) (Exists.intro c (Exists.intro w (And.intro (by omega) (And.intro (by omega) (And.intro rfl (And.intro rfl (And.intro kd_492 (And.intro rfl ?_)))))))))))
          refine Exists.intro (500000 + 100 * (N - c) + (6 - (w + 1))) (And.intro (by omega) (Exists.intro c (Exists.intro (w + 1) ⟨rfl, hc, by omega, ?_, rfl, ?_⟩)))
          · show [some (Value.ref (B + 492)), some (Value.int (nI c)), some (Value.int (nI w + 1))] = _
            rw [nI_1]
          · show fw_stl (fw_stl M1 0 _) 0 (mixh ((fw_stl M1 0 _).2.1 0) (crS (mS B (fw_stl M1 0 _)) c w)) = _
            rw [stl_stl, stl_s, gS]
            rfl
      · obtain ⟨p, rfl, hp, rfl, rfl, rfl⟩ := hi
        refine ⟨60, And.intro kd_492 (And.intro kd_493 (And.intro (vn_493 (i := 3) (by decide)) (And.intro (fun h1 => ?_) (fun h1 => ?_))))⟩
        · have h1 : mS B (fw_stl M1 0 (dgP S (dgC S (dg1 (S, n, H, tl, tx)) N) p)) 3 ≤ nI p := h1
          rw [gS, hm, n_ge (by omega) (by omega)] at h1
          have ep : p = P := by omega
          subst ep
          refine And.intro kd_492 (And.intro kd_492 (And.intro rfl (And.intro kd_492 ?_)))
          unfold dgst at hh
          rw [hN, hP] at hh
          have g4' : (fw_stl M1 0 (dgP S (dgC S (dg1 (S, n, H, tl, tx)) N) p)).1 (B + 492) 4 = nI n := g4
          show Q (some (.long ((fw_stl (fw_stl M1 0 (dgP S (dgC S (dg1 (S, n, H, tl, tx)) N) p)) 0 (mixh ((fw_stl M1 0 (dgP S (dgC S (dg1 (S, n, H, tl, tx)) N) p)).2.1 0) ((fw_stl M1 0 (dgP S (dgC S (dg1 (S, n, H, tl, tx)) N) p)).1 (B + 492) 4))).2.1 0))) (fw_stl (fw_stl M1 0 (dgP S (dgC S (dg1 (S, n, H, tl, tx)) N) p)) 0 (mixh ((fw_stl M1 0 (dgP S (dgC S (dg1 (S, n, H, tl, tx)) N) p)).2.1 0) ((fw_stl M1 0 (dgP S (dgC S (dg1 (S, n, H, tl, tx)) N) p)).1 (B + 492) 4)))
          rw [g4', stl_s, stl_s, stl_stl]
          exact hh
        · have h1 : ¬ mS B (fw_stl M1 0 (dgP S (dgC S (dg1 (S, n, H, tl, tx)) N) p)) 3 ≤ nI p := h1
          rw [gS, hm, n_ge (by omega) (by omega)] at h1
          exact Exists.intro (1000 * (P - p) + 300 + (9 - 0)) (And.intro (by omega) (Exists.intro p (Exists.intro 0 ⟨rfl, by omega, by omega, rfl, rfl, rfl⟩)))
      · obtain ⟨p, w, rfl, hp, hw, rfl, rfl, rfl⟩ := hi
        refine ⟨60, And.intro (fun h1 => ?_) (fun h1 => ?_)⟩
        · have h1 : nI 9 ≤ nI w := h1
          rw [n_ge (by decide) (by omega)] at h1
          have ew : w = 9 := by omega
          subst ew
          exact Exists.intro (1000 * (P - p) + 100 + (N - 0)) (And.intro (by omega) (Exists.intro p (Exists.intro 0 ⟨rfl, hp, by omega, rfl, rfl, rfl⟩)))
        · have h1 : ¬ nI 9 ≤ nI w := h1
          rw [n_ge (by decide) (by omega)] at h1
          refine And.intro kd_492 (And.intro rfl (Exists.intro p (Exists.intro w (And.intro (by omega) (And.intro (by omega) (And.intro rfl (And.intro rfl (And.intro kd_492 (And.intro rfl ?_)))))))))
          refine Exists.intro (1000 * (P - p) + 300 + (9 - (w + 1))) (And.intro (by omega) (Exists.intro p (Exists.intro (w + 1) ⟨rfl, hp, by omega, ?_, rfl, ?_⟩)))
          · show [some (Value.ref (B + 492)), some (Value.int (nI p)), some (Value.int (nI w + 1))] = _
            rw [nI_1]
          · show fw_stl (fw_stl M1 0 _) 0 (mixh ((fw_stl M1 0 _).2.1 0) (paS (mS B (fw_stl M1 0 _)) p w)) = _
            rw [stl_stl, stl_s, gS]
            rfl
      · obtain ⟨p, c, rfl, hp, hc, rfl, rfl, rfl⟩ := hi
        refine ⟨100, And.intro kd_492 (And.intro kd_493 (And.intro (vn_493 (i := 2) (by decide)) (And.intro (fun h1 => ?_) (fun h1 => ?_))))⟩
        · have h1 : mS B (fw_stl M1 0 (dgL S p (mixN (dgP S (dgC S (dg1 (S, n, H, tl, tx)) N) p) (fun w => paS S p w) 9) c)) 2 ≤ nI c := h1
          rw [gS, hn, n_ge (by omega) (by omega)] at h1
          have ec : c = N := by omega
          subst ec
          refine Exists.intro (1000 * (P - (p + 1)) + 500) (And.intro (by omega) (Exists.intro (p + 1) ⟨rfl, by omega, ?_, rfl, ?_⟩))
          · show [some (Value.ref (B + 492)), some (Value.int (nI p + 1)), none] = _
            rw [nI_1]
          · show _ = fw_stl M1 0 (dgL S p (mixN (dgP S (dgC S (dg1 (S, n, H, tl, tx)) c) p) (fun w => paS S p w) 9) (cn S))
            rw [hN]
        · have h1 : ¬ mS B (fw_stl M1 0 (dgL S p (mixN (dgP S (dgC S (dg1 (S, n, H, tl, tx)) N) p) (fun w => paS S p w) 9) c)) 2 ≤ nI c := h1
          rw [gS, hn, n_ge (by omega) (by omega)] at h1
          refine And.intro kd_492 (And.intro rfl (And.intro (vPL (by omega) (by omega)) (And.intro kd_492 (And.intro rfl (And.intro kd_492 (And.intro rfl (And.intro (vPS (by omega) (by omega)) (And.intro kd_492 (And.intro rfl ?_)))))))))
          refine Exists.intro (1000 * (P - p) + 100 + (N - (c + 1))) (And.intro (by omega) (Exists.intro p (Exists.intro (c + 1) ⟨rfl, hp, by omega, ?_, rfl, ?_⟩)))
          · show [some (Value.ref (B + 492)), some (Value.int (nI p)), some (Value.int (nI c + 1))] = _
            rw [nI_1]
          · show fw_stl (fw_stl (fw_stl M1 0 _) 0 (mixh ((fw_stl M1 0 _).2.1 0) (mS B (fw_stl M1 0 _) ((37 : Int32) + 20 * nI p + (8 + nI c)).toNatClampNeg))) 0 (mixh ((fw_stl (fw_stl M1 0 _) 0 _).2.1 0) (mS B (fw_stl (fw_stl M1 0 _) 0 _) ((37 : Int32) + 20 * nI p + (14 + nI c)).toNatClampNeg)) = _
            simp only [stl_stl, stl_s, gS]
            show fw_stl M1 0 (mixh (mixh _ (S ((37 : Int32) + 20 * nI p + (8 + nI c)).toNatClampNeg)) (S ((37 : Int32) + 20 * nI p + (14 + nI c)).toNatClampNeg)) = _
            rw [pxL, pxS, n_cl (by omega), n_cl (by omega)]
            rfl
  · exact h.elim
end WR5

/-! THE TEXT OF PARCELS WALKED -/
section WT
set_option maxRecDepth 100000 in
theorem wk_X4_isDigit (B : Nat) : fw_Wk B fl_X4 (cal_X4_isDigit B) [] cst_X4 (some .boolean) kX4_isDigit 1 (ct_X4_isDigit B) := by
  intro as M Q QX h
  unfold ct_X4_isDigit at h
  split at h
  · refine ⟨rfl, [], ⟨40, And.intro (fun h1 => ?_) (fun h1 => And.intro (fun h2 => ?_) (fun h2 => ?_))⟩, nofun⟩
    · rw [ok_lt h1] at h; exact And.intro (Or.inl rfl) h
    · rw [ok_gt h2] at h; exact And.intro (Or.inl rfl) h
    · rw [ok_in h1 h2] at h; exact And.intro (Or.inr rfl) h
  · exact h.elim
set_option maxRecDepth 100000 in
theorem wk_X4_mostDigits (B : Nat) : fw_Wk B fl_X4 (cal_X4_mostDigits B) [] cst_X4 (some .int) kX4_mostDigits 1 (ct_X4_mostDigits B) := by
  intro as M Q QX h
  unfold ct_X4_mostDigits at h
  split at h
  · obtain ⟨j, hj, rfl, h⟩ := h
    have e : (nI j).toInt = (j : Int) := nI_toInt (by omega)
    refine ⟨rfl, [], ⟨40, And.intro (fun z => ?_) (fun z => And.intro (fun z2 => ?_) (fun z2 => ?_))⟩, nofun⟩
    · rw [show j = 2 by rw [e] at z; omega] at h; exact h
    · rw [show j = 3 by rw [e] at z2; omega] at h; exact h
    · rw [e] at z z2
      rw [show mdN j = 2 by unfold mdN; rw [if_neg (by omega), if_neg (by omega)]] at h; exact h
  · exact h.elim
set_option maxRecDepth 100000 in
theorem wk_X4_endOf (B : Nat) : fw_Wk B fl_X4 (cal_X4_endOf B) [] cst_X4 (some .int) kX4_endOf 1 (ct_X4_endOf B) := by
  intro as M Q QX h
  unfold ct_X4_endOf at h
  split at h
  · obtain ⟨j, hj, rfl, h⟩ := h
    refine ⟨rfl, [], ⟨40, And.intro (fun z => ?_) (fun z => ?_)⟩, nofun⟩
    · have z : ¬ nI j = nI 3 := z
      rw [show sgN j = 44 by unfold sgN; rw [if_neg (fun e => z (by rw [e]))]] at h; exact h
    · have z : nI j = nI 3 := z
      rw [nI_eq (by omega) (by decide)] at z
      subst z
      exact h
  · exact h.elim
theorem ix4 {k j : Nat} : nI k * 4 + nI j = nI (4 * k + j) := by
  show nI k * nI 4 + nI j = _
  rw [n_mul, n_add, Nat.mul_comm]
set_option maxRecDepth 100000 in
theorem wk_X4_numberOf (B : Nat) : fw_Wk B fl_X4 (cal_X4_numberOf B) [] cst_X4 (some .int) kX4_numberOf 3 (ct_X4_numberOf B) := by
  intro as M Q QX h
  unfold ct_X4_numberOf at h
  split at h
  · obtain ⟨rfl, k, j, hk, hj, rfl, rfl, h⟩ := h
    refine ⟨rfl, [], ⟨40, And.intro k489 (And.intro k491 (Exists.intro (4 * k + j) (And.intro ?_ (And.intro (by omega) (And.intro ix4 h)))))⟩, nofun⟩
    rw [show fw_len B (B + 489 + 2) = 96 from l491]; omega
  · exact h.elim
set_option maxRecDepth 100000 in
theorem wk_X4_keep (B : Nat) : fw_Wk B fl_X4 (cal_X4_keep B) [] cst_X4 none kX4_keep 4 (ct_X4_keep B) := by
  intro as M Q QX h
  unfold ct_X4_keep at h
  split at h
  · rename_i f v
    obtain ⟨rfl, k, j, hk, hj, e3, rfl, h⟩ := h
    have k4 := k489 (B := B)
    have k7 := kd_7 (k491 (B := B))
    have e : M.1 (B + 489) 3 * 4 + nI j = nI (4 * k + j) := by rw [e3]; exact ix4
    refine ⟨rfl, [], ⟨60, And.intro k4 (And.intro (fun h1 => ?_) (fun h1 => And.intro k4 (And.intro k7.1 (And.intro k7.2 (And.intro (fun h2 => ?_) (fun h2 => ?_))))))⟩, nofun⟩
    · have h1 : M.1 (B + 489) 3 * 4 + nI j < nI 0 := h1
      rw [e, n_lt (by omega) (by decide)] at h1
      omega
    · have h2 : Int32.ofNat (fw_aln B (B + 491)) ≤ M.1 (B + 489) 3 * 4 + nI j := h2
      rw [aln7 k491 l491, e, n_ge (by decide) (by omega)] at h2
      omega
    · refine And.intro k4 (And.intro k491 (And.intro ?_ ?_))
      · show fw_sd (vp_in (M.1 (B + 489) 3 * 4 + nI j) (fw_len B (B + 491)))
        rw [e, l491]; exact vn_i (by omega) (by decide)
      · show Q none (fw_st M (B + 491) (M.1 (B + 489) 3 * 4 + nI j).toNatClampNeg v)
        rw [e, n_cl (by omega)]; exact h
  · exact h.elim
set_option maxRecDepth 100000 in
theorem wk_X4_fits (B : Nat) : fw_Wk B fl_X4 (cal_X4_fits B) [] cst_X4 (some .boolean) kX4_fits 3 (ct_X4_fits B) := by
  intro as M Q QX h
  unfold ct_X4_fits at h
  split at h
  · rename_i f v
    obtain ⟨rfl, k, j, hk, hj, e3, rfl, h⟩ := h
    have k4 := k489 (B := B)
    have e : (nI j).toInt = (j : Int) := nI_toInt (by omega)
    have en : ∀ i, i ≠ 1 → ftN i v (M.1 (B + 491) (4 * k)) = okN v (loF i) (hiF i) := fun i hi => by
      unfold ftN; simp [hi]
    refine ⟨rfl, [], ⟨60, And.intro (And.intro (fun z => ?_) (And.intro (fun z => ?_) (And.intro (fun z => ?_) trivial))) (fun z => ?_)⟩, nofun⟩
    · have ej : j = 0 := by rw [e] at z; omega
      subst ej
      rw [en 0 (by decide)] at h
      exact And.intro bi_01 h
    · have ej : j = 1 := by rw [e] at z; omega
      subst ej
      refine And.intro (fun h1 => ?_) (fun h1 => And.intro k4 (And.intro k4 (And.intro rfl (Exists.intro k (Exists.intro 0 (And.intro hk (And.intro (by decide) (And.intro e3 (And.intro rfl (And.intro (fun h2 => ?_) (fun h2 => ?_)))))))))))
      · have h1 : okN v 0 15 = false := bi_0.mp h1
        rw [show ftN 1 v (M.1 (B + 491) (4 * k)) = false by unfold ftN; rw [show okN v (loF 1) (hiF 1) = okN v 0 15 from rfl, h1, Bool.false_and]] at h
        exact And.intro (Or.inl rfl) h
      · have h2 : v = M.1 (B + 491) (4 * k + 0) := h2
        rw [show ftN 1 v (M.1 (B + 491) (4 * k)) = false by unfold ftN; rw [decide_eq_false (fun z => z ⟨rfl, h2⟩), Bool.and_false]] at h
        exact And.intro (Or.inl rfl) h
      · have h1 : okN v 0 15 = true := bi_n0.mp h1
        have h2 : ¬ v = M.1 (B + 491) (4 * k) := h2
        rw [show ftN 1 v (M.1 (B + 491) (4 * k)) = true by unfold ftN; rw [show okN v (loF 1) (hiF 1) = okN v 0 15 from rfl, h1]; simp [h2]] at h
        exact And.intro (Or.inr rfl) h
    · have ej : j = 2 := by rw [e] at z; omega
      subst ej
      rw [en 2 (by decide)] at h
      exact And.intro bi_01 h
    · have z : (nI j).toInt < 0 ∨ 2 < (nI j).toInt := z
      have ej : j = 3 := by rw [e] at z; omega
      subst ej
      rw [en 3 (by decide)] at h
      exact And.intro bi_01 h
  · exact h.elim
set_option maxRecDepth 100000 in
theorem wk_X4_add (B : Nat) : fw_Wk B fl_X4 (cal_X4_add B) [] cst_X4 none kX4_add 2 (ct_X4_add B) := by
  intro as M Q QX h
  unfold ct_X4_add at h
  split at h
  · rename_i v
    obtain ⟨rfl, n, hn, e2, h⟩ := h
    have k4 := k489 (B := B)
    have k7 := kd_7 (k490 (B := B))
    refine ⟨rfl, [], ⟨60, And.intro k4 (And.intro (fun h1 => ?_) (fun h1 => And.intro k4 (And.intro k4 (And.intro k7.1 (And.intro k7.2 (And.intro (fun h2 => ?_) (fun h2 => ?_)))))))⟩, nofun⟩
    · have h1 : M.1 (B + 489) 2 < nI 0 := h1
      rw [e2, n_lt (by omega) (by decide)] at h1
      omega
    · have h2 : Int32.ofNat (fw_aln B (B + 490)) ≤ M.1 (B + 489) 2 := h2
      rw [aln7 k490 l490, e2, n_ge (by decide) (by omega)] at h2
      omega
    · refine And.intro k4 (And.intro k4 (And.intro k490 (And.intro ?_ (And.intro k4 (And.intro k4 ?_)))))
      · show fw_sd (vp_in (M.1 (B + 489) 2) (fw_len B (B + 490)))
        rw [e2, l490]; exact vn_i (by omega) (by decide)
      · show Q none (fw_st (fw_st M (B + 490) (M.1 (B + 489) 2).toNatClampNeg v) (B + 489) 2 ((fw_st M (B + 490) (M.1 (B + 489) 2).toNatClampNeg v).1 (B + 489) 2 + 1))
        rw [st_o (by omega), e2, n_cl (by omega), nI_1]; exact h
  · exact h.elim
set_option maxRecDepth 100000 in
theorem wk_X4_readNumber (B : Nat) : fw_Wk B fl_X4 (cal_X4_readNumber B) [] cst_X4 (some .int) kX4_readNumber 4 (ct_X4_readNumber B) := by
  intro as M Q QX h
  unfold ct_X4_readNumber at h
  split at h
  · obtain ⟨rfl, tl, tx, k, j, p, hT, hk, hj, hp, e3, rfl, e4, hy, hn⟩ := h
    have k4 := k489 (B := B)
    have htl := hT.2.1
    have hmd := md_2 j
    refine ⟨rfl, [
      (7, [true, true, true, true], fun n ls st M' => ∃ d, n = 200 - d ∧ d ≤ mdN j ∧ p + d ≤ tl ∧ dgN tl tx p (mdN j) = d + dgN tl tx (p + d) (mdN j - d) ∧ ls = [some (.ref (B + 489)), some (.int (nI j)), some (.int (nI p)), some (.int (nbN tx p d))] ∧ st = [] ∧ M' = fw_st M (B + 489) 4 (nI (p + d))),
      (86, [true, true, true, true], fun n ls st M' => ∃ d, n = 0 ∧ p + d ≤ tl ∧ dgN tl tx p (mdN j) = d ∧ ¬ (p + d < tl ∧ okN (tx (p + d)) 48 57 = true) ∧ ls = [some (.ref (B + 489)), some (.int (nI j)), some (.int (nI p)), some (.int (nbN tx p d))] ∧ st = [] ∧ M' = fw_st M (B + 489) 4 (nI (p + d)))], ⟨100, ?_⟩, ?_⟩
    · refine And.intro k4 (Exists.intro 200 (Exists.intro 0 ⟨rfl, by omega, by omega, by rw [Nat.zero_add]; rfl, ?_, rfl, (st_self e4).symm⟩))
      show [some (Value.ref (B + 489)), some (Value.int (nI j)), some (Value.int (M.1 (B + 489) 4)), some (Value.int 0)] = _
      rw [e4]; rfl
    · intro q hq n ls st M' hi
      simp only [List.mem_cons, List.not_mem_nil, or_false] at hq
      rcases hq with rfl | rfl
      · obtain ⟨d, rfl, hd, hpd, hdg, rfl, rfl, hM⟩ := hi
        have g4 : M'.1 (B + 489) 4 = nI (p + d) := by rw [hM]; exact st_s
        have g2 : M'.1 (B + 489) 2 = nI tl := by rw [hM, st_n (by decide)]; exact hT.1
        have gx : ∀ i, i < tl → M'.1 (B + 490) i = tx i := fun i hi => by rw [hM, st_o (by omega)]; exact hT.2.2 i hi
        have out : ¬ (p + d < tl ∧ okN (tx (p + d)) 48 57 = true) → ∃ n', n' < 200 - d ∧ ∃ d', n' = 0 ∧ p + d' ≤ tl ∧ dgN tl tx p (mdN j) = d' ∧ ¬ (p + d' < tl ∧ okN (tx (p + d')) 48 57 = true) ∧ [some (Value.ref (B + 489)), some (.int (nI j)), some (.int (nI p)), some (.int (nbN tx p d))] = [some (.ref (B + 489)), some (.int (nI j)), some (.int (nI p)), some (.int (nbN tx p d'))] ∧ ([] : List Value) = [] ∧ M' = fw_st M (B + 489) 4 (nI (p + d')) := fun z =>
          ⟨0, by omega, d, rfl, hpd, by rw [hdg, dg_n _ z]; rfl, z, rfl, rfl, hM⟩
        refine ⟨100, And.intro k4 (And.intro k4 (And.intro (fun h1 => ?_) (fun h1 => ?_)))⟩
        · have h1 : M'.1 (B + 489) 2 ≤ M'.1 (B + 489) 4 := h1
          rw [g4, g2, n_ge (by omega) (by omega)] at h1
          exact out (fun z => by omega)
        · have h1 : ¬ M'.1 (B + 489) 2 ≤ M'.1 (B + 489) 4 := h1
          rw [g4, g2, n_ge (by omega) (by omega)] at h1
          have hl : p + d < fw_len B (B + 490) := by rw [l490]; omega
          refine And.intro k4 (And.intro k4 (And.intro k490 (Exists.intro (p + d) (And.intro hl (And.intro (by omega) (And.intro g4 (And.intro (fun h2 => ?_) (fun h2 => ?_))))))))
          · have h2 : bi (okN (M'.1 (B + 490) (p + d)) 48 57) = 0 := h2
            rw [gx _ (by omega)] at h2
            exact out (fun z => by rw [bi_0.mp h2] at z; exact absurd z.2 (by decide))
          · have h2 : ¬ bi (okN (M'.1 (B + 490) (p + d)) 48 57) = 0 := h2
            rw [gx _ (by omega)] at h2
            have h2 := bi_n0.mp h2
            have es : M'.1 (B + 489) 4 - nI p = nI d := by rw [g4, pk_sub (by omega), Nat.add_sub_cancel_left]
            refine And.intro k4 (Exists.intro j (And.intro hj (And.intro rfl (And.intro (fun h3 => ?_) (fun h3 => ?_)))))
            · have h3 : M'.1 (B + 489) 4 - nI p < nI (mdN j) := h3
              rw [es, n_lt (by omega) (by omega)] at h3
              refine And.intro k4 (And.intro k4 (And.intro k490 (Exists.intro (p + d) (And.intro hl (And.intro (by omega) (And.intro g4 (And.intro k4 (And.intro k4 ?_))))))))
              refine Exists.intro (200 - (d + 1)) (And.intro (by omega) (Exists.intro (d + 1) ⟨rfl, by omega, by omega, ?_, ?_, rfl, ?_⟩))
              · rw [hdg, show mdN j - d = (mdN j - (d + 1)) + 1 by omega, dg_s ⟨by omega, h2⟩, Nat.add_assoc p d 1]; omega
              · show [some (Value.ref (B + 489)), some (Value.int (nI j)), some (Value.int (nI p)), some (Value.int (nbN tx p d * 10 + M'.1 (B + 490) (p + d) - 48))] = _
                rw [gx _ (by omega), Int32.mul_comm]; rfl
              · show fw_st M' (B + 489) 4 (M'.1 (B + 489) 4 + 1) = _
                rw [g4, hM, st_st, nI_1]; rfl
            · have h3 : ¬ M'.1 (B + 489) 4 - nI p < nI (mdN j) := h3
              rw [es, n_lt (by omega) (by omega)] at h3
              have ed : d = mdN j := by omega
              have hdd : dgN tl tx p (mdN j) = d := by rw [hdg, ed, Nat.sub_self]; rfl
              have en : nmF tl tx p j (M.1 (B + 491) (4 * k)) = (false, p + d) := by
                unfold nmF
                rw [nq_d (by omega) (by rw [hdd]; exact ⟨by omega, h2⟩), hdd]
              rw [en] at hn
              refine And.intro k4 ?_
              show Q (some (.int (M'.1 (B + 489) 4))) M'
              rw [g4, hM]
              exact hn rfl _
      · obtain ⟨d, rfl, hpd, hdg, hz, rfl, rfl, hM⟩ := hi
        have g4 : M'.1 (B + 489) 4 = nI (p + d) := by rw [hM]; exact st_s
        have g3 : M'.1 (B + 489) 3 = nI k := by rw [hM, st_n (by decide)]; exact e3
        have g2 : M'.1 (B + 489) 2 = nI tl := by rw [hM, st_n (by decide)]; exact hT.1
        have gn : ∀ i, M'.1 (B + 491) i = M.1 (B + 491) i := fun i => by rw [hM, st_o (by omega)]
        have gx : ∀ i, i < tl → M'.1 (B + 490) i = tx i := fun i hi => by rw [hM, st_o (by omega)]; exact hT.2.2 i hi
        have hz' : ¬ (p + dgN tl tx p (mdN j) < tl ∧ okN (tx (p + dgN tl tx p (mdN j))) 48 57 = true) := by rw [hdg]; exact hz
        have fin : ∀ r, nmF tl tx p j (M.1 (B + 491) (4 * k)) = (false, r) → Q (some (.int (nI r))) M' := fun r en => by
          rw [en] at hn
          rw [hM]
          exact hn rfl _
        refine ⟨100, And.intro k4 (And.intro (fun h1 => ?_) (fun h1 => ?_))⟩
        · have h1 : ¬ M'.1 (B + 489) 4 = nI p := h1
          have hd0 : ¬ dgN tl tx p (mdN j) = 0 := fun z => h1 (by rw [g4, ← hdg, z]; rfl)
          refine And.intro k4 (And.intro rfl (Exists.intro k (Exists.intro j (And.intro hk (And.intro hj (And.intro g3 (And.intro rfl (And.intro (fun h2 => ?_) (fun h2 => ?_)))))))))
          · have h2 : ¬ bi (ftN j (nbN tx p d) (M'.1 (B + 491) (4 * k))) = 0 := h2
            rw [gn] at h2
            have h2 := ft_yes (bi_n0.mp h2)
            rw [← hdg] at h2
            refine And.intro k4 (And.intro k4 (And.intro (fun h3 => ?_) (fun h3 => ?_)))
            · have h3 : M'.1 (B + 489) 2 ≤ M'.1 (B + 489) 4 := h3
              rw [g4, g2, n_ge (by omega) (by omega)] at h3
              refine And.intro k4 ?_
              show Q (some (.int (M'.1 (B + 489) 4))) M'
              rw [g4]
              exact fin _ (by unfold nmF; rw [nq_n hd0 hz' h2 (by rw [hdg]; omega), hdg])
            · have h3 : ¬ M'.1 (B + 489) 2 ≤ M'.1 (B + 489) 4 := h3
              rw [g4, g2, n_ge (by omega) (by omega)] at h3
              have hl : p + d < fw_len B (B + 490) := by rw [l490]; omega
              refine And.intro k4 (And.intro k4 (And.intro k490 (Exists.intro (p + d) (And.intro hl (And.intro (by omega) (And.intro g4 (Exists.intro j (And.intro hj (And.intro rfl (And.intro (fun h4 => ?_) (fun h4 => ?_)))))))))))
              · have h4 : M'.1 (B + 490) (p + d) = sgN j := h4
                rw [gx _ (by omega)] at h4
                refine And.intro k4 (And.intro k4 (And.intro k4 (And.intro rfl (Exists.intro k (Exists.intro j (And.intro hk (And.intro hj (And.intro ?_ (And.intro rfl ?_)))))))))
                · show (fw_st M' (B + 489) 4 (M'.1 (B + 489) 4 + 1)).1 (B + 489) 3 = _
                  rw [st_n (by decide)]; exact g3
                · show Q (some (.int (-1))) (fw_st (fw_st M' (B + 489) 4 (M'.1 (B + 489) 4 + 1)) (B + 491) (4 * k + j) (nbN tx p d))
                  have en : nmF tl tx p j (M.1 (B + 491) (4 * k)) = (true, p + d + 1) := by
                    unfold nmF; rw [nq_y hd0 hz' h2 (by rw [hdg]; exact ⟨by omega, h4⟩), hdg]
                  rw [en, hdg] at hy
                  rw [g4, hM, st_st, nI_1]
                  exact hy rfl
              · have h4 : ¬ M'.1 (B + 490) (p + d) = sgN j := h4
                rw [gx _ (by omega)] at h4
                refine And.intro k4 ?_
                show Q (some (.int (M'.1 (B + 489) 4))) M'
                rw [g4]
                exact fin _ (by unfold nmF; rw [nq_n hd0 hz' h2 (by rw [hdg]; exact fun z => h4 z.2), hdg])
          · have h2 : bi (ftN j (nbN tx p d) (M'.1 (B + 491) (4 * k))) = 0 := h2
            rw [gn] at h2
            have h2 := ft_no (bi_0.mp h2)
            rw [← hdg] at h2
            exact fin p (by unfold nmF; exact nq_r hd0 hz' h2)
        · have h1 : M'.1 (B + 489) 4 = nI p := h1
          rw [g4, nI_eq (by omega) (by omega)] at h1
          refine And.intro k4 ?_
          show Q (some (.int (M'.1 (B + 489) 4))) M'
          rw [g4, show p + d = p by omega]
          exact fin p (by unfold nmF; exact nq_0 (by omega))
  · exact h.elim
end WT

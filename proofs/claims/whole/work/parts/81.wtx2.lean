/-! THE TEXT OF PARCELS WALKED: items -/
section WT2
set_option maxRecDepth 100000 in
theorem wk_X4_readItem (B : Nat) : fw_Wk B fl_X4 (cal_X4_readItem B) [] cst_X4 (some .int) kX4_readItem 3 (ct_X4_readItem B) := by
  intro as M Q QX h
  unfold ct_X4_readItem at h
  split at h
  · obtain ⟨rfl, tl, tx, k, p, hT, hk, hp, e3, e4, h⟩ := h
    have k4 := k489 (B := B)
    have htl := hT.2.1
    refine ⟨rfl, [
      (2, [true, true, false], fun n ls st M' => ∃ j, n = 4 - j ∧ j ≤ 4 ∧ FT B M M' ∧ M'.1 (B + 489) 3 = nI k ∧ (∀ i, i < 4 * k → M'.1 (B + 491) i = M.1 (B + 491) i) ∧ M'.1 (B + 489) 4 = nI (sF tl tx p j) ∧ (∀ i, i < j → (qF tl tx p i).1 = true ∧ M'.1 (B + 491) (4 * k + i) = vF tl tx p i) ∧ ls = [some (.ref (B + 489)), some (.int (nI j)), none] ∧ st = [])], ⟨100, ?_⟩, ?_⟩
    · exact Exists.intro 4 (Exists.intro 0 ⟨rfl, by omega, FT_id, e3, fun _ _ => rfl, e4, fun i hi => absurd hi (by omega), rfl, rfl⟩)
    · intro q hq n ls st M' hi
      cases List.mem_singleton.mp hq
      obtain ⟨j, rfl, hj, hF, g3, gl, g4, gq, rfl, rfl⟩ := hi
      refine ⟨100, And.intro (fun h1 => ?_) (fun h1 => ?_)⟩
      · have h1 : nI 4 ≤ nI j := h1
        rw [n_ge (by decide) (by omega)] at h1
        have ej : j = 4 := by omega
        subst ej
        have hy := item_yes (tl := tl) (tx := tx) (p := p) (fun i hi => (gq i hi).1)
        have := h M' hF g3 gl (fun _ => ⟨by rw [hy.1]; exact g4, (gq 0 (by decide)).2, (gq 1 (by decide)).2, (gq 2 (by decide)).2, (gq 3 (by decide)).2⟩)
        rw [if_pos hy.2] at this
        exact this
      · have h1 : ¬ nI 4 ≤ nI j := h1
        rw [n_ge (by decide) (by omega)] at h1
        have hj4 : j < 4 := by omega
        have eq : nmF tl tx (sF tl tx p j) j (M'.1 (B + 491) (4 * k)) = qF tl tx p j := qF_nm hj4 (fun z => (gq 0 z).2)
        have hs := sF_le (tx := tx) hp (show j ≤ 4 by omega)
        refine And.intro k4 (And.intro rfl (Exists.intro tl (Exists.intro tx (Exists.intro k (Exists.intro j (Exists.intro (sF tl tx p j) (And.intro (TS_fr hT hF) (And.intro hk (And.intro hj4 (And.intro hs (And.intro g3 (And.intro rfl (And.intro g4 (And.intro ?_ ?_))))))))))))))
        · rw [eq, vF_nb hj4]
          intro hy
          refine And.intro (fun _ => ?_) (fun z => absurd rfl z)
          refine Exists.intro (4 - (j + 1)) (And.intro (by omega) (Exists.intro (j + 1) ⟨rfl, by omega, FT_tr hF (FT_tr (FT_4 (by decide)) FT_n), ?_, ?_, ?_, ?_, ?_, rfl⟩))
          · rw [st_o (by omega), st_n (by decide)]; exact g3
          · intro i hi
            rw [st_n (by omega), st_o (by omega)]; exact gl i hi
          · rw [st_o (by omega), st_s]; rfl
          · intro i hi
            rcases Nat.lt_or_ge i j with z | z
            · rw [st_n (by omega), st_o (by omega)]; exact gq i z
            · have ei : i = j := by omega
              subst ei
              exact ⟨hy, st_s⟩
          · show [some (Value.ref (B + 489)), some (Value.int (nI j + 1)), none] = _
            rw [nI_1]
        · rw [eq]
          intro hn x
          have hi := item_no (tl := tl) (tx := tx) (p := p) hj4 (fun i hi => (gq i hi).1) hn
          have hne : nI (qF tl tx p j).2 ≠ -1 := nI_m1 (by have := sF_le (tx := tx) hp (show j + 1 ≤ 4 by omega); have : (qF tl tx p j).2 ≤ tl := this; omega)
          refine And.intro (fun z => absurd z hne) (fun _ => ?_)
          have := h (fw_st M' (B + 489) 4 x) (FT_tr hF (FT_4 (by decide))) (by rw [st_n (by decide)]; exact g3) (fun i hi => by rw [st_o (by omega)]; exact gl i hi) (fun z => by rw [hi.2] at z; cases z)
          rw [hi.2, hi.1, if_neg (by decide)] at this
          exact this
  · exact h.elim
theorem cm_pn {b tl : Nat} {S : Sx} {tx : Nat → Int32} : ∀ k, WF b S → pn S + k ≤ 24 → (∀ i, i < k → (item tl tx (ps tl tx i)).1 = true) → WF b (cmS S tl tx k) ∧ pn (cmS S tl tx k) = pn S + k := by
  intro k
  induction k with
  | zero => intro h _ _; exact ⟨h, rfl⟩
  | succ k ih =>
    intro h h2 h3
    obtain ⟨i1, i2⟩ := ih h (by omega) (fun i hi => h3 i (by omega))
    have w := WF_comI i1 (by omega) (h3 k (by omega))
    refine ⟨w, ?_⟩
    have e : (cmS S tl tx (k + 1)) 3 = nI (pn S + k + 1) := by
      show (comI (cmS S tl tx k) tl tx (ps tl tx k)) 3 = _
      unfold comI comS
      rw [upd_s, i1.2.2.1, i2, nI_1]
    have := w.2.2.1
    have hp := w.2.2.2.1
    have e' : nI (pn (cmS S tl tx (k + 1))) = nI (pn S + k + 1) := by rw [← e]; exact this.symm
    rw [nI_eq (by have : pn (cmS S tl tx (k + 1)) ≤ 24 := hp; omega) (by omega)] at e'
    exact e'
theorem prN_q {tl n a : Nat} {tx : Nat → Int32} {S : Sx} : prN tl tx (n + 1) S a = if a < tl then (if S 3 = 24 then (false, a, S) else if (item tl tx a).1 = true then prN tl tx n (comI S tl tx a) (item tl tx a).2 else (false, (item tl tx a).2, S)) else (true, a, S) := rfl
set_option maxRecDepth 100000 in
theorem wk_X4_read (B : Nat) : fw_Wk B fl_X4 (cal_X4_read B) [] cst_X4 (some .int) kX4_read 3 (ct_X4_read B) := by
  intro as M Q QX h
  unfold ct_X4_read at h
  split at h
  · obtain ⟨rfl, tl, tx, b, S, hT, hW, rfl, h⟩ := h
    have k4 := k489 (B := B)
    have htl := hT.2.1
    have hm24 : pn S ≤ 24 := hW.2.2.2.1
    refine ⟨rfl, [
      (10, [true, true, false], fun n ls st M' => ∃ k, n = 24 - k ∧ pn S + k ≤ 24 ∧ FT B M M' ∧ M'.1 (B + 489) 3 = nI k ∧ M'.1 (B + 489) 4 = nI (ps tl tx k) ∧ ps tl tx k ≤ tl ∧ prN tl tx 151 S 0 = prN tl tx (151 - k) (cmS S tl tx k) (ps tl tx k) ∧ (∀ i, i < k → (item tl tx (ps tl tx i)).1 = true ∧ IT B M' tl tx (ps tl tx i) i) ∧ ls = [some (.ref (B + 489)), some (.int (nI (24 - pn S))), none] ∧ st = [])], ⟨100, ?_⟩, ?_⟩
    · refine And.intro k4 (And.intro k4 (Exists.intro 24 (Exists.intro 0 ⟨rfl, hm24, FT_tr (FT_4 (by decide)) (FT_4 (by decide)), ?_, ?_, Nat.zero_le _, rfl, fun i hi => absurd hi (by omega), rfl, rfl⟩)))
      · exact st_s
      · rw [st_n (by decide), st_s]; rfl
    · intro q hq n ls st M' hi
      cases List.mem_singleton.mp hq
      obtain ⟨k, rfl, hk, hF, g3, g4, hp, hpr, gi, rfl, rfl⟩ := hi
      obtain ⟨w1, w2⟩ := cm_pn (tl := tl) (tx := tx) (S := S) k hW hk (fun i hi => (gi i hi).1)
      have g2 : M'.1 (B + 489) 2 = nI tl := (TS_fr hT hF).1
      have e3 : (cmS S tl tx k) 3 = nI (pn S + k) := by rw [w1.2.2.1, w2]
      have hpr' : prN tl tx 151 S 0 = if ps tl tx k < tl then (if (cmS S tl tx k) 3 = 24 then (false, ps tl tx k, cmS S tl tx k) else if (item tl tx (ps tl tx k)).1 = true then prN tl tx (150 - k) (comI (cmS S tl tx k) tl tx (ps tl tx k)) (item tl tx (ps tl tx k)).2 else (false, (item tl tx (ps tl tx k)).2, cmS S tl tx k)) else (true, ps tl tx k, cmS S tl tx k) := by
        rw [hpr, show 151 - k = (150 - k) + 1 by omega]; exact prN_q
      refine ⟨100, And.intro k4 (And.intro k4 (And.intro (fun h1 => ?_) (fun h1 => ?_)))⟩
      · have h1 : M'.1 (B + 489) 2 ≤ M'.1 (B + 489) 4 := h1
        rw [g4, g2, n_ge (by omega) (by omega)] at h1
        rw [if_neg (by omega)] at hpr'
        exact h M' _ hF (Or.inr ⟨by rw [hpr'], rfl, k, g3, hk, by rw [hpr'], gi⟩)
      · have h1 : ¬ M'.1 (B + 489) 2 ≤ M'.1 (B + 489) 4 := h1
        rw [g4, g2, n_ge (by omega) (by omega)] at h1
        rw [if_pos (by omega)] at hpr'
        refine And.intro k4 (And.intro (fun h2 => ?_) (fun h2 => ?_))
        · have h2 : M'.1 (B + 489) 3 < nI (24 - pn S) := h2
          rw [g3, n_lt (by omega) (by omega)] at h2
          rw [if_neg (by rw [e3]; intro z; rw [show (24 : Int32) = nI 24 from rfl, nI_eq (by omega) (by decide)] at z; omega)] at hpr'
          refine And.intro k4 (And.intro rfl (Exists.intro tl (Exists.intro tx (Exists.intro k (Exists.intro (ps tl tx k) (And.intro (TS_fr hT hF) (And.intro (by omega) (And.intro hp (And.intro g3 (And.intro g4 ?_))))))))))
          intro M2 f1 f2 f3 f4
          have hle := item_le (tx := tx) hp
          cases ei : (item tl tx (ps tl tx k)).1 with
          | true =>
            rw [ei, if_pos rfl] at hpr'
            rw [ei] at f4
            obtain ⟨f5, f6⟩ := f4 rfl
            rw [if_pos rfl]
            refine And.intro (fun _ => ?_) (fun z => absurd rfl z)
            refine And.intro k4 (And.intro k4 ?_)
            refine Exists.intro (24 - (k + 1)) (And.intro (by omega) (Exists.intro (k + 1) ⟨rfl, by omega, FT_tr hF (FT_tr f1 (FT_4 (by decide))), ?_, ?_, hle, (by rw [show 151 - (k + 1) = 150 - k by omega]; exact hpr'), ?_, rfl, rfl⟩))
            · show (fw_st M2 (B + 489) 3 (M2.1 (B + 489) 3 + 1)).1 (B + 489) 3 = _
              rw [st_s, f2, nI_1]
            · show (fw_st M2 (B + 489) 3 (M2.1 (B + 489) 3 + 1)).1 (B + 489) 4 = _
              rw [st_n (by decide)]; exact f5
            · intro i hi
              have tr : ∀ a, (fw_st M2 (B + 489) 3 (M2.1 (B + 489) 3 + 1)).1 (B + 491) a = M2.1 (B + 491) a := fun a => by rw [st_o (by omega)]
              rcases Nat.lt_or_ge i k with z | z
              · refine ⟨(gi i z).1, ?_⟩
                have := (gi i z).2
                unfold IT at this ⊢
                simp only [tr]
                rw [f3 _ (by omega), f3 _ (by omega), f3 _ (by omega), f3 _ (by omega)]
                exact this
              · have eik : i = k := by omega
                subst eik
                refine ⟨ei, ?_⟩
                unfold IT at f6 ⊢
                simp only [tr]
                exact f6
          | false =>
            rw [ei, if_neg (by decide)] at hpr'
            have hne : nI (item tl tx (ps tl tx k)).2 ≠ -1 := nI_m1 (by omega)
            rw [if_neg (by decide)]
            refine And.intro (fun z => absurd z hne) (fun _ => ?_)
            exact h M2 _ (FT_tr hF f1) (Or.inl ⟨by rw [hpr'], by rw [hpr']⟩)
        · have h2 : ¬ M'.1 (B + 489) 3 < nI (24 - pn S) := h2
          rw [g3, n_lt (by omega) (by omega)] at h2
          rw [if_pos (by rw [e3, show pn S + k = 24 by omega]; rfl)] at hpr'
          refine And.intro k4 ?_
          show Q (some (.int (M'.1 (B + 489) 4))) M'
          rw [g4]
          exact h M' _ hF (Or.inl ⟨by rw [hpr'], by rw [hpr']⟩)
  · exact h.elim
end WT2

/-! AN EXCHANGE'S METHODS WALKED: those that tell -/
section WX1
set_option maxRecDepth 100000 in
theorem wk_X1_courierAt (B : Nat) : fw_Wk B fl_X1 (cal_X1_courierAt B) [] cst_X1 (some (.object RX0)) kX1_courierAt 2 (ct_X1_courierAt B) := by
  intro as M Q QX h
  unfold ct_X1_courierAt at h
  split at h
  · rename_i x v
    obtain ⟨hE, n, hn, e2, h⟩ := h
    have el : Int32.ofNat (fw_aln B (x + 1)) = nI 6 := by unfold fw_aln; rw [kXc hE]; rfl
    have k8 : 8 ≤ fw_kd B (x + 1) ∧ fw_kd B (x + 1) ≤ 10 := by rw [kXc hE]; decide
    have k7 : 7 ≤ fw_kd B (x + 1) := by omega
    have no : (∀ k, k < n → v ≠ nI k) → Q (some .null) M := fun hv => by
      rcases h with ⟨k, hk, e, -⟩ | ⟨-, h⟩
      · exact absurd e (hv k hk)
      · exact h
    refine ⟨rfl, [], ⟨60, And.intro (fun h1 => ?_) (fun h1 => And.intro (kX hE) (And.intro (fun h2 => ?_) (fun h2 => And.intro (kX hE) (And.intro k7 (And.intro k8.2 (And.intro (fun h3 => ?_) (fun h3 => ?_)))))))⟩, nofun⟩
    · refine no (fun k hk e => ?_)
      rw [e] at h1
      have h1 : nI k < nI 0 := h1
      rw [n_lt (by omega) (by decide)] at h1
      omega
    · refine no (fun k hk e => ?_)
      have h2 : M.1 x 2 ≤ v := h2
      rw [e2, e, n_ge (by omega) (by omega)] at h2
      omega
    · have h2 : ¬ M.1 x 2 ≤ v := h2
      rw [e2] at h2
      obtain ⟨k, hk, rfl⟩ := nI_of h1
      rw [n_ge (by omega) hk] at h2
      rcases h with ⟨k', hk', e, h⟩ | ⟨hv, -⟩
      · rw [nI_eq hk (by omega)] at e
        subst e
        refine And.intro (kX hE) (And.intro k8.1 (And.intro k8.2 (And.intro ?_ ?_)))
        · show fw_sd (vp_in (nI k) (fw_al (fw_kd B (x + 1))))
          rw [kXc hE]; exact vn_i (by show k < 6; omega) (by decide)
        · show Q (some (.ref (fw_el (fw_kd B (x + 1)) (x + 1) (nI k).toNatClampNeg))) M
          rw [kXc hE, n_cl hk]
          exact h
      · exact absurd rfl (hv k (by omega))
    · have h2 : ¬ M.1 x 2 ≤ v := h2
      rw [e2] at h2
      obtain ⟨k, hk, rfl⟩ := nI_of h1
      rw [n_ge (by omega) hk] at h2
      have h3 : ¬ nI k < Int32.ofNat (fw_aln B (x + 1)) := h3
      rw [el, n_lt hk (by decide)] at h3
      omega
  · exact h.elim
set_option maxRecDepth 100000 in
theorem wk_X1_parcelAt (B : Nat) : fw_Wk B fl_X1 (cal_X1_parcelAt B) [] cst_X1 (some (.object RX3)) kX1_parcelAt 2 (ct_X1_parcelAt B) := by
  intro as M Q QX h
  unfold ct_X1_parcelAt at h
  split at h
  · rename_i x v
    obtain ⟨hE, n, hn, e2, h⟩ := h
    have el : Int32.ofNat (fw_aln B (x + 2)) = nI 24 := by unfold fw_aln; rw [kXp hE]; rfl
    have k8 : 8 ≤ fw_kd B (x + 2) ∧ fw_kd B (x + 2) ≤ 10 := by rw [kXp hE]; decide
    have k7 : 7 ≤ fw_kd B (x + 2) := by omega
    have no : (∀ k, k < n → v ≠ nI k) → Q (some .null) M := fun hv => by
      rcases h with ⟨k, hk, e, -⟩ | ⟨-, h⟩
      · exact absurd e (hv k hk)
      · exact h
    refine ⟨rfl, [], ⟨60, And.intro (fun h1 => ?_) (fun h1 => And.intro (kX hE) (And.intro (fun h2 => ?_) (fun h2 => And.intro (kX hE) (And.intro k7 (And.intro k8.2 (And.intro (fun h3 => ?_) (fun h3 => ?_)))))))⟩, nofun⟩
    · refine no (fun k hk e => ?_)
      rw [e] at h1
      have h1 : nI k < nI 0 := h1
      rw [n_lt (by omega) (by decide)] at h1
      omega
    · refine no (fun k hk e => ?_)
      have h2 : M.1 x 3 ≤ v := h2
      rw [e2, e, n_ge (by omega) (by omega)] at h2
      omega
    · have h2 : ¬ M.1 x 3 ≤ v := h2
      rw [e2] at h2
      obtain ⟨k, hk, rfl⟩ := nI_of h1
      rw [n_ge (by omega) hk] at h2
      rcases h with ⟨k', hk', e, h⟩ | ⟨hv, -⟩
      · rw [nI_eq hk (by omega)] at e
        subst e
        refine And.intro (kX hE) (And.intro k8.1 (And.intro k8.2 (And.intro ?_ ?_)))
        · show fw_sd (vp_in (nI k) (fw_al (fw_kd B (x + 2))))
          rw [kXp hE]; exact vn_i (by show k < 24; omega) (by decide)
        · show Q (some (.ref (fw_el (fw_kd B (x + 2)) (x + 2) (nI k).toNatClampNeg))) M
          rw [kXp hE, n_cl hk]
          exact h
      · exact absurd rfl (hv k (by omega))
    · have h2 : ¬ M.1 x 3 ≤ v := h2
      rw [e2] at h2
      obtain ⟨k, hk, rfl⟩ := nI_of h1
      rw [n_ge (by omega) hk] at h2
      have h3 : ¬ nI k < Int32.ofNat (fw_aln B (x + 2)) := h3
      rw [el, n_lt hk (by decide)] at h3
      omega
  · exact h.elim
set_option maxRecDepth 100000 in
theorem wk_X1_isSought (B : Nat) : fw_Wk B fl_X1 (cal_X1_isSought B) [] cst_X1 (some .boolean) kX1_isSought 4 (ct_X1_isSought B) := by
  intro as M Q QX h
  unfold ct_X1_isSought at h
  split at h
  · rename_i x v
    obtain ⟨b, S, ⟨hE, hR, hW⟩, h⟩ := h
    have hn6 : cn S ≤ 6 := hW.2.1
    have hm24 : pn S ≤ 24 := hW.2.2.2.1
    have e2 : M.1 x 2 = nI (cn S) := (r2 hR).trans hW.1
    have e3 : M.1 x 3 = nI (pn S) := (r3 hR).trans hW.2.2.1
    refine ⟨rfl, [(2, [true, true, true, false], fun m ls st M' => ∃ i, m = cn S - i ∧ i ≤ cn S ∧ sought S v i = false ∧ ls = [some (.ref x), some (.int v), some (.int (nI i)), none] ∧ st = [] ∧ M' = M)], ⟨20, ?_⟩, ?_⟩
    · exact Exists.intro (cn S) (Exists.intro 0 ⟨rfl, by omega, rfl, rfl, rfl, rfl⟩)
    · intro q hq m ls st M' hi
      cases List.mem_singleton.mp hq
      obtain ⟨i, rfl, hi, hs, rfl, rfl, rfl⟩ := hi
      refine ⟨80, And.intro (kX hE) (And.intro (fun h1 => ?_) (fun h1 => ?_))⟩
      · have h1 : M'.1 x 2 ≤ nI i := h1
        rw [e2, n_ge (by omega) (by omega)] at h1
        rw [show cn S = i by omega, hs] at h
        exact And.intro (Or.inl rfl) h
      · have h1 : ¬ M'.1 x 2 ≤ nI i := h1
        rw [e2, n_ge (by omega) (by omega)] at h1
        refine And.intro (kX hE) (And.intro hE (Exists.intro (cn S) (And.intro hn6 (And.intro e2 (Or.inl (Exists.intro i (And.intro (by omega) (And.intro rfl ?_))))))))
        have rc : M'.1 (x + 3 + i) 4 = sC S i 4 := rC hR (by omega) (by decide)
        refine And.intro (kC hE (by omega)) (And.intro (fun h2 => ?_) (fun h2 => ?_))
        · have h2 : ¬ M'.1 (x + 3 + i) 4 = v := h2
          rw [rc] at h2
          refine Exists.intro (cn S - (i + 1)) (And.intro (by omega) (Exists.intro (i + 1) ⟨rfl, by omega, ?_, ?_, rfl, rfl⟩))
          · unfold sought; rw [hs, decide_eq_false h2]; rfl
          · show [some (Value.ref x), some (Value.int v), some (Value.int (nI i + 1)), none] = _
            rw [nI_1]
        · have h2 : M'.1 (x + 3 + i) 4 = v := h2
          rw [rc] at h2
          have up : ∀ j, sought S v (i + 1 + j) = true := by
            intro j
            induction j with
            | zero => show (sought S v i || decide (sC S i 4 = v)) = true; rw [decide_eq_true h2, Bool.or_true]
            | succ j ih => show (sought S v (i + 1 + j) || _) = true; rw [ih]; rfl
          have := up (cn S - (i + 1))
          rw [show i + 1 + (cn S - (i + 1)) = cn S by omega] at this
          rw [this] at h
          exact And.intro (Or.inr rfl) h
  · exact h.elim
set_option maxRecDepth 100000 in
theorem wk_X1_parcelsIn (B : Nat) : fw_Wk B fl_X1 (cal_X1_parcelsIn B) [] cst_X1 (some .int) kX1_parcelsIn 5 (ct_X1_parcelsIn B) := by
  intro as M Q QX h
  unfold ct_X1_parcelsIn at h
  split at h
  · rename_i x v
    obtain ⟨b, S, ⟨hE, hR, hW⟩, h⟩ := h
    have hn6 : cn S ≤ 6 := hW.2.1
    have hm24 : pn S ≤ 24 := hW.2.2.2.1
    have e2 : M.1 x 2 = nI (cn S) := (r2 hR).trans hW.1
    have e3 : M.1 x 3 = nI (pn S) := (r3 hR).trans hW.2.2.1
    refine ⟨rfl, [(4, [true, true, true, true, false], fun m ls st M' => ∃ i, m = pn S - i ∧ i ≤ pn S ∧ ls = [some (.ref x), some (.int v), some (.int (inSt S v i)), some (.int (nI i)), none] ∧ st = [] ∧ M' = M)], ⟨20, ?_⟩, ?_⟩
    · exact Exists.intro (pn S) (Exists.intro 0 ⟨rfl, by omega, rfl, rfl, rfl⟩)
    · intro q hq m ls st M' hi
      cases List.mem_singleton.mp hq
      obtain ⟨i, rfl, hi, rfl, rfl, rfl⟩ := hi
      refine ⟨80, And.intro (kX hE) (And.intro (fun h1 => ?_) (fun h1 => ?_))⟩
      · have h1 : M'.1 x 3 ≤ nI i := h1
        rw [e3, n_ge (by omega) (by omega)] at h1
        rw [show pn S = i by omega] at h
        exact h
      · have h1 : ¬ M'.1 x 3 ≤ nI i := h1
        rw [e3, n_ge (by omega) (by omega)] at h1
        refine And.intro (kX hE) (And.intro hE (Exists.intro (pn S) (And.intro hm24 (And.intro e3 (Or.inl (Exists.intro i (And.intro (by omega) (And.intro rfl ?_))))))))
        have rc : M'.1 (x + 9 + 3 * i) 4 = sP S i 4 := rP hR (by omega) (by decide)
        have key : ∀ a w, w = none → inSt S v (i + 1) = a → ∃ m', m' < pn S - i ∧ ∃ i', m' = pn S - i' ∧ i' ≤ pn S ∧ ([some (.ref x), some (.int v), some (.int a), some (.int (nI i + 1)), w] : fw_L) = [some (.ref x), some (.int v), some (.int (inSt S v i')), some (.int (nI i')), none] ∧ ([] : List Value) = [] ∧ M' = M' := by
          rintro a w rfl rfl
          exact ⟨pn S - (i + 1), by omega, i + 1, rfl, by omega, by rw [nI_1], rfl, rfl⟩
        refine And.intro (kP hE (by omega)) (And.intro (fun h2 => ?_) (fun h2 => ?_))
        · have h2 : ¬ M'.1 (x + 9 + 3 * i) 4 = v := h2
          rw [rc] at h2
          refine key _ none rfl ?_
          conv => lhs; unfold inSt
          rw [if_neg h2]; exact Int32.add_zero _
        · have h2 : M'.1 (x + 9 + 3 * i) 4 = v := h2
          rw [rc] at h2
          refine key _ none rfl ?_
          conv => lhs; unfold inSt
          rw [if_pos h2]
  · exact h.elim
set_option maxRecDepth 100000 in
theorem wk_X1_legsBy (B : Nat) : fw_Wk B fl_X1 (cal_X1_legsBy B) [] cst_X1 (some .int) kX1_legsBy 5 (ct_X1_legsBy B) := by
  intro as M Q QX h
  unfold ct_X1_legsBy at h
  split at h
  · rename_i x v
    obtain ⟨b, S, c, ⟨hE, hR, hW⟩, hc, rfl, h⟩ := h
    have hn6 : cn S ≤ 6 := hW.2.1
    have hm24 : pn S ≤ 24 := hW.2.2.2.1
    have e2 : M.1 x 2 = nI (cn S) := (r2 hR).trans hW.1
    have e3 : M.1 x 3 = nI (pn S) := (r3 hR).trans hW.2.2.1
    refine ⟨rfl, [(4, [true, true, true, true, false], fun m ls st M' => ∃ i, m = pn S - i ∧ i ≤ pn S ∧ ls = [some (.ref x), some (.int (nI c)), some (.int (lgC S c i)), some (.int (nI i)), none] ∧ st = [] ∧ M' = M)], ⟨20, ?_⟩, ?_⟩
    · exact Exists.intro (pn S) (Exists.intro 0 ⟨rfl, by omega, rfl, rfl, rfl⟩)
    · intro q hq m ls st M' hi
      cases List.mem_singleton.mp hq
      obtain ⟨i, rfl, hi, rfl, rfl, rfl⟩ := hi
      refine ⟨80, And.intro (kX hE) (And.intro (fun h1 => ?_) (fun h1 => ?_))⟩
      · have h1 : M'.1 x 3 ≤ nI i := h1
        rw [e3, n_ge (by omega) (by omega)] at h1
        rw [show pn S = i by omega] at h
        exact h
      · have h1 : ¬ M'.1 x 3 ≤ nI i := h1
        rw [e3, n_ge (by omega) (by omega)] at h1
        refine And.intro (kX hE) (And.intro hE (Exists.intro (pn S) (And.intro hm24 (And.intro e3 (Or.inl (Exists.intro i (And.intro (by omega) (And.intro rfl ?_))))))))
        have rc : M'.1 (x + 9 + 3 * i + 1) c = sP S i (8 + c) := rL hR (by omega) hc
        refine And.intro (kP hE (by omega)) (And.intro (PK_of hE (by omega)) (Exists.intro c (And.intro hc (And.intro rfl ?_))))
        refine Exists.intro (pn S - (i + 1)) (And.intro (by omega) (Exists.intro (i + 1) ⟨rfl, by omega, ?_, rfl, rfl⟩))
        show [some (Value.ref x), some (Value.int (nI c)), some (Value.int (lgC S c i + M'.1 (x + 9 + 3 * i + 1) c)), some (Value.int (nI i + 1)), none] = _
        rw [rc, nI_1]
        rfl
  · exact h.elim
set_option maxRecDepth 100000 in
theorem wk_X1_figure (B : Nat) : fw_Wk B fl_X1 (cal_X1_figure B) [] cst_X1 (some .int) kX1_figure 2 (ct_X1_figure B) := by
  intro as M Q QX h
  unfold ct_X1_figure at h
  split at h
  · rename_i x v
    obtain ⟨b, S, w, ⟨hE, hR, hW⟩, hw, rfl, h⟩ := h
    have hn6 : cn S ≤ 6 := hW.2.1
    have hm24 : pn S ≤ 24 := hW.2.2.2.1
    have e2 : M.1 x 2 = nI (cn S) := (r2 hR).trans hW.1
    have e3 : M.1 x 3 = nI (pn S) := (r3 hR).trans hW.2.2.1
    have e : (nI w).toInt = (w : Int) := nI_toInt (by omega)
    have g : ∀ j k v, w = j → M.1 x k = v → valS S j = v → Q (some (.int (M.1 x k))) M := fun j k v e1 e4 e5 => by
      rw [e4, ← e5, ← e1]; exact h
    have es : ∀ j, w = j + 4 → nI w - (4 : Int32) = nI j := fun j hj => by rw [hj, n_sub4]
    have k1 := kX hE
    have f4 : 4 ≤ w → w ≤ 7 → Q (some (.int (inSt S (nI w - 4) (pn S)))) M := fun y1 y2 => by
      have e6 : valS S w = inSt S (nI w - 4) (pn S) := by
        unfold valS
        rw [if_neg (by omega), if_neg (by omega), if_neg (by omega), if_neg (by omega), if_neg (by omega), if_neg (by omega), if_neg (by omega), es (w - 4) (by omega)]
      rw [← e6]; exact h
    have rest : 4 ≤ w → w ≤ 7 → ct_X1_parcelsIn B [.ref x, .int (nI w - 4)] M (fun r M' => Q r M') (fun _ _ => False) := fun y1 y2 => ⟨b, S, ⟨hE, hR, hW⟩, f4 y1 y2⟩
    refine ⟨rfl, [], ⟨60, ?_⟩, nofun⟩
    refine And.intro (And.intro (fun z => ?_) (And.intro (fun z => ?_) (And.intro (fun z => ?_) (And.intro (fun z => ?_) (And.intro (fun z => ?_) (And.intro (fun z => ?_) (And.intro (fun z => ?_) (And.intro (fun z => ?_) (And.intro (fun z => ?_) (And.intro (fun z => ?_) (And.intro (fun z => ?_) trivial))))))))))) (fun z => ?_)
    · exact And.intro k1 (g 0 0 _ (by rw [e] at z; omega) (r0 hR) rfl)
    · exact And.intro k1 (g 1 2 _ (by rw [e] at z; omega) (r2 hR) rfl)
    · exact And.intro k1 (g 2 3 _ (by rw [e] at z; omega) (r3 hR) rfl)
    · exact And.intro k1 (g 3 1 _ (by rw [e] at z; omega) (r1 hR) rfl)
    · exact And.intro k1 (rest (by rw [e] at z; omega) (by rw [e] at z; omega))
    · exact And.intro k1 (rest (by rw [e] at z; omega) (by rw [e] at z; omega))
    · exact And.intro k1 (rest (by rw [e] at z; omega) (by rw [e] at z; omega))
    · exact And.intro k1 (rest (by rw [e] at z; omega) (by rw [e] at z; omega))
    · exact And.intro k1 (g 8 4 _ (by rw [e] at z; omega) (r4 hR) rfl)
    · exact And.intro k1 (g 9 5 _ (by rw [e] at z; omega) (r5 hR) rfl)
    · exact And.intro k1 (g 10 6 _ (by rw [e] at z; omega) (r6 hR) rfl)
    · rw [e] at z; omega
  · exact h.elim
set_option maxRecDepth 100000 in
theorem wk_X1_courierFigure (B : Nat) : fw_Wk B fl_X1 (cal_X1_courierFigure B) [] cst_X1 (some .int) kX1_courierFigure 4 (ct_X1_courierFigure B) := by
  intro as M Q QX h
  unfold ct_X1_courierFigure at h
  split at h
  · rename_i x y u v
    obtain ⟨b, S, c, w, ⟨hE, hR, hW⟩, hc, hw, rfl, rfl, rfl, h⟩ := h
    have hn6 : cn S ≤ 6 := hW.2.1
    have hm24 : pn S ≤ 24 := hW.2.2.2.1
    have e2 : M.1 x 2 = nI (cn S) := (r2 hR).trans hW.1
    have e3 : M.1 x 3 = nI (pn S) := (r3 hR).trans hW.2.2.1
    have e : (nI w).toInt = (w : Int) := nI_toInt (by omega)
    have k0 := kC (c := c) hE (by omega)
    have g : ∀ j, j < 5 → w = j → Q (some (.int (M.1 (x + 3 + c) j))) M := fun j hj ej => by
      rw [rC hR hc hj]
      have e7 : crS S c w = sC S c j := by unfold crS; rw [if_pos (by omega), ej]
      rw [← e7]; exact h
    refine ⟨rfl, [], ⟨60, ?_⟩, nofun⟩
    refine And.intro (And.intro (fun z => ?_) (And.intro (fun z => ?_) (And.intro (fun z => ?_) (And.intro (fun z => ?_) (And.intro (fun z => ?_) trivial))))) (fun z => ?_)
    · exact And.intro k0 (g 0 (by decide) (by rw [e] at z; omega))
    · exact And.intro k0 (g 1 (by decide) (by rw [e] at z; omega))
    · exact And.intro k0 (g 2 (by decide) (by rw [e] at z; omega))
    · exact And.intro k0 (g 3 (by decide) (by rw [e] at z; omega))
    · exact And.intro k0 (g 4 (by decide) (by rw [e] at z; omega))
    · have ew : ¬ w < 5 := by rw [e] at z; omega
      have e7 : crS S c w = lgC S c (pn S) := by unfold crS; rw [if_neg ew]
      rw [e7] at h
      exact And.intro (kX hE) (Exists.intro b (Exists.intro S (Exists.intro c (And.intro ⟨hE, hR, hW⟩ (And.intro (by omega) (And.intro rfl h))))))
  · exact h.elim
end WX1

/-! AN EXCHANGE'S METHODS WALKED: choose, join, accept, become -/
section WX4
theorem sought_iff {S : Sx} {v : Int32} : ∀ n, sought S v n = true ↔ ∃ c, c < n ∧ sC S c 4 = v := by
  intro n
  induction n with
  | zero => exact ⟨fun h => (nomatch h), fun ⟨c, h, _⟩ => absurd h (Nat.not_lt_zero c)⟩
  | succ n ih =>
    unfold sought
    rw [Bool.or_eq_true, ih, decide_eq_true_eq]
    constructor
    · rintro (⟨c, h1, h2⟩ | h)
      · exact ⟨c, by omega, h2⟩
      · exact ⟨n, by omega, h⟩
    · rintro ⟨c, h1, h2⟩
      by_cases e : c = n
      · exact Or.inr (by rw [← e]; exact h2)
      · exact Or.inl ⟨c, by omega, h2⟩
theorem asked_iff {S : Sx} {p c : Nat} : ∀ n, asked S p c n = true ↔ ∃ o, o < n ∧ o ≠ c ∧ sC S o 3 = 1 ∧ sC S o 4 = nI p := by
  intro n
  induction n with
  | zero => exact ⟨fun h => (nomatch h), fun ⟨c, h, _⟩ => absurd h (Nat.not_lt_zero c)⟩
  | succ n ih =>
    unfold asked
    simp only [Bool.or_eq_true, Bool.and_eq_true, decide_eq_true_eq, ih]
    constructor
    · rintro (⟨o, h1, h2⟩ | ⟨⟨h1, h2⟩, h3⟩)
      · exact ⟨o, by omega, h2⟩
      · exact ⟨n, by omega, h1, h2, h3⟩
    · rintro ⟨o, h1, h2, h3, h4⟩
      by_cases e : o = n
      · subst e; exact Or.inr ⟨⟨h2, h3⟩, h4⟩
      · exact Or.inl ⟨o, by omega, h2, h3, h4⟩
theorem sought_asked {b : Nat} {S : Sx} {c p : Nat} (hW : WF b S) (hp : p < pn S) (hs : sP S p 4 = 0) : sought (frS S c) (nI p) (cn S) = asked S p c (cn S) := by
  have hm := hW.2.2.2.1
  apply Bool.eq_iff_iff.mpr
  rw [sought_iff, asked_iff]
  constructor
  · rintro ⟨o, ho, e⟩
    rw [frS_C (by decide)] at e
    by_cases eo : o = c
    · rw [if_pos ⟨eo, rfl⟩] at e
      exact absurd e.symm (nI_m1 (by omega))
    · rw [if_neg (by omega), if_neg (by omega)] at e
      rcases (hW.2.2.2.2.1 o ho).2 with ⟨-, a0⟩ | ⟨p', hp', ea, hd⟩
      · rw [a0] at e; exact absurd e.symm (nI_m1 (by omega))
      · rw [ea, nI_eq (by omega) (by omega)] at e
        subst e
        refine ⟨o, ho, eo, hd.elim id (fun y => ?_), ea⟩
        rw [hs] at y
        exact absurd y.2 (by decide)
  · rintro ⟨o, ho, ne, h3, h4⟩
    exact ⟨o, ho, by rw [frS_C (by decide), if_neg (by omega), if_neg (by omega)]; exact h4⟩
def low (S : Sx) (c i : Nat) : Int32 := if chB S c i = -1 then 1000 else sP S (chB S c i).toNatClampNeg 2
theorem low_yes {b : Nat} {S : Sx} {c i : Nat} (hW : WF b S) (hi : i < pn S) (h1 : may S c i = true) (h2 : sP S i 2 < low S c i) : chB S c (i + 1) = nI i ∧ low S c (i + 1) = sP S i 2 := by
  have hm := hW.2.2.2.1
  have e : chB S c (i + 1) = nI i := by
    unfold chB
    rw [if_pos]
    refine ⟨h1, ?_⟩
    unfold low at h2
    by_cases z : chB S c i = -1
    · exact Or.inl z
    · rw [if_neg z] at h2; exact Or.inr h2
  refine ⟨e, ?_⟩
  unfold low
  rw [e, if_neg (nI_m1 (by omega)), n_cl (by omega)]
theorem low_no {b : Nat} {S : Sx} {c i : Nat} (hW : WF b S) (hi : i < pn S) (h : ¬ (may S c i = true ∧ sP S i 2 < low S c i)) : chB S c (i + 1) = chB S c i ∧ low S c (i + 1) = low S c i := by
  obtain ⟨k, -, hk, ek⟩ := (hW.2.2.2.2.2.2 i hi).2.1
  have e : chB S c (i + 1) = chB S c i := by
    conv => lhs; unfold chB
    rw [if_neg]
    rintro ⟨h1, h2⟩
    refine h ⟨h1, ?_⟩
    unfold low
    rcases h2 with z | z
    · rw [if_pos z, ek, show (1000 : Int32) = nI 1000 from rfl, n_lt (by omega) (by decide)]
      omega
    · split
      · rw [ek, show (1000 : Int32) = nI 1000 from rfl, n_lt (by omega) (by decide)]
        omega
      · exact z
  exact ⟨e, by unfold low; rw [e]⟩
set_option maxRecDepth 100000 in
theorem wk_X1_choose (B : Nat) : fw_Wk B fl_X1 (cal_X1_choose B) [] cst_X1 none kX1_choose 6 (ct_X1_choose B) := by
  intro as M Q QX h
  unfold ct_X1_choose at h
  split at h
  · rename_i x y
    obtain ⟨b, S, c, ⟨hE, hR, hW⟩, hc, rfl, h⟩ := h
    have hn6 : cn S ≤ 6 := hW.2.1
    have hm24 : pn S ≤ 24 := hW.2.2.2.1
    have hc6 : c < 6 := by omega
    have kc := kC hE hc6
    have kx := kX hE
    have hR1 := Rep_free hR hc6
    have hF1 := F_free (x := x) (M := M) hc6
    have hW1 := WF_frs hW hc
    have c1 : cn (frS S c) = cn S := cn_eq (frS_lo (by decide))
    have p1 : pn (frS S c) = pn S := pn_eq (frS_lo (by decide))
    have hfin : ∀ M1, Rep M1.1 x (frS S c) → FX x M M1 → (chB S c (pn S) = -1 → Q none M1) ∧ (¬ chB S c (pn S) = -1 → Q none (fw_st (fw_st M1 (x + 3 + c) 3 1) (x + 3 + c) 4 (chB S c (pn S)))) := by
      intro M1 g1 g2
      constructor
      · intro e
        refine h _ ?_ g2
        unfold chS
        rw [if_pos e, e]
        exact g1
      · intro e
        refine h _ ?_ (FX_tr g2 (FX_tr (fC hc6) (fC hc6)))
        have := Rep_C (w := 4) (v := chB S c (pn S)) (Rep_C (w := 3) (v := 1) g1 hc6 (by decide)) hc6 (by decide)
        have ee : uC (uC (frS S c) c 3 1) c 4 (chB S c (pn S)) = chS S c := by
          unfold chS frS uC
          rw [if_neg e]
          funext k
          unfold upd
          by_cases k4 : k = 7 + 5 * c + 4
          · rw [if_pos k4, if_pos k4]
          · rw [if_neg k4, if_neg k4]
            by_cases k3 : k = 7 + 5 * c + 3
            · rw [if_pos k3, if_pos k3, if_neg k4]
            · rw [if_neg k3, if_neg k3, if_neg k4, if_neg k3]
        rw [ee] at this
        exact this
    generalize hM1 : fw_st (fw_st M (x + 3 + c) 3 0) (x + 3 + c) 4 (-1) = M1 at hR1 hF1
    have hfin := hfin M1 hR1 hF1
    have e3 : M1.1 x 3 = nI (pn S) := by rw [r3 hR1, frS_lo (by decide)]; exact hW.2.2.1
    refine ⟨rfl, [(13, [true, true, true, true, true, false], fun m ls st M' => ∃ i, m = pn S - i ∧ i ≤ pn S ∧ ls = [some (.ref x), some (.ref (x + 3 + c)), some (.int (chB S c i)), some (.int (low S c i)), some (.int (nI i)), none] ∧ st = [] ∧ M' = M1)], ⟨60, And.intro kc (And.intro kc (Exists.intro (pn S) (Exists.intro 0 ⟨rfl, by omega, rfl, rfl, hM1⟩)))⟩, ?_⟩
    intro q hq m ls st M' hi
    cases List.mem_singleton.mp hq
    obtain ⟨i, rfl, hi, rfl, rfl, rfl⟩ := hi
    refine ⟨160, And.intro kx (And.intro (fun h1 => ?_) (fun h1 => ?_))⟩
    · have h1 : M'.1 x 3 ≤ nI i := h1
      rw [e3, n_ge (by omega) (by omega)] at h1
      rw [show pn S = i by omega] at hfin
      exact And.intro (fun g1 => hfin.1 g1) (fun g1 => And.intro kc (And.intro kc (hfin.2 g1)))
    · have h1 : ¬ M'.1 x 3 ≤ nI i := h1
      rw [e3, n_ge (by omega) (by omega)] at h1
      have hi2 : i < pn S := by omega
      have kp := kP (p := i) hE (by omega)
      have q4 : M'.1 (x + 9 + 3 * i) 4 = sP S i 4 := by rw [rP hR1 (by rw [p1]; exact hi2) (by decide), frS_P hc6]
      have q2 : M'.1 (x + 9 + 3 * i) 2 = sP S i 2 := by rw [rP hR1 (by rw [p1]; exact hi2) (by decide), frS_P hc6]
      have q5 : M'.1 (x + 9 + 3 * i) 5 = sP S i 5 := by rw [rP hR1 (by rw [p1]; exact hi2) (by decide), frS_P hc6]
      have q1 : M'.1 (x + 9 + 3 * i) 1 = sP S i 1 := by rw [rP hR1 (by rw [p1]; exact hi2) (by decide), frS_P hc6]
      have y0 : M'.1 (x + 3 + c) 0 = sC S c 0 := by rw [rC hR1 (by rw [c1]; exact hc) (by decide), frS_C (by decide), if_neg (by omega), if_neg (by omega)]
      have hWp := hW.2.2.2.2.2.2 i hi2
      obtain ⟨o, d, -, hd, -, -, ed⟩ := hWp.1
      obtain ⟨z, hz, ez⟩ := hWp.2.2.2.2.1
      have key : ∀ a l w, w = none → chB S c (i + 1) = a → low S c (i + 1) = l → ∃ m', m' < pn S - i ∧ ∃ i', m' = pn S - i' ∧ i' ≤ pn S ∧ ([some (.ref x), some (.ref (x + 3 + c)), some (.int a), some (.int l), some (.int (nI i + 1)), w] : fw_L) = [some (.ref x), some (.ref (x + 3 + c)), some (.int (chB S c i')), some (.int (low S c i')), some (.int (nI i')), none] ∧ ([] : List Value) = [] ∧ M' = M' := by
        rintro a l w rfl rfl rfl
        exact ⟨pn S - (i + 1), by omega, i + 1, rfl, by omega, by rw [nI_1], rfl, rfl⟩
      have skip : ¬ (may S c i = true ∧ sP S i 2 < low S c i) → ∀ w, w = none → ∃ m', m' < pn S - i ∧ ∃ i', m' = pn S - i' ∧ i' ≤ pn S ∧ ([some (.ref x), some (.ref (x + 3 + c)), some (.int (chB S c i)), some (.int (low S c i)), some (.int (nI i + 1)), w] : fw_L) = [some (.ref x), some (.ref (x + 3 + c)), some (.int (chB S c i')), some (.int (low S c i')), some (.int (nI i')), none] ∧ ([] : List Value) = [] ∧ M' = M' := fun e w ew => by
        obtain ⟨a1, a2⟩ := low_no hW hi2 e
        exact key _ _ w ew a1 a2
      refine And.intro kx (And.intro hE (Exists.intro (pn S) (And.intro hm24 (And.intro e3 (Or.inl (Exists.intro i (And.intro hi2 (And.intro rfl ?_))))))))
      refine And.intro kp (And.intro (fun g1 => ?_) (fun g1 => And.intro kp (And.intro (fun g2 => ?_) (fun g2 => And.intro kc (And.intro kp (And.intro kp (Exists.intro z (Exists.intro d (And.intro hz (And.intro hd (And.intro (q5.trans ez) (And.intro (q1.trans ed) (And.intro (fun g3 => ?_) (fun g3 => ?_))))))))))))))
      · have g1 : ¬ M'.1 (x + 9 + 3 * i) 4 = 0 := g1
        rw [q4] at g1
        refine skip (fun e => ?_) none rfl
        have := e.1
        unfold may at this
        rw [decide_eq_false g1] at this
        cases this
      · have g2 : low S c i ≤ M'.1 (x + 9 + 3 * i) 2 := g2
        rw [q2] at g2
        exact skip (fun e => Int32.not_lt.mpr g2 e.2) none rfl
      · have g3 : (hs (M'.1 (x + 3 + c) 0) (M'.1 (x + 9 + 3 * i) 5) && hs (M'.1 (x + 3 + c) 0) (nxz (M'.1 (x + 9 + 3 * i) 5) (M'.1 (x + 9 + 3 * i) 1))) = false := bi_0.mp g3
        rw [y0, q5, q1] at g3
        refine skip (fun e => ?_) none rfl
        have := e.1
        unfold may suit at this
        rw [g3, Bool.and_false] at this
        cases this
      · have g1 : M'.1 (x + 9 + 3 * i) 4 = 0 := g1
        rw [q4] at g1
        have g2 : ¬ low S c i ≤ M'.1 (x + 9 + 3 * i) 2 := g2
        rw [q2] at g2
        have g3 : (hs (M'.1 (x + 3 + c) 0) (M'.1 (x + 9 + 3 * i) 5) && hs (M'.1 (x + 3 + c) 0) (nxz (M'.1 (x + 9 + 3 * i) 5) (M'.1 (x + 9 + 3 * i) 1))) = true := bi_n0.mp g3
        rw [y0, q5, q1] at g3
        refine And.intro kx (Exists.intro b (Exists.intro (frS S c) (And.intro ⟨hE, hR1, hW1⟩ (And.intro (fun g4 => ?_) (fun g4 => ?_)))))
        · have g4 : sought (frS S c) (nI i) (cn (frS S c)) = true := bi_n0.mp g4
          rw [c1, sought_asked hW hi2 g1] at g4
          refine skip (fun e => ?_) none rfl
          have := e.1
          unfold may at this
          rw [g4] at this
          simp at this
        · have g4 : sought (frS S c) (nI i) (cn (frS S c)) = false := bi_0.mp g4
          rw [c1, sought_asked hW hi2 g1] at g4
          have hm : may S c i = true := by
            unfold may suit
            rw [decide_eq_true g1, g3, g4]; rfl
          obtain ⟨a1, a2⟩ := low_yes hW hi2 hm (Int32.not_le.mp g2)
          refine And.intro kp (key _ _ none rfl a1 ?_)
          rw [a2]
          exact q2.symm
  · exact h.elim
theorem join_rep {x : Nat} {M : fw_M} {S : Sx} {ar z : Int32} (hR : Rep M.1 x S) (hS2 : S 2 = nI (cn S)) (hc : cn S < 6) : Rep (fw_st (fw_st (fw_st (fw_st (fw_st (fw_st M x 2 (S 2 + 1)) (x + 3 + cn S) 0 ar) (x + 3 + cn S) 1 z) (x + 3 + cn S) 2 0) (x + 3 + cn S) 3 0) (x + 3 + cn S) 4 (-1)).1 x (addS S ar z) := by
  have hm24 := hR.2.1
  have f2 : addS S ar z 2 = nI (cn S + 1) := by unfold addS; rw [upd_s]; exact nI_suc hS2
  have fl : ∀ k, k < 7 → k ≠ 2 → addS S ar z k = S k := fun k hk h2 => by unfold addS; rw [upd_n h2, frS_lo hk, uC_lo hk, uC_lo hk, uC_lo hk]
  have g2 : cn (addS S ar z) = cn S + 1 := by unfold cn; rw [f2, n_cl (by omega)]; rfl
  have g3 : pn (addS S ar z) = pn S := pn_eq (fl 3 (by decide) (by decide))
  have gP : ∀ p w, sP (addS S ar z) p w = sP S p w := fun p w => by
    unfold addS; rw [gPu (by decide), frS_P hc, gPC hc (by decide), gPC hc (by decide), gPC hc (by decide)]
  have old : ∀ (a k : Nat), a ≠ x + 3 + cn S → (a ≠ x ∨ k ≠ 2) → (fw_st (fw_st (fw_st (fw_st (fw_st (fw_st M x 2 (S 2 + 1)) (x + 3 + cn S) 0 ar) (x + 3 + cn S) 1 z) (x + 3 + cn S) 2 0) (x + 3 + cn S) 3 0) (x + 3 + cn S) 4 (-1)).1 a k = M.1 a k := fun a k h1 h2 => by
    rw [st_o h1, st_o h1, st_o h1, st_o h1, st_o h1]
    rcases h2 with h2 | h2
    · rw [st_o h2]
    · by_cases e : a = x
      · subst e; rw [st_n h2]
      · rw [st_o e]
  refine Rep_mk (by rw [g2]; omega) (by rw [g3]; exact hm24) ?_ ?_ ?_ ?_ ?_ ?_ ?_ (fun c hc' w hw => ?_) (fun p hp => ?_)
  · rw [old _ _ (by omega) (Or.inr (by decide)), fl 0 (by decide) (by decide)]; exact r0 hR
  · rw [old _ _ (by omega) (Or.inr (by decide)), fl 1 (by decide) (by decide)]; exact r1 hR
  · rw [st_o (by omega), st_o (by omega), st_o (by omega), st_o (by omega), st_o (by omega), st_s, f2]; exact nI_suc hS2
  · rw [old _ _ (by omega) (Or.inr (by decide)), fl 3 (by decide) (by decide)]; exact r3 hR
  · rw [old _ _ (by omega) (Or.inr (by decide)), fl 6 (by decide) (by decide)]; exact r4 hR
  · rw [old _ _ (by omega) (Or.inr (by decide)), fl 4 (by decide) (by decide)]; exact r5 hR
  · rw [old _ _ (by omega) (Or.inr (by decide)), fl 5 (by decide) (by decide)]; exact r6 hR
  · rw [g2] at hc'
    unfold addS
    rw [gCu (by decide), frS_C hw, gCC hw (by decide), gCC hw (by decide), gCC hw (by decide)]
    by_cases e : c = cn S
    · subst e
      rcases (show w = 0 ∨ w = 1 ∨ w = 2 ∨ w = 3 ∨ w = 4 by omega) with y | y | y | y | y <;> subst y <;> simp [st_s, st_n]
    · rw [old _ _ (by omega) (Or.inl (by omega)), if_neg (by omega), if_neg (by omega), if_neg (by omega), if_neg (by omega), if_neg (by omega)]
      exact rC hR (by omega) hw
  · rw [g3] at hp
    refine ⟨fun w hw => ?_, fun c hc' => ⟨?_, ?_⟩⟩
    · rw [gP, old _ _ (by omega) (Or.inl (by omega))]; exact rP hR hp hw
    · rw [gP, old _ _ (by omega) (Or.inl (by omega))]; exact rL hR hp hc'
    · rw [gP, old _ _ (by omega) (Or.inl (by omega))]; exact rS hR hp hc'
set_option maxRecDepth 100000 in
theorem wk_X1_join (B : Nat) : fw_Wk B fl_X1 (cal_X1_join B) [] cst_X1 (some .int) kX1_join 5 (ct_X1_join B) := by
  intro as M Q QX h
  unfold ct_X1_join at h
  split at h
  · rename_i x ar z
    obtain ⟨b, S, ⟨hE, hR, hW⟩, hc, h⟩ := h
    have kx := kX hE
    have e2 : M.1 x 2 = nI (cn S) := (r2 hR).trans hW.1
    have kc := kC hE hc
    have eM : (fw_st M x 2 (M.1 x 2 + 1)).1 x 2 = nI (cn S + 1) := by rw [st_s, e2, nI_1]
    refine ⟨rfl, [], ⟨80, And.intro kx (And.intro kx (And.intro kx (And.intro kx (And.intro hE (Exists.intro (cn S + 1) (And.intro (by omega) (And.intro eM (Or.inl (Exists.intro (cn S) (And.intro (Nat.lt_succ_self _) (And.intro e2 (And.intro kc (And.intro kc ?_)))))))))))))⟩, nofun⟩
    have e2' : M.1 x 2 = S 2 := r2 hR
    show Q (some (.int (M.1 x 2))) (fw_st (fw_st (fw_st (fw_st (fw_st (fw_st M x 2 (M.1 x 2 + 1)) (x + 3 + cn S) 0 ar) (x + 3 + cn S) 1 z) (x + 3 + cn S) 2 0) (x + 3 + cn S) 3 0) (x + 3 + cn S) 4 (-1))
    rw [e2']
    exact h _ (join_rep hR hW.1 hc) (FX_tr fX (FX_tr (fC hc) (FX_tr (fC hc) (FX_tr (fC hc) (FX_tr (fC hc) (fC hc))))))
  · exact h.elim
theorem acc_rep {x a : Nat} {M : fw_M} {S : Sx} {o g k t : Int32} (hR : Rep M.1 x S) (hS3 : S 3 = nI (pn S)) (hp : pn S < 24) (ha : x + 9 + 3 * pn S = a) : Rep (fw_row (fw_row (pB (fw_st M x 3 (S 3 + 1)) a o g k t) (a + 1) (cpN 6 (fun _ => 0) ((fw_st M x 3 (S 3 + 1)).1 (a + 1)))) (a + 2) (cpN 6 (fun _ => 0) ((fw_st M x 3 (S 3 + 1)).1 (a + 2)))).1 x (comS S o g k t) ∧ FX x M (fw_row (fw_row (pB (fw_st M x 3 (S 3 + 1)) a o g k t) (a + 1) (cpN 6 (fun _ => 0) ((fw_st M x 3 (S 3 + 1)).1 (a + 1)))) (a + 2) (cpN 6 (fun _ => 0) ((fw_st M x 3 (S 3 + 1)).1 (a + 2)))) := by
  have hn6 := hR.1
  have old : ∀ (c k' : Nat), c ≠ a → c ≠ a + 1 → c ≠ a + 2 → (c ≠ x ∨ k' ≠ 3) → (fw_row (fw_row (pB (fw_st M x 3 (S 3 + 1)) a o g k t) (a + 1) (cpN 6 (fun _ => 0) ((fw_st M x 3 (S 3 + 1)).1 (a + 1)))) (a + 2) (cpN 6 (fun _ => 0) ((fw_st M x 3 (S 3 + 1)).1 (a + 2)))).1 c k' = M.1 c k' := fun c k' h0 h1 h2 h3 => by
    rw [row_n h2, row_n h1, pB_o h0]
    rcases h3 with h3 | h3
    · rw [st_o h3]
    · by_cases e : c = x
      · subst e; rw [st_n h3]
      · rw [st_o e]
  refine ⟨?_, fun c hc => funext fun k' => old c k' (by omega) (by omega) (by omega) (Or.inl (by omega)), rfl⟩
  have f3 : comS S o g k t 3 = nI (pn S + 1) := by unfold comS; rw [upd_s]; exact nI_suc hS3
  have g2 : cn (comS S o g k t) = cn S := cn_eq (com_lo (by decide) (by decide))
  have g3 : pn (comS S o g k t) = pn S + 1 := by unfold pn; rw [f3, n_cl (by omega)]; rfl
  refine Rep_mk (by rw [g2]; omega) (by rw [g3]; omega) ?_ ?_ ?_ ?_ ?_ ?_ ?_ (fun c hc' w hw => ?_) (fun p hp' => ?_)
  · rw [old _ _ (by omega) (by omega) (by omega) (Or.inr (by decide)), com_lo (by decide) (by decide)]; exact r0 hR
  · rw [old _ _ (by omega) (by omega) (by omega) (Or.inr (by decide)), com_lo (by decide) (by decide)]; exact r1 hR
  · rw [old _ _ (by omega) (by omega) (by omega) (Or.inr (by decide)), com_lo (by decide) (by decide)]; exact r2 hR
  · rw [row_n (by omega), row_n (by omega), pB_o (by omega), st_s, f3]; exact nI_suc hS3
  · rw [old _ _ (by omega) (by omega) (by omega) (Or.inr (by decide)), com_lo (by decide) (by decide)]; exact r4 hR
  · rw [old _ _ (by omega) (by omega) (by omega) (Or.inr (by decide)), com_lo (by decide) (by decide)]; exact r5 hR
  · rw [old _ _ (by omega) (by omega) (by omega) (Or.inr (by decide)), com_lo (by decide) (by decide)]; exact r6 hR
  · rw [g2] at hc'
    rw [com_C (by omega) hw, old _ _ (by omega) (by omega) (by omega) (Or.inl (by omega))]
    exact rC hR hc' hw
  · rw [g3] at hp'
    by_cases e : p = pn S
    · subst e
      rw [ha]
      refine ⟨fun w hw => ?_, fun c hc' => ⟨?_, ?_⟩⟩
      · rw [row_n (by omega), row_n (by omega), com_P (by omega), if_pos rfl]
        unfold pB
        rcases (show w = 0 ∨ w = 1 ∨ w = 2 ∨ w = 3 ∨ w = 4 ∨ w = 5 ∨ w = 6 ∨ w = 7 by omega) with y | y | y | y | y | y | y | y <;> subst y <;> simp [st_s, st_n]
      · rw [row_n (by omega), row_1, com_P (by omega), if_pos rfl, if_neg (by omega), if_neg (by omega), if_neg (by omega), if_neg (by omega), if_neg (by omega), if_neg (by omega)]
        unfold cpN; rw [if_pos hc']
      · rw [row_1, com_P (by omega), if_pos rfl, if_neg (by omega), if_neg (by omega), if_neg (by omega), if_neg (by omega), if_neg (by omega), if_neg (by omega)]
        unfold cpN; rw [if_pos hc']
    · refine ⟨fun w hw => ?_, fun c hc' => ⟨?_, ?_⟩⟩
      · rw [com_P (by omega), if_neg e, old _ _ (by omega) (by omega) (by omega) (Or.inl (by omega))]; exact rP hR (by omega) hw
      · rw [com_P (by omega), if_neg e, old _ _ (by omega) (by omega) (by omega) (Or.inl (by omega))]; exact rL hR (by omega) hc'
      · rw [com_P (by omega), if_neg e, old _ _ (by omega) (by omega) (by omega) (Or.inl (by omega))]; exact rS hR (by omega) hc'
set_option maxRecDepth 100000 in
theorem wk_X1_accept (B : Nat) : fw_Wk B fl_X1 (cal_X1_accept B) [] cst_X1 (some .int) kX1_accept 7 (ct_X1_accept B) := by
  intro as M Q QX h
  unfold ct_X1_accept at h
  split at h
  · rename_i x o g k t
    obtain ⟨b, S, ⟨hE, hR, hW⟩, hp, h⟩ := h
    have kx := kX hE
    have e3 : M.1 x 3 = nI (pn S) := (r3 hR).trans hW.2.2.1
    have kp := kP hE hp
    have eM : (fw_st M x 3 (M.1 x 3 + 1)).1 x 3 = nI (pn S + 1) := by rw [st_s, e3, nI_1]
    refine ⟨rfl, [], ⟨80, And.intro kx (And.intro kx (And.intro kx (And.intro kx (And.intro hE (Exists.intro (pn S + 1) (And.intro (by omega) (And.intro eM (Or.inl (Exists.intro (pn S) (And.intro (Nat.lt_succ_self _) (And.intro e3 (And.intro kp (And.intro (PK_of hE hp) ?_)))))))))))))⟩, nofun⟩
    have e3' : M.1 x 3 = S 3 := r3 hR
    have hn6 := hR.1
    show Q (some (.int (M.1 x 3))) (fw_row (fw_row (pB (fw_st M x 3 (M.1 x 3 + 1)) (x + 9 + 3 * pn S) o g k t) (x + 9 + 3 * pn S + 1) (cpN 6 (fun _ => 0) ((fw_st M x 3 (M.1 x 3 + 1)).1 (x + 9 + 3 * pn S + 1)))) (x + 9 + 3 * pn S + 2) (cpN 6 (fun _ => 0) ((fw_st M x 3 (M.1 x 3 + 1)).1 (x + 9 + 3 * pn S + 2))))
    rw [e3']
    obtain ⟨c1, c2⟩ := acc_rep (o := o) (g := g) (k := k) (t := t) hR hW.2.2.1 hp rfl
    exact h _ c1 c2
  · exact h.elim
end WX4

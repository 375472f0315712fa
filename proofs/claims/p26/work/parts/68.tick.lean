/-! AN EXCHANGE'S tick -/
section TK
theorem asked_cg {S S' : Sx} {p c : Nat} : ∀ n, (∀ o, o < n → sC S' o 3 = sC S o 3 ∧ sC S' o 4 = sC S o 4) → asked S' p c n = asked S p c n := by
  intro n
  induction n with
  | zero => intro _; rfl
  | succ n ih =>
    intro h
    unfold asked
    rw [ih (fun o ho => h o (by omega)), (h n (by omega)).1, (h n (by omega)).2]
theorem chB_m1 {S : Sx} {c : Nat} : ∀ n, n < 2 ^ 31 → chB S c n = -1 → ∀ p, p < n → may S c p = false := by
  intro n
  induction n with
  | zero => intro _ _ p hp; exact absurd hp (Nat.not_lt_zero p)
  | succ n ih =>
    intro hn e p hp
    unfold chB at e
    split at e
    · exact absurd e (nI_m1 (by omega))
    · rename_i g
      by_cases z : p = n
      · subst z
        cases hm : may S c p with
        | false => rfl
        | true => exact absurd ⟨hm, Or.inl e⟩ g
      · exact ih (by omega) e p (by omega)
theorem idle_ch {S : Sx} {c : Nat} (h3 : sC S c 3 = 0) (h4 : sC S c 4 = -1) (hb : chB S c (pn S) = -1) : chS S c = S := by
  unfold chS
  rw [hb, if_pos rfl]
  have e1 : uC S c 3 0 = S := by unfold uC; rw [show (0 : Int32) = S (7 + 5 * c + 3) from h3.symm, upd_self]
  rw [e1]
  unfold uC
  rw [show (-1 : Int32) = S (7 + 5 * c + 4) from h4.symm, upd_self]
theorem idle_act {S : Sx} {c : Nat} (h : Idle S) (hc : c < cn S) : actS S c = S := by
  obtain ⟨h3, h4, hm⟩ := h c hc
  unfold actS
  rw [if_neg (by rw [h3]; decide), if_neg (by rw [h3]; exact fun e => absurd e.1 (by decide))]
  refine idle_ch h3 h4 ?_
  rcases chB_may (S := S) (c := c) (pn S) with z | ⟨p, hp, -, e⟩
  · exact z
  · rw [hm p hp] at e; cases e
theorem idle_actW {S : Sx} (h : Idle S) : ∀ i, i ≤ cn S → actW S i = S := by
  intro i
  induction i with
  | zero => intro _; rfl
  | succ i ih => intro hi; unfold actW; rw [ih (by omega)]; exact idle_act h (by omega)
theorem idle_cg {S S' : Sx} (h : Idle S) (e2 : cn S' = cn S) (e3 : pn S' = pn S) (hC : ∀ c, c < cn S → sC S' c 0 = sC S c 0 ∧ sC S' c 3 = sC S c 3 ∧ sC S' c 4 = sC S c 4)
    (hP : ∀ p, p < pn S → sP S' p 1 = sP S p 1 ∧ sP S' p 5 = sP S p 5 ∧ (sP S' p 4 = sP S p 4 ∨ ¬ sP S' p 4 = 0)) : Idle S' := by
  intro c hc
  rw [e2] at hc
  obtain ⟨h3, h4, hm⟩ := h c hc
  obtain ⟨c0, c3, c4⟩ := hC c hc
  refine ⟨by rw [c3]; exact h3, by rw [c4]; exact h4, fun p hp => ?_⟩
  rw [e3] at hp
  obtain ⟨p1, p5, p4⟩ := hP p hp
  have hmp := hm p hp
  rcases p4 with p4 | p4
  · unfold may suit at hmp ⊢
    rw [p4, c0, p5, p1, e2, asked_cg (S := S) _ (fun o ho => ⟨(hC o ho).2.1, (hC o ho).2.2⟩)]
    exact hmp
  · unfold may
    rw [decide_eq_false p4]; rfl
theorem idle_time {S : Sx} {v : Int32} (h : Idle S) : Idle (upd S 0 v) :=
  idle_cg h (cn_eq (upd_n (by decide))) (pn_eq (upd_n (by decide))) (fun c hc => ⟨gCu (by decide), gCu (by decide), gCu (by decide)⟩) (fun p hp => ⟨gPu (by decide), gPu (by decide), Or.inl (gPu (by decide))⟩)
theorem idle_fai {S : Sx} {p : Nat} (h : Idle S) (hn : cn S ≤ 6) (hm : pn S ≤ 24) (hp : p < pn S) : Idle (faiS S p) := by
  have eC : ∀ d x, d < cn S → x < 5 → sC (faiS S p) d x = sC S d x := fun d x hd hx => by
    unfold faiS
    rw [frW_C hx, gCP (by omega) (by decide), if_neg (fun z => m1_ne hp hm (by rw [← (h d hd).2.1]; exact z.2)), gCP (by omega) hx]
  have eP : ∀ q x, x < 20 → sP (faiS S p) q x = if q = p ∧ x = 4 then 3 else sP S q x := fun q x hx => by
    unfold faiS; rw [frW_P _ hn, gPP hx (by decide)]
  refine idle_cg h (cn_eq (faiS_lo (by decide))) (pn_eq (faiS_lo (by decide))) (fun c hc => ⟨eC c 0 hc (by decide), eC c 3 hc (by decide), eC c 4 hc (by decide)⟩) (fun q hq => ⟨?_, ?_, ?_⟩)
  · rw [eP _ _ (by decide), if_neg (by omega)]
  · rw [eP _ _ (by decide), if_neg (by omega)]
  · rw [eP _ _ (by decide)]
    by_cases e : q = p
    · rw [if_pos ⟨e, rfl⟩]; exact Or.inr (by decide)
    · rw [if_neg (fun z => e z.1)]; exact Or.inl rfl
theorem idle_flW {S : Sx} (h : Idle S) (hn : cn S ≤ 6) (hm : pn S ≤ 24) : ∀ i, i ≤ pn S → Idle (flW S i) := by
  intro i
  induction i with
  | zero => intro _; exact h
  | succ i ih =>
    intro hi
    unfold flW
    split
    · exact idle_fai (ih (by omega)) (by rw [cn_flW]; exact hn) (by rw [pn_flW]; exact hm) (by rw [pn_flW]; omega)
    · exact ih (by omega)
theorem tickS_of {S S1 : Sx} (e : S1 = upd S 0 (S 0 + 1)) : tickS S = flW (actW S1 (cn S1)) (pn S1) := by
  subst e
  unfold tickS tkA
  rw [cn_eq (S := S) (S' := upd S 0 (S 0 + 1)) (upd_n (by decide)), pn_eq (S := S) (S' := upd S 0 (S 0 + 1)) (upd_n (by decide))]
set_option maxRecDepth 100000 in
theorem wk_X1_tick (B : Nat) : fw_Wk B fl_X1 (cal_X1_tick B) [] cst_X1 (some .boolean) kX1_tick 7 (ct_X1_tick B) := by
  intro as M Q QX h
  unfold ct_X1_tick at h
  split at h
  · rename_i x u
    obtain ⟨b, S, hb, ⟨hE, hR, hW⟩, hJ, hu, h⟩ := h
    have kx := kX hE
    have hR1 : Rep (fw_st M x 0 (M.1 x 0 + 1)).1 x (upd S 0 (S 0 + 1)) := by rw [r0 hR]; exact Rep_0 hR
    have hF1 : FX x M (fw_st M x 0 (M.1 x 0 + 1)) := fX
    have hW1 := WF_time (S 0 + 1) hW
    have eT := tickS_of (S := S) rfl
    generalize hM1 : fw_st M x 0 (M.1 x 0 + 1) = M1 at hR1 hF1
    have hu : u = 1 ∨ (u = 0 ∧ Idle (upd S 0 (S 0 + 1))) := hu.imp id (fun z => ⟨z.1, idle_time z.2⟩)
    generalize hS1 : upd S 0 (S 0 + 1) = S1 at hR1 hW1 eT hu
    have hn6 : cn S1 ≤ 6 := hW1.2.1
    have hm24 : pn S1 ≤ 24 := hW1.2.2.2.1
    have ac : ∀ i, cn (actW S1 i) = cn S1 := fun i => cn_eq (actW_lo (by decide) i)
    have ap : ∀ i, pn (actW S1 i) = pn S1 := fun i => pn_eq (actW_lo (by decide) i)
    -- what is known while nobody was busy
    have fin : ∀ M' v, Rep M'.1 x (actW S1 (cn S1)) → FX x M M' → (v = 1 ∨ (v = 0 ∧ Idle (actW S1 (cn S1)))) → ct_X1_failLateParcels B [.ref x] M' (fun _ M'' => (v = 0 ∨ v = 1) ∧ Q (some (.int v)) M'') (fun _ _ => False) := by
      intro M' v g1 g2 g3
      have hWA := WF_actW hW1 (cn S1) (Nat.le_refl _)
      refine ⟨_, _, ⟨hE, g1, hWA⟩, fun M'' g4 g5 => ⟨g3.elim Or.inr (fun z => Or.inl z.1), ?_⟩⟩
      rw [ap] at g4
      refine h M'' v (by rw [eT]; exact g4) (FX_tr g2 g5) (g3.imp id (fun z => ⟨z.1, ?_⟩))
      rw [eT]
      exact idle_flW z.2 (by rw [ac]; exact hn6) (by rw [ap]; exact hm24) _ (by rw [ap]; exact Nat.le_refl _)
    refine ⟨rfl, [
      (14, [true, true, true, true, false, false, false], fun m ls st M' => ∃ i s, m = 10 * (cn S1 - i) + 1 ∧ i ≤ cn S1 ∧ (u = 0 → i = 0) ∧ (s = 1 ∨ (s = 0 ∧ actW S1 i = S1 ∧ ∀ c, c < i → sC S1 c 3 = 0 ∧ sC S1 c 4 = -1 ∧ chB S1 c (pn S1) = -1)) ∧ ls = [some (.ref x), some (.int u), some (.int s), some (.int (nI i)), none, none, none] ∧ st = [] ∧ Rep M'.1 x (actW S1 i) ∧ FX x M M'),
      (129, [true, true, true, true, true, true, false], fun m ls st M' => ∃ i s w, m = 10 * (cn S1 - i) - 4 ∧ i < cn S1 ∧ u = 1 ∧ (s = 1 ∨ (s = 0 ∧ actW S1 i = S1 ∧ ∀ c, c < i → sC S1 c 3 = 0 ∧ sC S1 c 4 = -1 ∧ chB S1 c (pn S1) = -1)) ∧ ((w = 1 ∧ sC (actW S1 i) i 3 = 0) ∨ w = 0) ∧ ls = [some (.ref x), some (.int u), some (.int s), some (.int (nI i)), some (.ref (x + 3 + i)), some (.int w), none] ∧ st = [] ∧ Rep M'.1 x (actW S1 (i + 1)) ∧ FX x M M')], ⟨40, ?_⟩, ?_⟩
    · refine And.intro kx (And.intro kx ?_)
      refine Exists.intro (10 * (cn S1 - 0) + 1) (Exists.intro 0 (Exists.intro 0 ⟨rfl, by omega, fun _ => rfl, Or.inr ⟨rfl, rfl, fun c hc => absurd hc (Nat.not_lt_zero c)⟩, rfl, rfl, ?_⟩))
      show Rep (fw_st M x 0 (M.1 x 0 + 1)).1 x S1 ∧ FX x M (fw_st M x 0 (M.1 x 0 + 1))
      rw [hM1]
      exact ⟨hR1, hF1⟩
    · intro q hq m ls st M' hi
      simp only [List.mem_cons, List.not_mem_nil, or_false] at hq
      rcases hq with rfl | rfl
      · obtain ⟨i, s, rfl, hi, hui, hs, rfl, rfl, hR', hF'⟩ := hi
        have e2 : M'.1 x 2 = nI (cn S1) := by rw [r2 hR', actW_lo (by decide)]; exact hW1.1
        have e3 : M'.1 x 3 = nI (pn S1) := by rw [r3 hR', actW_lo (by decide)]; exact hW1.2.2.1
        refine ⟨200, And.intro (fun h0 => ?_) (fun h0 => And.intro kx (And.intro (fun h1 => ?_) (fun h1 => ?_)))⟩
        · have h0 : u = 0 := h0
          have hi0 := hui h0
          subst hi0
          have hid : Idle S1 := by
            rcases hu with z | z
            · rw [h0] at z; exact absurd z (by decide)
            · exact z.2
          have eA := idle_actW hid (cn S1) (Nat.le_refl _)
          refine And.intro kx (fin M' s (by rw [eA]; exact hR') hF' ?_)
          rw [eA]
          rcases hs with z | z
          · exact Or.inl z
          · exact Or.inr ⟨z.1, hid⟩
        · have h1 : M'.1 x 2 ≤ nI i := h1
          rw [e2, n_ge (by omega) (by omega)] at h1
          have ei : i = cn S1 := by omega
          refine And.intro kx (fin M' s (by rw [← ei]; exact hR') hF' ?_)
          rcases hs with z | ⟨z1, z2, z3⟩
          · exact Or.inl z
          · refine Or.inr ⟨z1, ?_⟩
            rw [← ei, z2]
            intro c hc
            obtain ⟨a1, a2, a3⟩ := z3 c (by omega)
            exact ⟨a1, a2, chB_m1 _ (by omega) a3⟩
        · have h0 : ¬ u = 0 := h0
          have u1 : u = 1 := hu.elim id (fun z => absurd z.1 h0)
          have h1 : ¬ M'.1 x 2 ≤ nI i := h1
          rw [e2, n_ge (by omega) (by omega)] at h1
          have hi2 : i < cn S1 := by omega
          have hic : i < cn (actW S1 i) := by rw [ac]; exact hi2
          have kc := kC (c := i) hE (by omega)
          have hWi := WF_actW hW1 i hi
          have d3 : M'.1 (x + 3 + i) 3 = sC (actW S1 i) i 3 := rC hR' hic (by decide)
          have d4 : M'.1 (x + 3 + i) 4 = sC (actW S1 i) i 4 := rC hR' hic (by decide)
          have next : ∀ w, ((w = 1 ∧ sC (actW S1 i) i 3 = 0) ∨ w = 0) → ∀ M'' z, z = none → Rep M''.1 x (actW S1 (i + 1)) → FX x M M'' → ∃ m', m' < 10 * (cn S1 - i) + 1 ∧ ∃ i' s' w', m' = 10 * (cn S1 - i') - 4 ∧ i' < cn S1 ∧ u = 1 ∧ (s' = 1 ∨ (s' = 0 ∧ actW S1 i' = S1 ∧ ∀ c, c < i' → sC S1 c 3 = 0 ∧ sC S1 c 4 = -1 ∧ chB S1 c (pn S1) = -1)) ∧ ((w' = 1 ∧ sC (actW S1 i') i' 3 = 0) ∨ w' = 0) ∧ ([some (.ref x), some (.int u), some (.int s), some (.int (nI i)), some (.ref (x + 3 + i)), some (.int w), z] : fw_L) = [some (.ref x), some (.int u), some (.int s'), some (.int (nI i')), some (.ref (x + 3 + i')), some (.int w'), none] ∧ ([] : List Value) = [] ∧ Rep M''.1 x (actW S1 (i' + 1)) ∧ FX x M M'' := by
            rintro w hw M'' z rfl g1 g2
            exact ⟨10 * (cn S1 - i) - 4, by omega, i, s, w, rfl, hi2, u1, hs, hw, rfl, rfl, g1, g2⟩
          have eAct : actW S1 (i + 1) = actS (actW S1 i) i := rfl
          have hpn : pn (actW S1 i) = pn S1 := ap i
          refine And.intro kx (And.intro hE (Exists.intro (cn S1) (And.intro hn6 (And.intro e2 (Or.inl (Exists.intro i (And.intro hi2 (And.intro rfl ?_))))))))
          have e_ch : ¬ sC (actW S1 i) i 3 = 2 → ¬ (sC (actW S1 i) i 3 = 1 ∧ sP (actW S1 i) (sC (actW S1 i) i 4).toNatClampNeg 4 = 0) → actW S1 (i + 1) = chS (actW S1 i) i := fun a1 a2 => by
            rw [eAct]; unfold actS; rw [if_neg a1, if_neg a2]
          refine And.intro kc (And.intro (fun g0 => ?_) (fun g0 => ?_))
          · have g0 : ¬ M'.1 (x + 3 + i) 3 = 0 := g0
            rw [d3] at g0
            have hw : ((0 : Int32) = 1 ∧ sC (actW S1 i) i 3 = 0) ∨ (0 : Int32) = 0 := Or.inr rfl
            rcases (hWi.2.2.2.2.1 i hic).2 with ⟨f3, f4⟩ | ⟨p, hp, ea, hd⟩
            · refine And.intro kc (And.intro kx (And.intro hE (Exists.intro (pn S1) (And.intro hm24 (And.intro e3 (Or.inr (And.intro (fun k hk e => ?_) ?_)))))))
              · have e : M'.1 (x + 3 + i) 4 = nI k := e
                rw [d4, f4] at e
                exact m1_ne hk hm24 e
              · have e9 := e_ch (by rw [f3]; decide) (by rw [f3]; exact fun e => absurd e.1 (by decide))
                exact And.intro kx (Exists.intro _ (Exists.intro (actW S1 i) (Exists.intro i (And.intro ⟨hE, hR', hWi⟩ (And.intro hic (And.intro rfl (fun M'' g1 g2 => next _ hw M'' none rfl (by rw [e9]; exact g1) (FX_tr hF' g2))))))))
            · have hp2 : p < pn S1 := by rw [← hpn]; exact hp
              have kp := kP (p := p) hE (by omega)
              have q4 : M'.1 (x + 9 + 3 * p) 4 = sP (actW S1 i) p 4 := rP hR' hp (by decide)
              have ep : (sC (actW S1 i) i 4).toNatClampNeg = p := by rw [ea, n_cl (by omega)]
              have cho : actW S1 (i + 1) = chS (actW S1 i) i → ct_X1_choose B [.ref x, .ref (x + 3 + i)] M' (fun _ M'' => ∃ m', m' < 10 * (cn S1 - i) + 1 ∧ ∃ i' s' w', m' = 10 * (cn S1 - i') - 4 ∧ i' < cn S1 ∧ u = 1 ∧ (s' = 1 ∨ (s' = 0 ∧ actW S1 i' = S1 ∧ ∀ c, c < i' → sC S1 c 3 = 0 ∧ sC S1 c 4 = -1 ∧ chB S1 c (pn S1) = -1)) ∧ ((w' = 1 ∧ sC (actW S1 i') i' 3 = 0) ∨ w' = 0) ∧ ([some (.ref x), some (.int u), some (.int s), some (.int (nI i)), some (.ref (x + 3 + i)), some (.int 0), none] : fw_L) = [some (.ref x), some (.int u), some (.int s'), some (.int (nI i')), some (.ref (x + 3 + i')), some (.int w'), none] ∧ ([] : List Value) = [] ∧ Rep M''.1 x (actW S1 (i' + 1)) ∧ FX x M M'') (fun _ _ => False) := fun e9 =>
                ⟨_, actW S1 i, i, ⟨hE, hR', hWi⟩, hic, rfl, fun M'' g1 g2 => next _ hw M'' none rfl (by rw [e9]; exact g1) (FX_tr hF' g2)⟩
              refine And.intro kc (And.intro kx (And.intro hE (Exists.intro (pn S1) (And.intro hm24 (And.intro e3 (Or.inl (Exists.intro p (And.intro hp2 (And.intro (d4.trans ea) (And.intro kc (And.intro (fun g1 => And.intro kc (And.intro (fun g2 => ?_) (fun g2 => And.intro kp (And.intro (fun g3 => ?_) (fun g3 => ?_))))) (fun g1 => ?_))))))))))))
              · have g1 : ¬ M'.1 (x + 3 + i) 3 = 2 := g1
                have g2 : ¬ M'.1 (x + 3 + i) 3 = 1 := g2
                rw [d3] at g1 g2
                exact And.intro kx (cho (e_ch g1 (fun e => g2 e.1)))
              · have g1 : ¬ M'.1 (x + 3 + i) 3 = 2 := g1
                have g3 : ¬ M'.1 (x + 9 + 3 * p) 4 = 0 := g3
                rw [d3] at g1
                rw [q4] at g3
                exact And.intro kx (cho (e_ch g1 (fun e => g3 (by rw [← ep]; exact e.2))))
              · have g2 : M'.1 (x + 3 + i) 3 = 1 := g2
                have g3 : M'.1 (x + 9 + 3 * p) 4 = 0 := g3
                rw [d3] at g2
                rw [q4] at g3
                have e9 : actW S1 (i + 1) = goS (actW S1 i) i p := by
                  rw [eAct]; unfold actS; rw [if_neg (by rw [g2]; decide), if_pos ⟨g2, by rw [ep]; exact g3⟩, ep]
                exact And.intro kx (Exists.intro _ (Exists.intro (actW S1 i) (Exists.intro i (Exists.intro p (And.intro ⟨hE, hR', hWi⟩ (And.intro hic (And.intro hp (And.intro rfl (And.intro rfl (fun M'' g1 g2 => next _ hw M'' none rfl (by rw [e9]; exact g1) (FX_tr hF' g2)))))))))))
              · have g1 : M'.1 (x + 3 + i) 3 = 2 := g1
                rw [d3] at g1
                have e9 : actW S1 (i + 1) = carS (actW S1 i) i p := by
                  rw [eAct]; unfold actS; rw [if_pos g1, ep]
                exact And.intro kx (Exists.intro (b + i) (Exists.intro (actW S1 i) (Exists.intro i (Exists.intro p (And.intro (by omega) (And.intro ⟨hE, hR', hWi⟩ (And.intro hic (And.intro hp (And.intro rfl (And.intro rfl (And.intro rfl (fun M'' g1 g2 => next _ hw M'' none rfl (by rw [e9]; exact g1) (FX_tr hF' g2)))))))))))))
          · have g0 : M'.1 (x + 3 + i) 3 = 0 := g0
            rw [d3] at g0
            have hw : ((1 : Int32) = 1 ∧ sC (actW S1 i) i 3 = 0) ∨ (1 : Int32) = 0 := Or.inl ⟨rfl, g0⟩
            rcases (hWi.2.2.2.2.1 i hic).2 with ⟨f3, f4⟩ | ⟨p, hp, ea, hd⟩
            · refine And.intro kc (And.intro kx (And.intro hE (Exists.intro (pn S1) (And.intro hm24 (And.intro e3 (Or.inr (And.intro (fun k hk e => ?_) ?_)))))))
              · have e : M'.1 (x + 3 + i) 4 = nI k := e
                rw [d4, f4] at e
                exact m1_ne hk hm24 e
              · have e9 := e_ch (by rw [f3]; decide) (by rw [f3]; exact fun e => absurd e.1 (by decide))
                exact And.intro kx (Exists.intro _ (Exists.intro (actW S1 i) (Exists.intro i (And.intro ⟨hE, hR', hWi⟩ (And.intro hic (And.intro rfl (fun M'' g1 g2 => next _ hw M'' none rfl (by rw [e9]; exact g1) (FX_tr hF' g2))))))))
            · have hp2 : p < pn S1 := by rw [← hpn]; exact hp
              have kp := kP (p := p) hE (by omega)
              have q4 : M'.1 (x + 9 + 3 * p) 4 = sP (actW S1 i) p 4 := rP hR' hp (by decide)
              have ep : (sC (actW S1 i) i 4).toNatClampNeg = p := by rw [ea, n_cl (by omega)]
              have cho : actW S1 (i + 1) = chS (actW S1 i) i → ct_X1_choose B [.ref x, .ref (x + 3 + i)] M' (fun _ M'' => ∃ m', m' < 10 * (cn S1 - i) + 1 ∧ ∃ i' s' w', m' = 10 * (cn S1 - i') - 4 ∧ i' < cn S1 ∧ u = 1 ∧ (s' = 1 ∨ (s' = 0 ∧ actW S1 i' = S1 ∧ ∀ c, c < i' → sC S1 c 3 = 0 ∧ sC S1 c 4 = -1 ∧ chB S1 c (pn S1) = -1)) ∧ ((w' = 1 ∧ sC (actW S1 i') i' 3 = 0) ∨ w' = 0) ∧ ([some (.ref x), some (.int u), some (.int s), some (.int (nI i)), some (.ref (x + 3 + i)), some (.int 1), none] : fw_L) = [some (.ref x), some (.int u), some (.int s'), some (.int (nI i')), some (.ref (x + 3 + i')), some (.int w'), none] ∧ ([] : List Value) = [] ∧ Rep M''.1 x (actW S1 (i' + 1)) ∧ FX x M M'') (fun _ _ => False) := fun e9 =>
                ⟨_, actW S1 i, i, ⟨hE, hR', hWi⟩, hic, rfl, fun M'' g1 g2 => next _ hw M'' none rfl (by rw [e9]; exact g1) (FX_tr hF' g2)⟩
              refine And.intro kc (And.intro kx (And.intro hE (Exists.intro (pn S1) (And.intro hm24 (And.intro e3 (Or.inl (Exists.intro p (And.intro hp2 (And.intro (d4.trans ea) (And.intro kc (And.intro (fun g1 => And.intro kc (And.intro (fun g2 => ?_) (fun g2 => And.intro kp (And.intro (fun g3 => ?_) (fun g3 => ?_))))) (fun g1 => ?_))))))))))))
              · have g1 : ¬ M'.1 (x + 3 + i) 3 = 2 := g1
                have g2 : ¬ M'.1 (x + 3 + i) 3 = 1 := g2
                rw [d3] at g1 g2
                exact And.intro kx (cho (e_ch g1 (fun e => g2 e.1)))
              · have g1 : ¬ M'.1 (x + 3 + i) 3 = 2 := g1
                have g3 : ¬ M'.1 (x + 9 + 3 * p) 4 = 0 := g3
                rw [d3] at g1
                rw [q4] at g3
                exact And.intro kx (cho (e_ch g1 (fun e => g3 (by rw [← ep]; exact e.2))))
              · have g2 : M'.1 (x + 3 + i) 3 = 1 := g2
                have g3 : M'.1 (x + 9 + 3 * p) 4 = 0 := g3
                rw [d3] at g2
                rw [q4] at g3
                have e9 : actW S1 (i + 1) = goS (actW S1 i) i p := by
                  rw [eAct]; unfold actS; rw [if_neg (by rw [g2]; decide), if_pos ⟨g2, by rw [ep]; exact g3⟩, ep]
                exact And.intro kx (Exists.intro _ (Exists.intro (actW S1 i) (Exists.intro i (Exists.intro p (And.intro ⟨hE, hR', hWi⟩ (And.intro hic (And.intro hp (And.intro rfl (And.intro rfl (fun M'' g1 g2 => next _ hw M'' none rfl (by rw [e9]; exact g1) (FX_tr hF' g2)))))))))))
              · have g1 : M'.1 (x + 3 + i) 3 = 2 := g1
                rw [d3] at g1
                have e9 : actW S1 (i + 1) = carS (actW S1 i) i p := by
                  rw [eAct]; unfold actS; rw [if_pos g1, ep]
                exact And.intro kx (Exists.intro (b + i) (Exists.intro (actW S1 i) (Exists.intro i (Exists.intro p (And.intro (by omega) (And.intro ⟨hE, hR', hWi⟩ (And.intro hic (And.intro hp (And.intro rfl (And.intro rfl (And.intro rfl (fun M'' g1 g2 => next _ hw M'' none rfl (by rw [e9]; exact g1) (FX_tr hF' g2)))))))))))))
      · obtain ⟨i, s, w, rfl, hi, u1, hs, hw, rfl, rfl, hR', hF'⟩ := hi
        have hic : i < cn (actW S1 (i + 1)) := by rw [ac]; exact hi
        have d3 : M'.1 (x + 3 + i) 3 = sC (actW S1 (i + 1)) i 3 := rC hR' hic (by decide)
        have key : ∀ s' a z, a = none → z = none → (s' = 1 ∨ (s' = 0 ∧ actW S1 (i + 1) = S1 ∧ ∀ c, c < i + 1 → sC S1 c 3 = 0 ∧ sC S1 c 4 = -1 ∧ chB S1 c (pn S1) = -1)) → ∃ m', m' < 10 * (cn S1 - i) - 4 ∧ ∃ i' s'', m' = 10 * (cn S1 - i') + 1 ∧ i' ≤ cn S1 ∧ (u = 0 → i' = 0) ∧ (s'' = 1 ∨ (s'' = 0 ∧ actW S1 i' = S1 ∧ ∀ c, c < i' → sC S1 c 3 = 0 ∧ sC S1 c 4 = -1 ∧ chB S1 c (pn S1) = -1)) ∧ ([some (.ref x), some (.int u), some (.int s'), some (.int (nI i + 1)), a, z, none] : fw_L) = [some (.ref x), some (.int u), some (.int s''), some (.int (nI i')), none, none, none] ∧ ([] : List Value) = [] ∧ Rep M'.1 x (actW S1 i') ∧ FX x M M' := by
          rintro s' a z rfl rfl h9
          exact ⟨10 * (cn S1 - (i + 1)) + 1, by omega, i + 1, s', rfl, by omega, fun e => by rw [u1] at e; exact absurd e (by decide), h9, by rw [nI_1], rfl, hR', hF'⟩
        refine ⟨100, And.intro (fun g1 => ?_) (fun g1 => And.intro (fun g2 => ?_) (fun g2 => And.intro (kC hE (by omega)) (And.intro (fun g3 => ?_) (fun g3 => ?_))))⟩
        · exact key 1 none none rfl rfl (Or.inl rfl)
        · exact key 1 none none rfl rfl (Or.inl rfl)
        · have g1 : s = 0 := g1
          have g2 : ¬ w = 0 := g2
          have g3 : M'.1 (x + 3 + i) 3 = 0 := g3
          rw [d3] at g3
          obtain ⟨-, z2, z3⟩ := hs.resolve_left (fun e => by rw [g1] at e; exact absurd e (by decide))
          have f3 := (hw.resolve_right g2).2
          rw [z2] at f3
          have f4 : sC S1 i 4 = -1 := by
            rcases (hW1.2.2.2.2.1 i hi).2 with ⟨-, a⟩ | ⟨p, -, -, hd⟩
            · exact a
            · exfalso
              rcases hd with hd | hd
              · rw [f3] at hd; exact absurd hd (by decide)
              · rw [f3] at hd; exact absurd hd.1 (by decide)
          have ea : actW S1 (i + 1) = chS S1 i := by
            show actS (actW S1 i) i = _
            rw [z2]; unfold actS; rw [if_neg (by rw [f3]; decide), if_neg (by rw [f3]; exact fun e => absurd e.1 (by decide))]
          rw [ea] at g3
          have fb : chB S1 i (pn S1) = -1 := by
            unfold chS at g3
            rw [gCC (by decide) (by decide), if_neg (by omega), gCC (by decide) (by decide), if_pos ⟨rfl, rfl⟩] at g3
            by_cases z : chB S1 i (pn S1) = -1
            · exact z
            · rw [if_neg z] at g3; exact absurd g3 (by decide)
          refine key 0 none none rfl rfl (Or.inr ⟨rfl, ?_, fun c hc => ?_⟩)
          · rw [ea]; exact idle_ch f3 f4 fb
          · by_cases e : c = i
            · subst e; exact ⟨f3, f4, fb⟩
            · exact z3 c (by omega)
        · exact key 1 none none rfl rfl (Or.inl rfl)
  · exact h.elim
end TK

/-! AN EXCHANGE'S METHODS WALKED: carry, deliver, choose -/
section WX3
theorem Rep_row {x p : Nat} {M : fw_M} {S S0 : Sx} {m : Int32} (h : Rep M.1 x S0) (hp : p < 24) (e : S0 = S) : ∀ i, i ≤ 6 → Rep (fw_row M (x + 9 + 3 * p + 2) (cpN i (fun c => fsh S p m c) (M.1 (x + 9 + 3 * p + 2)))).1 x (shW S p m i) := by
  subst e
  intro i
  induction i with
  | zero => intro _; rw [cpN_0, row_self]; exact h
  | succ i ih =>
    intro hi
    have := Rep_S (c := i) (v := fsh S0 p m i) (ih (by omega)) hp (by omega)
    have e : fw_row M (x + 9 + 3 * p + 2) (cpN (i + 1) (fun c => fsh S0 p m c) (M.1 (x + 9 + 3 * p + 2))) = fw_st (fw_row M (x + 9 + 3 * p + 2) (cpN i (fun c => fsh S0 p m c) (M.1 (x + 9 + 3 * p + 2)))) (x + 9 + 3 * p + 2) i (fsh S0 p m i) := by
      rw [st_row, row_1, row_row, ← cpN_s]
    rw [e]
    exact this
theorem n2s : fw_sd (¬ (2 : Int32) = 0) := fw_sd_i (by decide)
theorem dl_rep {x p : Nat} {M : fw_M} {S : Sx} {t v w : Int32} (h : Rep M.1 x S) (hp : p < 24) (e1 : t = S 0) (e2 : v = payS S p) (e3 : w = S 6 + payS S p) : Rep (fw_st (fw_st (fw_st (fw_st M (x + 9 + 3 * p) 4 2) (x + 9 + 3 * p) 6 t) (x + 9 + 3 * p) 7 v) x 4 w).1 x (dl1 S p) := by
  subst e1; subst e2; subst e3
  exact Rep_4 (Rep_P (Rep_P (Rep_P h hp (by decide)) hp (by decide)) hp (by decide))
set_option maxRecDepth 100000 in
theorem wk_X1_deliver (B : Nat) : fw_Wk B fl_X1 (cal_X1_deliver B) [] cst_X1 none kX1_deliver 4 (ct_X1_deliver B) := by
  intro as M Q QX h
  unfold ct_X1_deliver at h
  split at h
  · rename_i x q
    obtain ⟨hE, S, p, k, hR, hS2, hp, rfl, hLG, hk, ek, h⟩ := h
    have hn6 : cn S ≤ 6 := hR.1
    have hm24 : pn S ≤ 24 := hR.2.1
    have hp24 : p < 24 := by omega
    have eL : ∀ x, 8 ≤ x → x < 14 → sP (dl1 S p) p x = sP S p x := fun x h1 h2 => by rw [dl1_P (by omega) (by omega) (by omega), if_neg (by omega)]
    have hLG2 : LG (dl1 S p) p := by
      obtain ⟨L, h1, h2⟩ := hLG
      exact ⟨L, fun c hc => ⟨(h1 c hc).1, by rw [eL _ (by omega) (by omega)]; exact (h1 c hc).2⟩, h2⟩
    have d2 : dl1 S p 2 = S 2 := dl1_lo (by decide)
    have dc : cn (dl1 S p) = cn S := cn_eq d2
    have dp : pn (dl1 S p) = pn S := pn_eq (dl1_lo (by decide))
    have d7 : sP (dl1 S p) p 7 = payS S p := by
      unfold dl1
      rw [gPu (by decide), gPP (by decide) (by decide), if_pos ⟨rfl, rfl⟩]
    refine ⟨rfl, [(60, [true, true, true, false], fun m ls st M' => ∃ i, m = cn S - i ∧ i ≤ cn S ∧ ls = [some (.ref x), some (.ref (x + 9 + 3 * p)), some (.int (nI i)), none] ∧ st = [] ∧ Rep M'.1 x (tipW (shW (dl1 S p) p (payS S p) 6) p i) ∧ FX x M M')], ⟨120, ?_⟩, ?_⟩
    · have f0 : (fw_st M (x + 9 + 3 * p) 4 2).1 x 0 = S 0 := by rw [st_o (by omega)]; exact r0 hR
      have rest : ∀ t v w, t = S 0 → v = payS S p → w = S 6 + payS S p → (PK B (x + 9 + 3 * p) ∧ ∃ S' p', LW (fw_st (fw_st (fw_st (fw_st M (x + 9 + 3 * p) 4 2) (x + 9 + 3 * p) 6 t) (x + 9 + 3 * p) 7 v) x 4 w) (x + 9 + 3 * p) S' p' ∧ ∃ m i, m = cn S - i ∧ i ≤ cn S ∧ [some (Value.ref x), some (Value.ref (x + 9 + 3 * p)), some (Value.int 0), none] = [some (.ref x), some (.ref (x + 9 + 3 * p)), some (.int (nI i)), none] ∧ ([] : List Value) = [] ∧ Rep (fw_row (fw_st (fw_st (fw_st (fw_st M (x + 9 + 3 * p) 4 2) (x + 9 + 3 * p) 6 t) (x + 9 + 3 * p) 7 v) x 4 w) (x + 9 + 3 * p + 2) (cpN 6 (fun c => fsh S' p' ((fw_st (fw_st (fw_st (fw_st M (x + 9 + 3 * p) 4 2) (x + 9 + 3 * p) 6 t) (x + 9 + 3 * p) 7 v) x 4 w).1 (x + 9 + 3 * p) 7) c) ((fw_st (fw_st (fw_st (fw_st M (x + 9 + 3 * p) 4 2) (x + 9 + 3 * p) 6 t) (x + 9 + 3 * p) 7 v) x 4 w).1 (x + 9 + 3 * p + 2)))).1 x (tipW (shW (dl1 S p) p (payS S p) 6) p i) ∧ FX x M (fw_row (fw_st (fw_st (fw_st (fw_st M (x + 9 + 3 * p) 4 2) (x + 9 + 3 * p) 6 t) (x + 9 + 3 * p) 7 v) x 4 w) (x + 9 + 3 * p + 2) (cpN 6 (fun c => fsh S' p' ((fw_st (fw_st (fw_st (fw_st M (x + 9 + 3 * p) 4 2) (x + 9 + 3 * p) 6 t) (x + 9 + 3 * p) 7 v) x 4 w).1 (x + 9 + 3 * p) 7) c) ((fw_st (fw_st (fw_st (fw_st M (x + 9 + 3 * p) 4 2) (x + 9 + 3 * p) 6 t) (x + 9 + 3 * p) 7 v) x 4 w).1 (x + 9 + 3 * p + 2))))) := by
        intro t v w e1 e2 e3
        have hR2 := dl_rep hR hp24 e1 e2 e3
        generalize hM1 : fw_st (fw_st (fw_st (fw_st M (x + 9 + 3 * p) 4 2) (x + 9 + 3 * p) 6 t) (x + 9 + 3 * p) 7 v) x 4 w = M1 at hR2
        have hF : FX x M M1 := by rw [← hM1]; exact FX_tr (fP hp24) (FX_tr (fP hp24) (FX_tr (fP hp24) fX))
        have e7 : M1.1 (x + 9 + 3 * p) 7 = payS S p := (rP hR2 (by rw [dp]; exact hp) (by decide)).trans d7
        refine ⟨PK_of hE hp24, dl1 S p, p, ⟨fun c hc => rL hR2 (by rw [dp]; exact hp) hc, hLG2⟩, cn S, 0, rfl, by omega, rfl, rfl, ?_, FX_tr hF (FX_row (by omega) (by omega))⟩
        rw [e7]
        exact Rep_row hR2 hp24 rfl 6 (Nat.le_refl 6)
      have g2 : ∀ t, (fw_st (fw_st M (x + 9 + 3 * p) 4 2) (x + 9 + 3 * p) 6 t).1 (x + 9 + 3 * p) 2 = sP S p 2 := fun t => by rw [st_n (by decide), st_n (by decide)]; exact rP hR hp (by decide)
      have g3 : ∀ t, (fw_st (fw_st M (x + 9 + 3 * p) 4 2) (x + 9 + 3 * p) 6 t).1 (x + 9 + 3 * p) 3 = sP S p 3 := fun t => by rw [st_n (by decide), st_n (by decide)]; exact rP hR hp (by decide)
      have g0 : ∀ t, (fw_st (fw_st M (x + 9 + 3 * p) 4 2) (x + 9 + 3 * p) 6 t).1 x 0 = S 0 := fun t => by rw [st_o (by omega), st_o (by omega)]; exact r0 hR
      have g4 : ∀ t v, (fw_st (fw_st (fw_st M (x + 9 + 3 * p) 4 2) (x + 9 + 3 * p) 6 t) (x + 9 + 3 * p) 7 v).1 x 4 = S 6 := fun t v => by rw [st_o (by omega), st_o (by omega), st_o (by omega)]; exact r4 hR
      have g7 : ∀ t v, (fw_st (fw_st (fw_st M (x + 9 + 3 * p) 4 2) (x + 9 + 3 * p) 6 t) (x + 9 + 3 * p) 7 v).1 (x + 9 + 3 * p) 7 = v := fun t v => st_s
      have kp := kP hE hp24
      have kx := kX hE
      refine And.intro kp (And.intro kx (And.intro kp (And.intro kx (And.intro kp (And.intro (fun h1 => ?_) (fun h1 => ?_))))))
      · have h1 : (fw_st (fw_st M (x + 9 + 3 * p) 4 2) (x + 9 + 3 * p) 6 ((fw_st M (x + 9 + 3 * p) 4 2).1 x 0)).1 (x + 9 + 3 * p) 2 < (fw_st (fw_st M (x + 9 + 3 * p) 4 2) (x + 9 + 3 * p) 6 ((fw_st M (x + 9 + 3 * p) 4 2).1 x 0)).1 x 0 := h1
        rw [g2, g0] at h1
        have ev : (fw_st (fw_st M (x + 9 + 3 * p) 4 2) (x + 9 + 3 * p) 6 ((fw_st M (x + 9 + 3 * p) 4 2).1 x 0)).1 (x + 9 + 3 * p) 3 / 2 = payS S p := by
          rw [g3]; unfold payS; rw [if_neg (Int32.not_le.mpr h1)]
        refine And.intro kp (And.intro n2s (And.intro kp (And.intro kx (And.intro kp (And.intro kx (And.intro kp ?_))))))
        exact rest _ _ _ f0 ev (by rw [← ev]; exact (congr (congrArg HAdd.hAdd (g4 _ _)) (g7 _ _)))
      · have h1 : ¬ (fw_st (fw_st M (x + 9 + 3 * p) 4 2) (x + 9 + 3 * p) 6 ((fw_st M (x + 9 + 3 * p) 4 2).1 x 0)).1 (x + 9 + 3 * p) 2 < (fw_st (fw_st M (x + 9 + 3 * p) 4 2) (x + 9 + 3 * p) 6 ((fw_st M (x + 9 + 3 * p) 4 2).1 x 0)).1 x 0 := h1
        rw [g2, g0] at h1
        have ev : (fw_st (fw_st M (x + 9 + 3 * p) 4 2) (x + 9 + 3 * p) 6 ((fw_st M (x + 9 + 3 * p) 4 2).1 x 0)).1 (x + 9 + 3 * p) 3 = payS S p := by
          rw [g3]; unfold payS; rw [if_pos (Int32.not_lt.mp h1)]
        refine And.intro kp (And.intro kp (And.intro kx (And.intro kp (And.intro kx (And.intro kp ?_)))))
        exact rest _ _ _ f0 ev (by rw [← ev]; exact (congr (congrArg HAdd.hAdd (g4 _ _)) (g7 _ _)))
    · intro q hq m ls st M' hi
      cases List.mem_singleton.mp hq
      obtain ⟨i, rfl, hi, rfl, rfl, hR', hF'⟩ := hi
      have t2 : tipW (shW (dl1 S p) p (payS S p) 6) p i 2 = S 2 := by rw [tipW_lo (by decide), shW_lo (by decide)]; exact d2
      have tc : cn (tipW (shW (dl1 S p) p (payS S p) 6) p i) = cn S := cn_eq t2
      have tp : pn (tipW (shW (dl1 S p) p (payS S p) 6) p i) = pn S := pn_eq (by rw [tipW_lo (by decide), shW_lo (by decide)]; exact dl1_lo (by decide))
      have e2 : M'.1 x 2 = nI (cn S) := by rw [r2 hR', t2]; exact hS2
      refine ⟨80, And.intro (kX hE) (And.intro (fun h1 => ?_) (fun h1 => ?_))⟩
      · have h1 : M'.1 x 2 ≤ nI i := h1
        rw [e2, n_ge (by omega) (by omega)] at h1
        rw [show i = cn S by omega] at hR'
        refine h M' ?_ hF'
        unfold shareS
        rw [dc]
        exact hR'
      · have h1 : ¬ M'.1 x 2 ≤ nI i := h1
        rw [e2, n_ge (by omega) (by omega)] at h1
        refine And.intro (kX hE) (And.intro hE (Exists.intro (cn S) (And.intro hn6 (And.intro e2 (Or.inl (Exists.intro i (And.intro (by omega) (And.intro rfl ?_))))))))
        have v2 : M'.1 (x + 3 + i) 2 = sC (tipW (shW (dl1 S p) p (payS S p) 6) p i) i 2 := rC hR' (by rw [tc]; omega) (by decide)
        have vs : M'.1 (x + 9 + 3 * p + 2) i = sP (tipW (shW (dl1 S p) p (payS S p) 6) p i) p (14 + i) := rS hR' (by rw [tp]; exact hp) (by omega)
        refine And.intro (kC hE (by omega)) (And.intro (kP hE hp24) (And.intro (PK_of hE hp24) (Exists.intro i (And.intro (by omega) (And.intro rfl (And.intro (kC hE (by omega)) ?_))))))
        refine Exists.intro (cn S - (i + 1)) (And.intro (by omega) (Exists.intro (i + 1) ⟨rfl, by omega, ?_, rfl, ?_, FX_tr hF' (fC (by omega))⟩))
        · show [some (Value.ref x), some (Value.ref (x + 9 + 3 * p)), some (Value.int (nI i + 1)), none] = _
          rw [nI_1]
        · show Rep (fw_st M' (x + 3 + i) 2 (M'.1 (x + 3 + i) 2 + M'.1 (x + 9 + 3 * p + 2) i)).1 x _
          rw [v2, vs]
          exact Rep_C hR' (by omega) (by decide)
  · exact h.elim
theorem LG_leg {b : Nat} {S : Sx} {c p : Nat} {z : Int32} (hb : b < 50000) (h : WFp b S p) (hc : c < 6) : LG (legS S c p z) p := by
  obtain ⟨kc, hkc, ekc⟩ := h.2.2.2.2.2 c hc
  have hch : ∀ d, ∃ k, d < 6 → k ≤ b + 1 ∧ sP (legS S c p z) p (8 + d) = nI k := fun d => by
    by_cases hd : d < 6
    · obtain ⟨kd, h1, h2⟩ := h.2.2.2.2.2 d hd
      by_cases e : d = c
      · refine ⟨kc + 1, fun _ => ⟨by omega, ?_⟩⟩
        rw [legS_P hc (by omega), if_pos ⟨rfl, by omega⟩, ekc, nI_1]
      · refine ⟨kd, fun _ => ⟨by omega, ?_⟩⟩
        rw [legS_P hc (by omega), if_neg (by omega), if_neg (by omega), h2]
    · exact ⟨0, fun z => absurd z hd⟩
  obtain ⟨L, hL⟩ := Classical.axiomOfChoice hch
  refine ⟨L, fun d hd => ⟨by have := (hL d hd).1; omega, (hL d hd).2⟩, c, hc, ?_⟩
  have h9 := hL c hc
  rw [legS_P hc (by omega), if_pos ⟨rfl, rfl⟩, ekc, nI_1, nI_eq (by omega) (by omega)] at h9
  omega
set_option maxRecDepth 100000 in
theorem wk_X1_carry (B : Nat) : fw_Wk B fl_X1 (cal_X1_carry B) [] cst_X1 none kX1_carry 5 (ct_X1_carry B) := by
  intro as M Q QX h
  unfold ct_X1_carry at h
  split at h
  · rename_i x y u q
    obtain ⟨b, S, c, p, hb, ⟨hE, hR, hW⟩, hc, hp, rfl, rfl, rfl, h⟩ := h
    have hn6 : cn S ≤ 6 := hW.2.1
    have hm24 : pn S ≤ 24 := hW.2.2.2.1
    have hc6 : c < 6 := by omega
    have hp24 : p < 24 := by omega
    have kc := kC hE hc6
    have kp := kP hE hp24
    have kx := kX hE
    have e1 : M.1 (x + 3 + c) 1 = sC S c 1 := rC hR hc (by decide)
    have e0 : M.1 (x + 3 + c) 0 = sC S c 0 := rC hR hc (by decide)
    have e5 : M.1 (x + 9 + 3 * p) 1 = sP S p 1 := rP hR hp (by decide)
    obtain ⟨z, hz, ez⟩ := (hW.2.2.2.2.1 c hc).1
    obtain ⟨o, d, -, hd, -, -, ed⟩ := (hW.2.2.2.2.2.2 p hp).1
    obtain ⟨k, hk, ek⟩ := (hW.2.2.2.2.2.2 p hp).2.2.1
    have en : nxz (M.1 (x + 3 + c) 1) (M.1 (x + 9 + 3 * p) 1) = nxz (sC S c 1) (sP S p 1) := by rw [e1, e5]
    unfold carS at h
    refine ⟨rfl, [], ⟨120, And.intro kc (And.intro kp (Exists.intro z (Exists.intro d (And.intro hz (And.intro hd (And.intro (e1.trans ez) (And.intro (e5.trans ed) (And.intro kc (And.intro (fun h1 => ?_) (fun h1 => ?_))))))))))⟩, nofun⟩
    · have h1 : hs (M.1 (x + 3 + c) 0) (nxz (M.1 (x + 3 + c) 1) (M.1 (x + 9 + 3 * p) 1)) = true := bi_n0.mp h1
      rw [e0, en] at h1
      rw [if_pos h1] at h
      have key : ∀ v m l, v = nxz (sC S c 1) (sP S p 1) → m = S 5 + 1 → l = sP S p (8 + c) + 1 → Rep (fw_st (fw_st (fw_st (fw_st M (x + 3 + c) 1 v) x 6 m) (x + 9 + 3 * p) 5 v) (x + 9 + 3 * p + 1) c l).1 x (legS S c p (nxz (sC S c 1) (sP S p 1))) := by
        rintro _ _ _ rfl rfl rfl
        exact Rep_L (Rep_P (Rep_6 (Rep_C hR hc6 (by decide))) hp24 (by decide)) hp24 hc6
      have kf : ∀ v m l, FX x M (fw_st (fw_st (fw_st (fw_st M (x + 3 + c) 1 v) x 6 m) (x + 9 + 3 * p) 5 v) (x + 9 + 3 * p + 1) c l) := fun v m l => FX_tr (fC hc6) (FX_tr fX (FX_tr (fP hp24) (FX_st (by omega) (by omega))))
      have g6 : ∀ v, (fw_st M (x + 3 + c) 1 v).1 x 6 + 1 = S 5 + 1 := fun v => by rw [st_o (by omega), r6 hR]
      have gl : ∀ v m, (fw_st (fw_st (fw_st M (x + 3 + c) 1 v) x 6 m) (x + 9 + 3 * p) 5 v).1 (x + 9 + 3 * p + 1) c + 1 = sP S p (8 + c) + 1 := fun v m => by rw [st_o (by omega), st_o (by omega), st_o (by omega), rL hR hp hc6]
      have hRl := key (nxz (M.1 (x + 3 + c) 1) (M.1 (x + 9 + 3 * p) 1)) ((fw_st M (x + 3 + c) 1 (nxz (M.1 (x + 3 + c) 1) (M.1 (x + 9 + 3 * p) 1))).1 x 6 + 1) ((fw_st (fw_st (fw_st M (x + 3 + c) 1 (nxz (M.1 (x + 3 + c) 1) (M.1 (x + 9 + 3 * p) 1))) x 6 ((fw_st M (x + 3 + c) 1 (nxz (M.1 (x + 3 + c) 1) (M.1 (x + 9 + 3 * p) 1))).1 x 6 + 1)) (x + 9 + 3 * p) 5 (nxz (M.1 (x + 3 + c) 1) (M.1 (x + 9 + 3 * p) 1))).1 (x + 9 + 3 * p + 1) c + 1) en (g6 _) (gl _ _)
      have hFl := kf (nxz (M.1 (x + 3 + c) 1) (M.1 (x + 9 + 3 * p) 1)) ((fw_st M (x + 3 + c) 1 (nxz (M.1 (x + 3 + c) 1) (M.1 (x + 9 + 3 * p) 1))).1 x 6 + 1) ((fw_st (fw_st (fw_st M (x + 3 + c) 1 (nxz (M.1 (x + 3 + c) 1) (M.1 (x + 9 + 3 * p) 1))) x 6 ((fw_st M (x + 3 + c) 1 (nxz (M.1 (x + 3 + c) 1) (M.1 (x + 9 + 3 * p) 1))).1 x 6 + 1)) (x + 9 + 3 * p) 5 (nxz (M.1 (x + 3 + c) 1) (M.1 (x + 9 + 3 * p) 1))).1 (x + 9 + 3 * p + 1) c + 1)
      have lcn : cn (legS S c p (nxz (sC S c 1) (sP S p 1))) = cn S := cn_eq (legS_lo (by decide))
      have lpn : pn (legS S c p (nxz (sC S c 1) (sP S p 1))) = pn S := pn_eq (legS_lo (by decide))
      have l1 : sP (legS S c p (nxz (sC S c 1) (sP S p 1))) p 1 = sP S p 1 := by rw [legS_P hc6 (by decide), if_neg (by omega), if_neg (by omega)]
      have l3 : sP (legS S c p (nxz (sC S c 1) (sP S p 1))) p 3 = nI k := by rw [legS_P hc6 (by decide), if_neg (by omega), if_neg (by omega)]; exact ek
      refine And.intro kc (And.intro kx (And.intro kx (And.intro kp (And.intro kp (And.intro (PK_of hE hp24) (Exists.intro c (And.intro hc6 (And.intro rfl (And.intro kp ?_)))))))))
      have rq := rP hRl (p := p) (w := 1) (by rw [lpn]; exact hp) (by decide)
      rw [l1] at rq
      refine And.intro (fun h2 => ?_) (fun h2 => ?_)
      · have h2 := fun e => h2 (Eq.trans en (Eq.trans e rq.symm))
        rw [if_neg h2] at h
        exact h _ hRl hFl
      · have h2 : nxz (sC S c 1) (sP S p 1) = sP S p 1 := en.symm.trans (h2.trans rq)
        rw [if_pos h2] at h
        refine And.intro kx (And.intro hE (Exists.intro (legS S c p (nxz (sC S c 1) (sP S p 1))) (Exists.intro p (Exists.intro k (And.intro hRl (And.intro ?_ (And.intro (by rw [lpn]; exact hp) (And.intro rfl (And.intro (LG_leg hb (hW.2.2.2.2.2.2 p hp) hc6) (And.intro hk (And.intro l3 ?_)))))))))))
        · rw [lcn, legS_lo (by decide)]; exact hW.1
        · intro M4 hR4 hF4
          refine And.intro kc (And.intro kc (h _ ?_ (FX_tr hFl (FX_tr hF4 (F_free hc6)))))
          rw [delS_eq]
          exact Rep_free hR4 hc6
    · have h1 : hs (M.1 (x + 3 + c) 0) (nxz (M.1 (x + 3 + c) 1) (M.1 (x + 9 + 3 * p) 1)) = false := bi_0.mp h1
      rw [e0, en] at h1
      rw [if_neg (by rw [h1]; decide)] at h
      have key : ∀ v, v = S 4 + 1 → Q none (fw_st (fw_st (fw_st (fw_st M (x + 9 + 3 * p) 4 0) x 5 v) (x + 3 + c) 3 0) (x + 3 + c) 4 (-1)) := by
        rintro _ rfl
        exact h _ (Rep_free (Rep_5 (Rep_P hR hp24 (by decide))) hc6) (FX_tr (fP hp24) (FX_tr fX (F_free hc6)))
      refine And.intro kp (And.intro kx (And.intro kx (And.intro kc (And.intro kc (key _ ?_)))))
      show (fw_st M (x + 9 + 3 * p) 4 0).1 x 5 + 1 = _
      rw [st_o (by omega), r5 hR]
  · exact h.elim
end WX3

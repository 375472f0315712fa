/-! THE RING WALKED: save, restore -/
section WH2
theorem pl_dj {B k k' : Nat} (h : k ≠ k') : pl B k + 81 ≤ pl B k' ∨ pl B k' + 81 ≤ pl B k := by unfold pl; omega
theorem pl_lo {B k : Nat} (h : k < 4) : B + 165 ≤ pl B k ∧ pl B k + 81 ≤ B + 489 := by unfold pl; omega
/-- a state written at the place behind the newest -/
theorem HS_put {B o n : Nat} {M M' M'' : fw_M} {H : Nat → Sx} {S : Sx} (ho : o < 4) (hn : n < 4) (e1 : M.1 (B + 163) 1 = nI o) (hR : ∀ i, i < n → Rep M.1 (pl B ((o + i) % 4)) (H i))
    (g1 : Rep M'.1 (pl B ((o + n) % 4)) S) (g2 : FX (pl B ((o + n) % 4)) M M') (e : M'' = fw_st M' (B + 163) 2 (nI (n + 1))) :
    HS B M'' (n + 1) (fun i => if i = n then S else H i) ∧ (∀ c, c < B + 163 ∨ B + 489 ≤ c → M''.1 c = M.1 c) ∧ M''.2 = M.2 := by
  subst e
  have hk := pl_lo (B := B) (Nat.mod_lt (o + n) (by decide : 0 < 4))
  refine ⟨⟨o, ho, ?_, st_s, by omega, fun i hi => ?_⟩, fun c hc => ?_, g2.2⟩
  · rw [st_n (by decide), g2.1 _ (by omega)]; exact e1
  · by_cases e : i = n
    · subst e
      dsimp only
      rw [if_pos rfl]
      exact Rep_fr g1 (fun c h1 h2 => st_o (by omega))
    · dsimp only
      rw [if_neg e]
      have hj := pl_lo (B := B) (Nat.mod_lt (o + i) (by decide : 0 < 4))
      have hd := pl_dj (B := B) (k := (o + n) % 4) (k' := (o + i) % 4) (by omega)
      exact Rep_fr (hR i (by omega)) (fun c h1 h2 => by rw [st_o (by omega), g2.1 c (by omega)])
  · rw [st_o (by omega), g2.1 c (by omega)]
theorem pl_1 {B k : Nat} (h : k < 4) : pl B k ≠ B + 1 := by unfold pl; omega
set_option maxRecDepth 100000 in
theorem wk_X2_save (B : Nat) : fw_Wk B fl_X2 (cal_X2_save B) [] cst_X2 none kX2_save 3 (ct_X2_save B) := by
  intro as M Q QX h
  unfold ct_X2_save at h
  split at h
  · obtain ⟨rfl, rfl, b, S, n, H, ⟨o, ho, e1, e2, hn, hR⟩, ⟨hE, hRx, hW⟩, h⟩ := h
    have kk := k163 (B := B)
    refine ⟨rfl, [], ⟨100, And.intro kk (And.intro (fun h1 => ?_) (fun h1 => ?_))⟩, nofun⟩
    · have h1 : M.1 (B + 163) 2 < nI 4 := h1
      rw [e2, n_lt (by omega) (by decide)] at h1
      have hk : (o + n) % 4 < 4 := Nat.mod_lt _ (by decide)
      refine And.intro kk (And.intro kk (And.intro rfl (Exists.intro o (Exists.intro n (And.intro ho (And.intro h1 (And.intro e1 (And.intro e2 ?_))))))))
      refine And.intro (kX (EX_pl hk)) (And.intro (EX_pl hk) (And.intro (pl_1 hk) (Exists.intro b (Exists.intro S (And.intro ⟨hE, hRx, hW⟩ ?_)))))
      intro M' g1 g2
      have hl := pl_lo (B := B) hk
      have ec : M'.1 (B + 163) 2 + 1 = nI (n + 1) := by rw [g2.1 _ (by omega), e2, nI_1]
      obtain ⟨a1, a2, a3⟩ := HS_put (M'' := fw_st M' (B + 163) 2 (M'.1 (B + 163) 2 + 1)) ho h1 e1 hR g1 g2 (by rw [ec])
      refine And.intro kk (And.intro kk (h _ ?_ a2 a3))
      have ep : phN n = n + 1 := by unfold phN; rw [if_neg (by omega)]
      have eh : phH n H S = fun i => if i = n then S else H i := by funext i; unfold phH; rw [if_neg (by omega)]
      rw [ep, eh]
      exact a1
    · have h1 : ¬ M.1 (B + 163) 2 < nI 4 := h1
      rw [e2, n_lt (by omega) (by decide)] at h1
      have en : n = 4 := by omega
      subst en
      have ev : M.1 (B + 163) 1 + 1 - (M.1 (B + 163) 1 + 1) / 4 * 4 = nI ((o + 1) % 4) := by rw [e1]; exact ring_n o ho 1 (by decide)
      have f2 : (fw_st M (B + 163) 1 (M.1 (B + 163) 1 + 1 - (M.1 (B + 163) 1 + 1) / 4 * 4)).1 (B + 163) 2 - 1 = nI 3 := by rw [st_n (by decide), e2]; rfl
      have key : ∀ M1, M1 = fw_st (fw_st M (B + 163) 1 (nI ((o + 1) % 4))) (B + 163) 2 (nI 3) → M1.1 (B + 163) 1 = nI ((o + 1) % 4) ∧ M1.1 (B + 163) 2 = nI 3 ∧ Rep M1.1 (B + 1) S ∧ (∀ i, i < 3 → Rep M1.1 (pl B (((o + 1) % 4 + i) % 4)) (H (i + 1))) ∧ (∀ c, c < B + 163 ∨ B + 489 ≤ c → M1.1 c = M.1 c) ∧ M1.2 = M.2 := by
        rintro _ rfl
        refine ⟨by rw [st_n (by decide), st_s], st_s, Rep_fr hRx (fun c h1 h2 => by rw [st_o (by omega), st_o (by omega)]), fun i hi => ?_, fun c hc => by rw [st_o (by omega), st_o (by omega)], rfl⟩
        have hj := pl_lo (B := B) (Nat.mod_lt ((o + 1) % 4 + i) (by decide : 0 < 4))
        have := hR (i + 1) (by omega)
        rw [show (o + (i + 1)) % 4 = ((o + 1) % 4 + i) % 4 by omega] at this
        exact Rep_fr this (fun c h1 h2 => by rw [st_o (by omega), st_o (by omega)])
      obtain ⟨k1, k2, k3, k4, k5, k6⟩ := key (fw_st (fw_st M (B + 163) 1 (M.1 (B + 163) 1 + 1 - (M.1 (B + 163) 1 + 1) / 4 * 4)) (B + 163) 2 ((fw_st M (B + 163) 1 (M.1 (B + 163) 1 + 1 - (M.1 (B + 163) 1 + 1) / 4 * 4)).1 (B + 163) 2 - 1)) (by rw [f2, ev])
      have ho' : (o + 1) % 4 < 4 := Nat.mod_lt _ (by decide)
      have hk : ((o + 1) % 4 + 3) % 4 < 4 := Nat.mod_lt _ (by decide)
      refine And.intro kk (And.intro n4s (And.intro kk (And.intro kk (And.intro kk (And.intro kk (And.intro kk (And.intro rfl (Exists.intro ((o + 1) % 4) (Exists.intro 3 (And.intro ho' (And.intro (by decide) (And.intro k1 (And.intro k2 ?_)))))))))))))
      refine And.intro (kX (EX_pl hk)) (And.intro (EX_pl hk) (And.intro (pl_1 hk) (Exists.intro b (Exists.intro S (And.intro ⟨hE, k3, hW⟩ ?_)))))
      intro M' g1 g2
      have hl := pl_lo (B := B) hk
      have ec : M'.1 (B + 163) 2 + 1 = nI (3 + 1) := by rw [g2.1 _ (by omega), k2]; rfl
      obtain ⟨a1, a2, a3⟩ := HS_put (n := 3) (M'' := fw_st M' (B + 163) 2 (M'.1 (B + 163) 2 + 1)) (H := fun i => H (i + 1)) ho' (by decide) k1 k4 g1 g2 (by rw [ec])
      refine And.intro kk (And.intro kk (h _ ?_ (fun c hc => (a2 c hc).trans (k5 c hc)) (a3.trans k6)))
      have eh : phH 4 H S = fun i => if i = 3 then S else H (i + 1) := by funext i; unfold phH; rw [if_pos rfl]
      rw [eh]
      exact a1
  · exact h.elim
end WH2

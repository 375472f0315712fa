/-! NOTHING BEHIND THE ROW CHANGES -/
section HI
theorem uC_hi {S : Sx} {c w k : Nat} {v : Int32} (hc : c < 6) (hw : w < 5) (hk : 517 ≤ k) : uC S c w v k = S k := upd_n (by omega)
theorem uP_hi {S : Sx} {p w k : Nat} {v : Int32} (hp : p < 24) (hw : w < 20) (hk : 517 ≤ k) : uP S p w v k = S k := upd_n (by omega)
theorem frS_hi {S : Sx} {c k : Nat} (hc : c < 6) (hk : 517 ≤ k) : frS S c k = S k := by
  unfold frS; rw [uC_hi hc (by decide) hk, uC_hi hc (by decide) hk]
theorem shW_hi {S : Sx} {p k : Nat} {m : Int32} (hp : p < 24) (hk : 517 ≤ k) : ∀ i, i ≤ 6 → shW S p m i k = S k := by
  intro i
  induction i with
  | zero => intro _; rfl
  | succ i ih => intro hi; unfold shW; rw [uP_hi hp (by omega) hk, ih (by omega)]
theorem tipW_hi {S : Sx} {p k : Nat} (hk : 517 ≤ k) : ∀ i, i ≤ 6 → tipW S p i k = S k := by
  intro i
  induction i with
  | zero => intro _; rfl
  | succ i ih => intro hi; unfold tipW; rw [uC_hi (by omega) (by decide) hk, ih (by omega)]
theorem shareS_hi {S : Sx} {p k : Nat} {m : Int32} (hp : p < 24) (hn : cn S ≤ 6) (hk : 517 ≤ k) : shareS S p m k = S k := by
  unfold shareS; rw [tipW_hi hk _ hn, shW_hi hp hk 6 (Nat.le_refl 6)]
theorem delS_hi {S : Sx} {c p k : Nat} (hc : c < 6) (hp : p < 24) (hn : cn S ≤ 6) (hk : 517 ≤ k) : delS S c p k = S k := by
  rw [delS_eq, frS_hi hc hk, shareS_hi hp (by rw [cn_eq (dl1_lo (by decide))]; exact hn) hk]
  unfold dl1
  rw [upd_n (by omega), uP_hi hp (by decide) hk, uP_hi hp (by decide) hk, uP_hi hp (by decide) hk]
theorem legS_hi {S : Sx} {c p k : Nat} {z : Int32} (hc : c < 6) (hp : p < 24) (hk : 517 ≤ k) : legS S c p z k = S k := by
  unfold legS
  rw [uP_hi hp (by omega) hk, uP_hi hp (by decide) hk, upd_n (by omega), uC_hi hc (by decide) hk]
theorem carS_hi {S : Sx} {c p k : Nat} (hc : c < 6) (hp : p < 24) (hn : cn S ≤ 6) (hk : 517 ≤ k) : carS S c p k = S k := by
  unfold carS
  split
  · split
    · rw [delS_hi hc hp (by rw [cn_eq (legS_lo (by decide))]; exact hn) hk, legS_hi hc hp hk]
    · exact legS_hi hc hp hk
  · rw [frS_hi hc hk, upd_n (by omega), uP_hi hp (by decide) hk]
theorem goS_hi {S : Sx} {c p k : Nat} (hc : c < 6) (hp : p < 24) (hk : 517 ≤ k) : goS S c p k = S k := by
  unfold goS
  split
  · rw [uP_hi hp (by decide) hk, uC_hi hc (by decide) hk]
  · rw [upd_n (by omega), uC_hi hc (by decide) hk]
theorem chS_hi {S : Sx} {c k : Nat} (hc : c < 6) (hk : 517 ≤ k) : chS S c k = S k := by
  unfold chS; rw [uC_hi hc (by decide) hk, uC_hi hc (by decide) hk]
theorem actS_hi {b : Nat} {S : Sx} {c k : Nat} (h : WF b S) (hc : c < cn S) (hk : 517 ≤ k) : actS S c k = S k := by
  have hn := h.2.1
  have hm := h.2.2.2.1
  unfold actS
  split
  · rename_i e
    obtain ⟨p, hp, -, e2⟩ := WF_with h hc (by rw [e]; decide)
    rw [e2]; exact carS_hi (by omega) (by omega) hn hk
  · split
    · rename_i e
      obtain ⟨p, hp, -, e2⟩ := WF_with h hc (by rw [e.1]; decide)
      rw [e2]; exact goS_hi (by omega) (by omega) hk
    · exact chS_hi (by omega) hk
theorem actW_hi {b : Nat} {S : Sx} {k : Nat} (h : WF b S) (hk : 517 ≤ k) : ∀ i, i ≤ cn S → actW S i k = S k := by
  intro i
  induction i with
  | zero => intro _; rfl
  | succ i ih =>
    intro hi
    unfold actW
    have hw := WF_actW h i (by omega)
    rw [actS_hi hw (by rw [cn_eq (actW_lo (by decide) i)]; omega) hk, ih (by omega)]
theorem frW_hi {S : Sx} {p k : Nat} (hk : 517 ≤ k) : ∀ i, i ≤ 6 → frW S p i k = S k := by
  intro i
  induction i with
  | zero => intro _; rfl
  | succ i ih =>
    intro hi
    unfold frW
    split
    · rw [frS_hi (by omega) hk, ih (by omega)]
    · exact ih (by omega)
theorem faiS_hi {S : Sx} {p k : Nat} (hp : p < 24) (hn : cn S ≤ 6) (hk : 517 ≤ k) : faiS S p k = S k := by
  unfold faiS; rw [frW_hi hk _ hn, uP_hi hp (by decide) hk]
theorem flW_hi {S : Sx} {k : Nat} (hn : cn S ≤ 6) (hk : 517 ≤ k) : ∀ i, i ≤ 24 → flW S i k = S k := by
  intro i
  induction i with
  | zero => intro _; rfl
  | succ i ih =>
    intro hi
    unfold flW
    split
    · rw [faiS_hi (by omega) (by rw [cn_eq (flW_lo (by decide) i)]; exact hn) hk, ih (by omega)]
    · exact ih (by omega)
theorem tickS_hi {b : Nat} {S : Sx} {k : Nat} (h : WF b S) (hk : 517 ≤ k) : tickS S k = S k := by
  have e : cn (upd S 0 (S 0 + 1)) = cn S := cn_eq (upd_n (by decide))
  have hw := WF_time (S 0 + 1) h
  have hA : cn (tkA S) = cn S := cn_eq (tkA_lo (by decide) (by decide))
  unfold tickS
  rw [flW_hi (by rw [hA]; exact h.2.1) hk _ (by first | exact h.2.2.2.1 | (rw [pn_eq (tkA_lo (by decide) (by decide))]; exact h.2.2.2.1))]
  unfold tkA
  rw [← e, actW_hi hw hk _ (Nat.le_refl _), upd_n (by omega)]
theorem tkN_hi {b : Nat} {S : Sx} {k : Nat} (h : WF b S) (hk : 517 ≤ k) : ∀ n, tkN S n k = S k := by
  intro n
  induction n with
  | zero => rfl
  | succ n ih => unfold tkN; rw [tickS_hi (WF_tkN h n) hk, ih]
/-! the time -/
theorem tickS_0 {S : Sx} : tickS S 0 = S 0 + 1 := by
  unfold tickS tkA
  rw [flW_lo (by decide), actW_lo (by decide), upd_s]
theorem tkN_0 {S : Sx} {t : Nat} (h : S 0 = nI t) : ∀ n, tkN S n 0 = nI (t + n) := by
  intro n
  induction n with
  | zero => exact h
  | succ n ih => unfold tkN; rw [tickS_0, ih, nI_1]; rfl
theorem tkN_lo {S : Sx} {k : Nat} (h : k < 4) (h0 : k ≠ 0) : ∀ n, tkN S n k = S k := by
  intro n
  induction n with
  | zero => rfl
  | succ n ih => unfold tkN; rw [tickS_lo h h0, ih]
theorem GS_tkN {S : Sx} {n t : Nat} (h : WF (6 * t) S) (h0 : S 0 = nI t) (hz : ∀ k, 517 ≤ k → S k = 0) (ht : t + n ≤ 2000) : GS (tkN S n) := by
  refine ⟨t + n, ht, tkN_0 h0 n, ?_, fun k hk => by rw [tkN_hi h hk]; exact hz k hk⟩
  rw [Nat.mul_add]
  exact WF_tkN h n
/-! what the calls of the face leave well -/
theorem WF_area {b : Nat} {S : Sx} {c : Nat} {v : Int32} (h : WF b S) (hc : c < 6) : WF b (uC S c 0 v) := by
  obtain ⟨h2, hn, h3, hm, hC, hU, hP⟩ := h
  have e2 : cn (uC S c 0 v) = cn S := cn_eq (uC_lo (by decide))
  have e3 : pn (uC S c 0 v) = pn S := pn_eq (uC_lo (by decide))
  have eC : ∀ d x, x < 5 → x ≠ 0 → sC (uC S c 0 v) d x = sC S d x := fun d x hx h0 => by rw [gCC hx (by decide), if_neg (fun z => h0 z.2)]
  have eP : ∀ p x, sP (uC S c 0 v) p x = sP S p x := fun p x => gPC hc (by decide)
  refine ⟨by rw [e2, uC_lo (by decide)]; exact h2, by rw [e2]; exact hn, by rw [e3, uC_lo (by decide)]; exact h3, by rw [e3]; exact hm, fun d hd => ?_, fun d e hd he => ?_, fun p hp => ?_⟩
  · rw [e2] at hd
    have := hC d hd
    unfold WFc at this ⊢
    rw [eC d 1 (by decide) (by decide), eC d 3 (by decide) (by decide), eC d 4 (by decide) (by decide), e3]
    simp only [eP]
    exact this
  · rw [e2] at hd he
    rw [eC d 3 (by decide) (by decide), eC e 3 (by decide) (by decide), eC d 4 (by decide) (by decide), eC e 4 (by decide) (by decide)]
    exact hU d e hd he
  · rw [e3] at hp
    have := hP p hp
    unfold WFp at this ⊢
    simp only [eP]
    exact this
theorem WF_grace {b : Nat} {S : Sx} {v : Int32} (h : WF b S) : WF b (upd S 1 v) := by
  obtain ⟨h2, hn, h3, hm, hC, hU, hP⟩ := h
  have e2 : cn (upd S 1 v) = cn S := cn_eq (upd_n (by decide))
  have e3 : pn (upd S 1 v) = pn S := pn_eq (upd_n (by decide))
  have eC : ∀ d x, sC (upd S 1 v) d x = sC S d x := fun d x => gCu (by decide)
  have eP : ∀ p x, sP (upd S 1 v) p x = sP S p x := fun p x => gPu (by decide)
  refine ⟨by rw [e2, upd_n (by decide)]; exact h2, by rw [e2]; exact hn, by rw [e3, upd_n (by decide)]; exact h3, by rw [e3]; exact hm, fun d hd => ?_, fun d e hd he => ?_, fun p hp => ?_⟩
  · rw [e2] at hd
    have := hC d hd
    unfold WFc at this ⊢
    simp only [eC, eP, e3]
    exact this
  · rw [e2] at hd he
    simp only [eC]
    exact hU d e hd he
  · rw [e3] at hp
    have := hP p hp
    unfold WFp at this ⊢
    simp only [eP]
    exact this
theorem WF_frs {b : Nat} {S : Sx} {c : Nat} (h : WF b S) (hc : c < cn S) : WF b (frS S c) := by
  have hn := h.2.1
  refine WF_step (S := S) h hc (frS_lo (by decide)) (frS_lo (by decide)) (fun d hd hne => ?_) ?_ (Or.inl ?_) (fun q hq => ?_) (fun z => ?_) (fun q hq => ?_)
  · refine ⟨?_, ?_, ?_⟩ <;> rw [frS_C (by decide), if_neg (by omega), if_neg (by omega)]
  · obtain ⟨z, hz, ez⟩ := (h.2.2.2.2.1 c hc).1
    exact ⟨z, hz, by rw [frS_C (by decide), if_neg (by omega), if_neg (by omega)]; exact ez⟩
  · refine ⟨?_, ?_⟩
    · rw [frS_C (by decide), if_neg (by omega), if_pos ⟨rfl, rfl⟩]
    · rw [frS_C (by decide), if_pos ⟨rfl, rfl⟩]
  · exact Or.inl (frS_P (by omega))
  · exfalso
    rw [frS_C (by decide), if_neg (by omega), if_pos ⟨rfl, rfl⟩] at z
    exact absurd z (by decide)
  · exact WFp_le (Nat.le_refl b) (h.2.2.2.2.2.2 q hq) (fun x hx k4 k6 k7 => frS_P (by omega)) (by rw [frS_P (by omega)]; exact (h.2.2.2.2.2.2 q hq).2.2.2.1)
theorem WF_dr {b : Nat} {S : Sx} {c : Nat} (h : WF b S) (hc : c < cn S) : WF b (drS S c) := by
  have hn := h.2.1
  unfold drS
  split
  · rename_i e
    obtain ⟨p, hp, e4, e2⟩ := WF_with h hc (by rw [e]; decide)
    have hw := WF_frees h hc e e4 hp (S 4)
    rw [show upd (uP S p 4 0) 4 (S 4) = uP S p 4 0 from by
      refine funext fun k => ?_
      by_cases z : k = 4
      · subst z; rw [upd_s, uP_lo (by decide)]
      · rw [upd_n z]] at hw
    rw [e2]; exact hw
  · exact WF_frs h hc
theorem drS_hi {b : Nat} {S : Sx} {c k : Nat} (h : WF b S) (hc : c < cn S) (hk : 517 ≤ k) : drS S c k = S k := by
  have hn := h.2.1
  have hm := h.2.2.2.1
  unfold drS
  rw [frS_hi (by omega) hk]
  split
  · rename_i e
    obtain ⟨p, hp, e4, e2⟩ := WF_with h hc (by rw [e]; decide)
    rw [e2, uP_hi (by omega) (by decide) hk]
  · rfl
theorem drS_lo {S : Sx} {c k : Nat} (h : k < 7) : drS S c k = S k := by
  unfold drS
  rw [frS_lo h]
  split
  · rw [uP_lo (by omega)]
  · rfl
theorem nI_suc {x : Int32} {n : Nat} (h : x = nI n) : x + 1 = nI (n + 1) := by rw [h, nI_1]
theorem WF_add {b : Nat} {S : Sx} {ar : Int32} {z : Nat} (h : WF b S) (hc : cn S < 6) (hz : z < 16) : WF b (addS S ar (nI z)) := by
  obtain ⟨h2, hn, h3, hm, hC, hU, hP⟩ := h
  have f2 : addS S ar (nI z) 2 = nI (cn S + 1) := by unfold addS; rw [upd_s]; exact nI_suc h2
  have f3 : addS S ar (nI z) 3 = S 3 := by unfold addS; rw [upd_n (by decide), frS_lo (by decide), uC_lo (by decide), uC_lo (by decide), uC_lo (by decide)]
  have e2 : cn (addS S ar (nI z)) = cn S + 1 := by unfold cn; rw [f2, n_cl (by unfold cn at hc; omega)]; rfl
  have e3 : pn (addS S ar (nI z)) = pn S := pn_eq f3
  have eP : ∀ p x, sP (addS S ar (nI z)) p x = sP S p x := fun p x => by
    unfold addS; rw [gPu (by decide), frS_P (by omega), gPC (by omega) (by decide), gPC (by omega) (by decide), gPC (by omega) (by decide)]
  have eC : ∀ d x, x < 5 → sC (addS S ar (nI z)) d x = if d = cn S then (if x = 4 then -1 else if x = 3 then 0 else if x = 2 then 0 else if x = 1 then nI z else ar) else sC S d x := fun d x hx => by
    unfold addS
    rw [gCu (by decide), frS_C hx, gCC hx (by decide), gCC hx (by decide), gCC hx (by decide)]
    by_cases e : d = cn S
    · subst e
      rw [if_pos rfl]
      rcases (show x = 0 ∨ x = 1 ∨ x = 2 ∨ x = 3 ∨ x = 4 by omega) with y | y | y | y | y <;> subst y <;> simp
    · simp only [e, false_and, if_false]
  refine ⟨by rw [e2]; exact f2, by rw [e2]; omega, by rw [e3, f3]; exact h3, by rw [e3]; exact hm, fun d hd => ?_, fun d e hd he => ?_, fun p hp => ?_⟩
  · rw [e2] at hd
    unfold WFc
    rw [eC d 1 (by decide), eC d 3 (by decide), eC d 4 (by decide), e3]
    simp only [eP]
    by_cases e : d = cn S
    · subst e
      exact ⟨⟨z, hz, by simp⟩, Or.inl ⟨by simp, by simp⟩⟩
    · simp only [if_neg e]
      exact hC d (by omega)
  · rw [e2] at hd he
    rw [eC d 3 (by decide), eC e 3 (by decide), eC d 4 (by decide), eC e 4 (by decide)]
    by_cases g : d = cn S
    · simp only [if_pos g]; intro y; exact absurd (show (0 : Int32) = 2 from y) (by decide)
    · by_cases g2 : e = cn S
      · simp only [if_pos g2]; intro _ y; exact absurd (show (0 : Int32) = 2 from y) (by decide)
      · simp only [if_neg g, if_neg g2]
        exact hU d e (by omega) (by omega)
  · rw [e3] at hp
    have := hP p hp
    unfold WFp at this ⊢
    simp only [eP]
    exact this
theorem add_hi {S : Sx} {ar z : Int32} {k : Nat} (hc : cn S < 6) (hk : 517 ≤ k) : addS S ar z k = S k := by
  unfold addS
  rw [upd_n (by omega), frS_hi hc hk, uC_hi hc (by decide) hk, uC_hi hc (by decide) hk, uC_hi hc (by decide) hk]
theorem zrP_C {S : Sx} {p d x : Nat} (hd : d < 6) (hx : x < 5) : ∀ w, sC (zrP S p w) d x = sC S d x := by
  intro w
  induction w with
  | zero => rfl
  | succ w ih => unfold zrP; rw [gCP hd hx, ih]
theorem zrP_P {S : Sx} {p q x : Nat} (hx : x < 20) : ∀ w, w ≤ 20 → sP (zrP S p w) q x = if q = p ∧ x < w then 0 else sP S q x := by
  intro w
  induction w with
  | zero => intro _; rw [if_neg (by omega)]; rfl
  | succ w ih =>
    intro hw
    unfold zrP
    rw [gPP hx (by omega), ih (by omega)]
    by_cases e : q = p ∧ x = w
    · rw [if_pos e, if_pos (by omega)]
    · rw [if_neg e]
      by_cases e2 : q = p ∧ x < w
      · rw [if_pos e2, if_pos (by omega)]
      · rw [if_neg e2, if_neg (by omega)]
theorem zrP_hi {S : Sx} {p k : Nat} (hp : p < 24) (hk : 517 ≤ k) : ∀ w, w ≤ 20 → zrP S p w k = S k := by
  intro w
  induction w with
  | zero => intro _; rfl
  | succ w ih => intro hw; unfold zrP; rw [uP_hi hp (by omega) hk, ih (by omega)]
theorem com_hi {S : Sx} {o g x t : Int32} {k : Nat} (hp : pn S < 24) (hk : 517 ≤ k) : comS S o g x t k = S k := by
  unfold comS
  rw [upd_n (by omega), uP_hi hp (by decide) hk, uP_hi hp (by decide) hk, uP_hi hp (by decide) hk, uP_hi hp (by decide) hk, uP_hi hp (by decide) hk, uP_hi hp (by decide) hk, zrP_hi hp hk 20 (Nat.le_refl _)]
theorem com_lo {S : Sx} {o g x t : Int32} {k : Nat} (hk : k < 7) (h3 : k ≠ 3) : comS S o g x t k = S k := by
  unfold comS
  rw [upd_n h3, uP_lo (by omega), uP_lo (by omega), uP_lo (by omega), uP_lo (by omega), uP_lo (by omega), uP_lo (by omega), zrP_lo (by omega)]
theorem com_P {S : Sx} {o g y t : Int32} {q x : Nat} (hx : x < 20) : sP (comS S o g y t) q x = if q = pn S then (if x = 0 then o else if x = 1 then g else if x = 2 then y else if x = 3 then t else if x = 5 then o else if x = 6 then -1 else 0) else sP S q x := by
  unfold comS
  rw [gPu (by decide), gPP hx (by decide), gPP hx (by decide), gPP hx (by decide), gPP hx (by decide), gPP hx (by decide), gPP hx (by decide), zrP_P hx 20 (Nat.le_refl _)]
  by_cases e : q = pn S
  · simp only [e, true_and, if_true, if_pos hx]
    by_cases x0 : x = 0
    · subst x0; simp
    by_cases x1 : x = 1
    · subst x1; simp
    by_cases x2 : x = 2
    · subst x2; simp
    by_cases x3 : x = 3
    · subst x3; simp
    by_cases x5 : x = 5
    · subst x5; simp
    by_cases x6 : x = 6
    · subst x6; simp
    simp only [if_neg x0, if_neg x1, if_neg x2, if_neg x3, if_neg x5, if_neg x6]
  · simp only [e, false_and, if_false]
theorem com_C {S : Sx} {o g y t : Int32} {d x : Nat} (hd : d < 6) (hx : x < 5) : sC (comS S o g y t) d x = sC S d x := by
  unfold comS
  rw [gCu (by decide), gCP hd hx, gCP hd hx, gCP hd hx, gCP hd hx, gCP hd hx, gCP hd hx, zrP_C hd hx]
theorem WF_com {b : Nat} {S : Sx} {o g y t : Nat} (h : WF b S) (hp : pn S < 24) (ho : o < 16) (hg : g < 16) (hne : o ≠ g) (hy : 1 ≤ y) (hy2 : y ≤ 999) (ht : t ≤ 1000) : WF b (comS S (nI o) (nI g) (nI y) (nI t)) := by
  obtain ⟨h2, hn, h3, hm, hC, hU, hP⟩ := h
  have f3 : comS S (nI o) (nI g) (nI y) (nI t) 3 = nI (pn S + 1) := by unfold comS; rw [upd_s]; exact nI_suc h3
  have f2 : comS S (nI o) (nI g) (nI y) (nI t) 2 = S 2 := com_lo (by decide) (by decide)
  have e2 : cn (comS S (nI o) (nI g) (nI y) (nI t)) = cn S := cn_eq f2
  have e3 : pn (comS S (nI o) (nI g) (nI y) (nI t)) = pn S + 1 := by unfold pn; rw [f3, n_cl (by unfold pn at hp; omega)]; rfl
  refine ⟨by rw [e2, f2]; exact h2, by rw [e2]; exact hn, by rw [e3]; exact f3, by rw [e3]; omega, fun d hd => ?_, fun d e hd he => ?_, fun p hp => ?_⟩
  · rw [e2] at hd
    have := hC d hd
    unfold WFc at this ⊢
    rw [com_C (by omega) (by decide), com_C (by omega) (by decide), com_C (by omega) (by decide), e3]
    refine ⟨this.1, ?_⟩
    rcases this.2 with z | ⟨p, z1, z2, z3⟩
    · exact Or.inl z
    · refine Or.inr ⟨p, by omega, z2, ?_⟩
      rw [com_P (by decide), if_neg (by omega)]
      exact z3
  · rw [e2] at hd he
    rw [com_C (by omega) (by decide), com_C (by omega) (by decide), com_C (by omega) (by decide), com_C (by omega) (by decide)]
    exact hU d e hd he
  · rw [e3] at hp
    by_cases e : p = pn S
    · unfold WFp
      rw [com_P (by decide), com_P (by decide), com_P (by decide), com_P (by decide), com_P (by decide), com_P (by decide)]
      simp only [if_pos e]
      refine ⟨⟨o, g, ho, hg, hne, rfl, rfl⟩, ⟨y, hy, hy2, rfl⟩, ⟨t, ht, rfl⟩, ⟨0, by decide, rfl⟩, ⟨o, ho, rfl⟩, fun c hc => ⟨0, by omega, ?_⟩⟩
      rw [com_P (by omega), if_pos e, if_neg (by omega), if_neg (by omega), if_neg (by omega), if_neg (by omega), if_neg (by omega), if_neg (by omega)]
      rfl
    · have := hP p (by omega)
      unfold WFp at this ⊢
      rw [com_P (by decide), com_P (by decide), com_P (by decide), com_P (by decide), com_P (by decide), com_P (by decide)]
      simp only [if_neg e]
      refine ⟨this.1, this.2.1, this.2.2.1, this.2.2.2.1, this.2.2.2.2.1, fun c hc => ?_⟩
      rw [com_P (by omega), if_neg e]
      exact this.2.2.2.2.2 c hc
theorem GS_wf {S : Sx} (h : GS S) : ∃ t, t ≤ 2000 ∧ WF (6 * t) S := by
  obtain ⟨t, a, -, b, -⟩ := h
  exact ⟨t, a, b⟩
theorem GS_up {S S' : Sx} (h : GS S) (h0 : S' 0 = S 0) (hw : ∀ b, WF b S → WF b S') (hz : ∀ k, 517 ≤ k → S' k = S k) : GS S' := by
  obtain ⟨t, a1, a2, a3, a4⟩ := h
  exact ⟨t, a1, by rw [h0]; exact a2, hw _ a3, fun k hk => by rw [hz k hk]; exact a4 k hk⟩
end HI

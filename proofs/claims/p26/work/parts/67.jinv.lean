/-! NOBODY ELSE AIMS AT A COURIER'S PARCEL, AND IT WAITS: kept by all that happens -/
section JI
theorem J_cg {S S' : Sx} (h : J S) (e2 : cn S' = cn S) (e3 : pn S' = pn S) (hC : ∀ c, c < cn S → sC S' c 3 = sC S c 3 ∧ sC S' c 4 = sC S c 4) (hP : ∀ p, p < pn S → sP S' p 4 = sP S p 4) : J S' := by
  refine ⟨fun c d p hc hd hp h1 h2 => ?_, fun c p hc hp h1 h2 => ?_⟩
  · rw [e2] at hc hd
    rw [e3] at hp
    rw [(hC c hc).2] at h1
    rw [(hC d hd).2] at h2
    exact h.1 c d p hc hd hp h1 h2
  · rw [e2] at hc
    rw [e3] at hp
    rw [(hC c hc).2] at h1
    rw [(hC c hc).1] at h2
    rw [hP p hp]
    exact h.2 c p hc hp h1 h2
theorem J_one {S S' : Sx} {c : Nat} (h : J S) (e2 : cn S' = cn S) (e3 : pn S' = pn S)
    (hC : ∀ d, d < cn S → d ≠ c → sC S' d 3 = sC S d 3 ∧ sC S' d 4 = sC S d 4)
    (ha : ∀ p, p < pn S → sC S' c 4 = nI p → ∀ d, d < cn S → d ≠ c → ¬ sC S d 4 = nI p)
    (hs : ∀ p, p < pn S → ∀ d, d < cn S → d ≠ c → sC S d 4 = nI p → sC S d 3 = 1 → sP S' p 4 = 0)
    (hw : ∀ p, p < pn S → sC S' c 4 = nI p → sC S' c 3 = 1 → sP S' p 4 = 0) : J S' := by
  refine ⟨fun a d p ha' hd hp h1 h2 => ?_, fun d p hd hp h1 h2 => ?_⟩
  · rw [e2] at ha' hd
    rw [e3] at hp
    by_cases ea : a = c
    · by_cases ed : d = c
      · omega
      · rw [(hC d hd ed).2] at h2
        rw [ea] at h1
        exact absurd h2 (ha p hp h1 d hd ed)
    · rw [(hC a ha' ea).2] at h1
      by_cases ed : d = c
      · rw [ed] at h2
        exact absurd h1 (ha p hp h2 a ha' ea)
      · rw [(hC d hd ed).2] at h2
        exact h.1 a d p ha' hd hp h1 h2
  · rw [e2] at hd
    rw [e3] at hp
    by_cases ed : d = c
    · subst ed; exact hw p hp h1 h2
    · rw [(hC d hd ed).2] at h1
      rw [(hC d hd ed).1] at h2
      exact hs p hp d hd ed h1 h2
theorem m1_ne {p n : Nat} (hp : p < n) (hn : n ≤ 24) : ¬ (-1 : Int32) = nI p := fun e => nI_m1 (by omega) e.symm
/-- freed, and states changed only of what the courier aimed at -/
theorem J_free {S S' : Sx} {c : Nat} (h : J S) (hm : pn S ≤ 24) (e2 : cn S' = cn S) (e3 : pn S' = pn S)
    (hC : ∀ d, d < cn S → d ≠ c → sC S' d 3 = sC S d 3 ∧ sC S' d 4 = sC S d 4) (h4 : sC S' c 4 = -1)
    (hs : ∀ p, p < pn S → sP S' p 4 = sP S p 4 ∨ sP S' p 4 = 0 ∨ ∀ d, d < cn S → d ≠ c → ¬ sC S d 4 = nI p) : J S' := by
  refine J_one h e2 e3 hC (fun p hp e => ?_) (fun p hp d hd hne e e1 => ?_) (fun p hp e => ?_)
  · rw [h4] at e; exact absurd e (m1_ne hp hm)
  · rcases hs p hp with z | z | z
    · rw [z]; exact h.2 d p hd hp e e1
    · exact z
    · exact absurd e (z d hd hne)
  · rw [h4] at e; exact absurd e (m1_ne hp hm)
theorem J_frS {b : Nat} {S : Sx} {c : Nat} (h : J S) (hW : WF b S) (hc : c < cn S) : J (frS S c) := by
  have hn := hW.2.1
  refine J_free (c := c) h hW.2.2.2.1 (cn_eq (frS_lo (by decide))) (pn_eq (frS_lo (by decide))) (fun d hd hne => ⟨?_, ?_⟩) ?_ (fun p hp => Or.inl (frS_P (by omega)))
  · rw [frS_C (by decide), if_neg (by omega), if_neg (by omega)]
  · rw [frS_C (by decide), if_neg (by omega), if_neg (by omega)]
  · rw [frS_C (by decide), if_pos ⟨rfl, rfl⟩]
theorem J_put {S : Sx} {p : Nat} {b : Nat} (h : J S) (hW : WF b S) : J (uP S p 4 0) := by
  have hn := hW.2.1
  refine ⟨fun a d q ha hd hq h1 h2 => ?_, fun d q hd hq h1 h2 => ?_⟩
  · rw [cn_eq (uP_lo (by decide))] at ha hd
    rw [pn_eq (uP_lo (by decide))] at hq
    rw [gCP (by omega) (by decide)] at h1 h2
    exact h.1 a d q ha hd hq h1 h2
  · rw [cn_eq (uP_lo (by decide))] at hd
    rw [pn_eq (uP_lo (by decide))] at hq
    rw [gCP (by omega) (by decide)] at h1 h2
    rw [gPP (by decide) (by decide)]
    split
    · rfl
    · exact h.2 d q hd hq h1 h2
theorem J_dr {b : Nat} {S : Sx} {c : Nat} (h : J S) (hW : WF b S) (hc : c < cn S) : J (drS S c) := by
  have hn := hW.2.1
  unfold drS
  split
  · have h1 := J_put (p := (sC S c 4).toNatClampNeg) h hW
    refine J_free (c := c) h1 (by rw [pn_eq (uP_lo (by decide))]; exact hW.2.2.2.1) (cn_eq (frS_lo (by decide))) (pn_eq (frS_lo (by decide))) (fun d hd hne => ⟨?_, ?_⟩) ?_ (fun p hp => Or.inl (frS_P (by omega)))
    · rw [frS_C (by decide), if_neg (by omega), if_neg (by omega)]
    · rw [frS_C (by decide), if_neg (by omega), if_neg (by omega)]
    · rw [frS_C (by decide), if_pos ⟨rfl, rfl⟩]
  · exact J_frS h hW hc
theorem J_leg {b : Nat} {S : Sx} {c p : Nat} {z : Int32} (h : J S) (hW : WF b S) (hc : c < cn S) : J (legS S c p z) := by
  have hn := hW.2.1
  refine J_cg h (cn_eq (legS_lo (by decide))) (pn_eq (legS_lo (by decide))) (fun d hd => ⟨?_, ?_⟩) (fun q hq => ?_)
  · rw [legS_C (by omega) (by decide), if_neg (by omega)]
  · rw [legS_C (by omega) (by decide), if_neg (by omega)]
  · rw [legS_P (by omega) (by decide), if_neg (by omega), if_neg (by omega)]
theorem J_car {b : Nat} {S : Sx} {c p : Nat} (h : J S) (hW : WF b S) (hc : c < cn S) (h4 : sC S c 4 = nI p) (hp : p < pn S) : J (carS S c p) := by
  have hn := hW.2.1
  have hm := hW.2.2.2.1
  unfold carS
  split
  · have hL := J_leg (p := p) (z := nxz (sC S c 1) (sP S p 1)) h hW hc
    split
    · have l2 : cn (legS S c p (nxz (sC S c 1) (sP S p 1))) = cn S := cn_eq (legS_lo (by decide))
      have l3 : pn (legS S c p (nxz (sC S c 1) (sP S p 1))) = pn S := pn_eq (legS_lo (by decide))
      refine J_free (c := c) hL (by rw [l3]; exact hm) (cn_eq (delS_lo (by decide))) (pn_eq (delS_lo (by decide))) (fun d hd hne => ⟨?_, ?_⟩) ?_ (fun q hq => ?_)
      · rw [l2] at hd
        rw [delS_C (by omega) (by decide) (by decide), if_neg (by omega), if_neg (by omega)]
      · rw [l2] at hd
        rw [delS_C (by omega) (by decide) (by decide), if_neg (by omega), if_neg (by omega)]
      · rw [delS_C (by omega) (by decide) (by decide), if_pos ⟨rfl, rfl⟩]
      · rw [delS_P (by omega) (by rw [l2]; exact hn) (by decide) (by decide) (by decide)]
        by_cases e : q = p
        · refine Or.inr (Or.inr (fun d hd hne y => hne ?_))
          rw [l2] at hd
          rw [legS_C (by omega) (by decide), if_neg (by omega), e] at y
          exact h.1 d c p hd hc hp y h4
        · rw [if_neg (by omega)]; exact Or.inl rfl
    · exact hL
  · refine J_free (c := c) (J_cg (J_put (p := p) h hW) (S' := upd (uP S p 4 0) 4 (S 4 + 1)) (cn_eq (upd_n (by decide))) (pn_eq (upd_n (by decide))) (fun d hd => ⟨gCu (by decide), gCu (by decide)⟩) (fun q hq => gPu (by decide))) ?_ (cn_eq (frS_lo (by decide))) (pn_eq (frS_lo (by decide))) (fun d hd hne => ⟨?_, ?_⟩) ?_ (fun q hq => Or.inl (frS_P (by omega)))
    · rw [pn_eq (S := S) (by rw [upd_n (by decide), uP_lo (by decide)])]; exact hm
    · rw [frS_C (by decide), if_neg (by omega), if_neg (by omega)]
    · rw [frS_C (by decide), if_neg (by omega), if_neg (by omega)]
    · rw [frS_C (by decide), if_pos ⟨rfl, rfl⟩]
theorem J_go {b : Nat} {S : Sx} {c p : Nat} (h : J S) (hW : WF b S) (hc : c < cn S) (h4 : sC S c 4 = nI p) (hp : p < pn S) : J (goS S c p) := by
  have hn := hW.2.1
  unfold goS
  split
  · have eC : ∀ d x, d < 6 → x < 5 → sC (uP (uC S c 3 2) p 4 1) d x = if d = c ∧ x = 3 then 2 else sC S d x := fun d x hd hx => by rw [gCP hd hx, gCC hx (by decide)]
    have eP : ∀ q, sP (uP (uC S c 3 2) p 4 1) q 4 = if q = p then 1 else sP S q 4 := fun q => by
      rw [gPP (by decide) (by decide), gPC (by omega) (by decide)]
      by_cases e : q = p
      · rw [if_pos ⟨e, rfl⟩, if_pos e]
      · rw [if_neg (fun z => e z.1), if_neg e]
    refine J_one (c := c) h (cn_eq (by rw [uP_lo (by decide), uC_lo (by decide)])) (pn_eq (by rw [uP_lo (by decide), uC_lo (by decide)])) (fun d hd hne => ⟨?_, ?_⟩) (fun q hq e d hd hne y => ?_) (fun q hq d hd hne e e1 => ?_) (fun q hq e e1 => ?_)
    · rw [eC d 3 (by omega) (by decide), if_neg (by omega)]
    · rw [eC d 4 (by omega) (by decide), if_neg (by omega)]
    · rw [eC c 4 (by omega) (by decide), if_neg (by omega)] at e
      exact hne (h.1 d c q hd hc hq y e)
    · rw [eP]
      by_cases z : q = p
      · subst z
        exact absurd (h.1 d c q hd hc hq e h4) hne
      · rw [if_neg z]; exact h.2 d q hd hq e e1
    · rw [eC c 3 (by omega) (by decide), if_pos ⟨rfl, rfl⟩] at e1
      exact absurd e1 (by decide)
  · refine J_cg h (cn_eq (by rw [upd_n (by decide), uC_lo (by decide)])) (pn_eq (by rw [upd_n (by decide), uC_lo (by decide)])) (fun d hd => ⟨?_, ?_⟩) (fun q hq => ?_)
    · rw [gCu (by decide), gCC (by decide) (by decide), if_neg (by omega)]
    · rw [gCu (by decide), gCC (by decide) (by decide), if_neg (by omega)]
    · rw [gPu (by decide), gPC (by omega) (by decide)]
theorem chB_may {S : Sx} {c : Nat} : ∀ n, chB S c n = -1 ∨ ∃ p, p < n ∧ chB S c n = nI p ∧ may S c p = true := by
  intro n
  induction n with
  | zero => exact Or.inl rfl
  | succ n ih =>
    unfold chB
    split
    · rename_i e; exact Or.inr ⟨n, Nat.lt_succ_self n, rfl, e.1⟩
    · rcases ih with z | ⟨p, h1, h2⟩
      · exact Or.inl z
      · exact Or.inr ⟨p, by omega, h2⟩
theorem may_st {S : Sx} {c p : Nat} (h : may S c p = true) : sP S p 4 = 0 ∧ asked S p c (cn S) = false := by
  unfold may at h
  simp only [Bool.and_eq_true, decide_eq_true_eq, Bool.not_eq_true'] at h
  exact ⟨h.1.1, h.2⟩
theorem J_ch {b : Nat} {S : Sx} {c : Nat} (h : J S) (hW : WF b S) (hc : c < cn S) : J (chS S c) := by
  have hn := hW.2.1
  have hm := hW.2.2.2.1
  have eC : ∀ d x, d < 6 → x < 5 → sC (chS S c) d x = if d = c ∧ x = 4 then chB S c (pn S) else if d = c ∧ x = 3 then (if chB S c (pn S) = -1 then 0 else 1) else sC S d x := fun d x hd hx => by
    unfold chS; rw [gCC hx (by decide), gCC hx (by decide)]
  have eP : ∀ q, sP (chS S c) q 4 = sP S q 4 := fun q => by unfold chS; rw [gPC (by omega) (by decide), gPC (by omega) (by decide)]
  refine J_one (c := c) h (cn_eq (chS_lo (by decide))) (pn_eq (chS_lo (by decide))) (fun d hd hne => ⟨?_, ?_⟩) (fun q hq e d hd hne y => ?_) (fun q hq d hd hne e e1 => ?_) (fun q hq e e1 => ?_)
  · rw [eC d 3 (by omega) (by decide), if_neg (by omega), if_neg (by omega)]
  · rw [eC d 4 (by omega) (by decide), if_neg (by omega), if_neg (by omega)]
  · rw [eC c 4 (by omega) (by decide), if_pos ⟨rfl, rfl⟩] at e
    rcases chB_may (S := S) (c := c) (pn S) with z | ⟨p, hp, e2, e3⟩
    · rw [z] at e; exact m1_ne hq hm e
    · rw [e2, nI_eq (by omega) (by omega)] at e
      subst e
      obtain ⟨s0, as⟩ := may_st e3
      have : asked S p c (cn S) = true := by
        rw [asked_iff]
        rcases (hW.2.2.2.2.1 d hd).2 with ⟨-, a0⟩ | ⟨p', hp', ea, hdd⟩
        · rw [a0] at y; exact absurd y (m1_ne hq hm)
        · rw [ea, nI_eq (by omega) (by omega)] at y
          subst y
          refine ⟨d, hd, hne, hdd.elim id (fun z => ?_), ea⟩
          rw [s0] at z
          exact absurd z.2 (by decide)
      rw [as] at this
      cases this
  · rw [eP]; exact h.2 d q hd hq e e1
  · rw [eC c 4 (by omega) (by decide), if_pos ⟨rfl, rfl⟩] at e
    rw [eP]
    rcases chB_may (S := S) (c := c) (pn S) with z | ⟨p, hp, e2, e3⟩
    · rw [z] at e; exact absurd e (m1_ne hq hm)
    · rw [e2, nI_eq (by omega) (by omega)] at e
      subst e
      exact (may_st e3).1
theorem J_act {b : Nat} {S : Sx} {c : Nat} (h : J S) (hW : WF b S) (hc : c < cn S) : J (actS S c) := by
  unfold actS
  split
  · rename_i e
    obtain ⟨p, hp, e4, e2⟩ := WF_with hW hc (by rw [e]; decide)
    rw [e2]; exact J_car h hW hc e4 hp
  · split
    · rename_i e
      obtain ⟨p, hp, e4, e2⟩ := WF_with hW hc (by rw [e.1]; decide)
      rw [e2]; exact J_go h hW hc e4 hp
    · exact J_ch h hW hc
theorem J_actW {b : Nat} {S : Sx} (h : J S) (hW : WF b S) : ∀ i, i ≤ cn S → J (actW S i) := by
  intro i
  induction i with
  | zero => intro _; exact h
  | succ i ih =>
    intro hi
    exact J_act (ih (by omega)) (WF_actW hW i (by omega)) (by rw [cn_eq (actW_lo (by decide) i)]; omega)
theorem J_fai {b : Nat} {S : Sx} {p : Nat} (h : J S) (hW : WF b S) (hp : p < pn S) : J (faiS S p) := by
  have hn := hW.2.1
  have hm := hW.2.2.2.1
  have e2 : cn (faiS S p) = cn S := cn_eq (faiS_lo (by decide))
  have e3 : pn (faiS S p) = pn S := pn_eq (faiS_lo (by decide))
  have eC : ∀ d x, d < cn S → x < 5 → sC (faiS S p) d x = if sC S d 4 = nI p then (if x = 4 then -1 else if x = 3 then 0 else sC S d x) else sC S d x := fun d x hd hx => by
    unfold faiS
    rw [frW_C hx, gCP (by omega) (by decide), gCP (by omega) hx]
    by_cases e : sC S d 4 = nI p
    · rw [if_pos ⟨hd, e⟩, if_pos e]
    · rw [if_neg (fun z => e z.2), if_neg e]
  have eP : ∀ q, sP (faiS S p) q 4 = if q = p then 3 else sP S q 4 := fun q => by
    unfold faiS
    rw [frW_P _ hn, gPP (by decide) (by decide)]
    by_cases e : q = p
    · rw [if_pos ⟨e, rfl⟩, if_pos e]
    · rw [if_neg (fun z => e z.1), if_neg e]
  have aim : ∀ d q, d < cn S → q < pn S → sC (faiS S p) d 4 = nI q → sC S d 4 = nI q ∧ q ≠ p := fun d q hd hq e => by
    rw [eC d 4 hd (by decide)] at e
    by_cases z : sC S d 4 = nI p
    · rw [if_pos z, if_pos rfl] at e; exact absurd e (m1_ne hq hm)
    · rw [if_neg z] at e
      exact ⟨e, fun y => z (by rw [e, y])⟩
  refine ⟨fun a d q ha hd hq h1 h2 => ?_, fun d q hd hq h1 h2 => ?_⟩
  · rw [e2] at ha hd
    rw [e3] at hq
    exact h.1 a d q ha hd hq (aim a q ha hq h1).1 (aim d q hd hq h2).1
  · rw [e2] at hd
    rw [e3] at hq
    obtain ⟨a1, a2⟩ := aim d q hd hq h1
    rw [eC d 3 hd (by decide), if_neg (fun z => a2 (by rw [a1, nI_eq (by omega) (by omega)] at z; exact z))] at h2
    rw [eP, if_neg a2]
    exact h.2 d q hd hq a1 h2
theorem J_flW {b : Nat} {S : Sx} (h : J S) (hW : WF b S) : ∀ i, i ≤ pn S → J (flW S i) := by
  intro i
  induction i with
  | zero => intro _; exact h
  | succ i ih =>
    intro hi
    unfold flW
    split
    · exact J_fai (ih (by omega)) (WF_flW hW i (by omega)) (by rw [pn_flW]; omega)
    · exact ih (by omega)
theorem J_time {S : Sx} {v : Int32} (h : J S) : J (upd S 0 v) := J_cg h (cn_eq (upd_n (by decide))) (pn_eq (upd_n (by decide))) (fun d hd => ⟨gCu (by decide), gCu (by decide)⟩) (fun q hq => gPu (by decide))
theorem J_grace {S : Sx} {v : Int32} (h : J S) : J (upd S 1 v) := J_cg h (cn_eq (upd_n (by decide))) (pn_eq (upd_n (by decide))) (fun d hd => ⟨gCu (by decide), gCu (by decide)⟩) (fun q hq => gPu (by decide))
theorem J_area {S : Sx} {c : Nat} {v : Int32} (h : J S) (hc : c < 6) : J (uC S c 0 v) := J_cg h (cn_eq (uC_lo (by decide))) (pn_eq (uC_lo (by decide))) (fun d hd => ⟨by rw [gCC (by decide) (by decide), if_neg (by omega)], by rw [gCC (by decide) (by decide), if_neg (by omega)]⟩) (fun q hq => gPC hc (by decide))
theorem J_tick {b : Nat} {S : Sx} (h : J S) (hW : WF b S) : J (tickS S) := by
  have e : cn (upd S 0 (S 0 + 1)) = cn S := cn_eq (upd_n (by decide))
  have hw := WF_time (S 0 + 1) hW
  have hA : J (tkA S) := by
    unfold tkA
    rw [← e]
    exact J_actW (J_time h) hw _ (Nat.le_refl _)
  unfold tickS
  rw [show pn S = pn (tkA S) from (pn_eq (tkA_lo (by decide) (by decide))).symm]
  first
    | exact J_flW hA (WF_tkA hW) _ (Nat.le_refl _)
    | (rw [pn_eq (tkA_lo (by decide) (by decide))]; exact J_flW hA (WF_tkA hW) _ (Nat.le_of_eq (pn_eq (tkA_lo (by decide) (by decide))).symm))
theorem J_tkN {b : Nat} {S : Sx} (h : J S) (hW : WF b S) : ∀ n, J (tkN S n) := by
  intro n
  induction n with
  | zero => exact h
  | succ n ih => exact J_tick ih (WF_tkN hW n)
end JI

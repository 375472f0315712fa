/-! A TICK KEEPS STATES WELL -/
section PU
theorem gCC {S : Sx} {c d w x : Nat} {v : Int32} (hx : x < 5) (hw : w < 5) : sC (uC S c w v) d x = if d = c ∧ x = w then v else sC S d x := by
  unfold sC uC upd
  by_cases h : d = c ∧ x = w
  · rw [if_pos h, if_pos (by omega)]
  · rw [if_neg h, if_neg (by omega)]
theorem gPP {S : Sx} {p q w x : Nat} {v : Int32} (hx : x < 20) (hw : w < 20) : sP (uP S p w v) q x = if q = p ∧ x = w then v else sP S q x := by
  unfold sP uP upd
  by_cases h : q = p ∧ x = w
  · rw [if_pos h, if_pos (by omega)]
  · rw [if_neg h, if_neg (by omega)]
theorem gCP {S : Sx} {p c w x : Nat} {v : Int32} (hc : c < 6) (hx : x < 5) : sC (uP S p w v) c x = sC S c x := upd_n (by omega)
theorem gPC {S : Sx} {p c w x : Nat} {v : Int32} (hc : c < 6) (hw : w < 5) : sP (uC S c w v) p x = sP S p x := upd_n (by omega)
theorem gCu {S : Sx} {c k x : Nat} {v : Int32} (hk : k < 7) : sC (upd S k v) c x = sC S c x := upd_n (by omega)
theorem gPu {S : Sx} {p k x : Nat} {v : Int32} (hk : k < 37) : sP (upd S k v) p x = sP S p x := upd_n (by omega)
theorem frS_C {S : Sx} {c d x : Nat} (hx : x < 5) : sC (frS S c) d x = if d = c ∧ x = 4 then -1 else if d = c ∧ x = 3 then 0 else sC S d x := by
  unfold frS
  rw [gCC hx (by decide), gCC hx (by decide)]
theorem frS_P {S : Sx} {c p x : Nat} (hc : c < 6) : sP (frS S c) p x = sP S p x := by
  unfold frS
  rw [gPC hc (by decide), gPC hc (by decide)]
theorem tipW_C {S : Sx} {p d x : Nat} (hx : x < 5) (h2 : x ≠ 2) : ∀ i, sC (tipW S p i) d x = sC S d x := by
  intro i
  induction i with
  | zero => rfl
  | succ i ih => unfold tipW; rw [gCC hx (by decide), if_neg (by omega), ih]
theorem tipW_P {S : Sx} {p q x : Nat} : ∀ i, i ≤ 6 → sP (tipW S p i) q x = sP S q x := by
  intro i
  induction i with
  | zero => intro _; rfl
  | succ i ih => intro h; unfold tipW; rw [gPC (by omega) (by decide), ih (by omega)]
theorem shW_C {S : Sx} {p d x : Nat} {m : Int32} (hd : d < 6) (hx : x < 5) : ∀ i, sC (shW S p m i) d x = sC S d x := by
  intro i
  induction i with
  | zero => rfl
  | succ i ih => unfold shW; rw [gCP hd hx, ih]
theorem shW_P {S : Sx} {p q x : Nat} {m : Int32} (hx : x < 14) : ∀ i, i ≤ 6 → sP (shW S p m i) q x = sP S q x := by
  intro i
  induction i with
  | zero => intro _; rfl
  | succ i ih => intro h; unfold shW; rw [gPP (by omega) (by omega), if_neg (by omega), ih (by omega)]
theorem shareS_C {S : Sx} {p d x : Nat} {m : Int32} (hd : d < 6) (hx : x < 5) (h2 : x ≠ 2) : sC (shareS S p m) d x = sC S d x := by
  unfold shareS
  rw [tipW_C hx h2, shW_C hd hx]
theorem shareS_P {S : Sx} {p q x : Nat} {m : Int32} (hn : cn S ≤ 6) (hx : x < 14) : sP (shareS S p m) q x = sP S q x := by
  unfold shareS
  rw [tipW_P _ hn, shW_P hx 6 (Nat.le_refl _)]
theorem shareS_lo {S : Sx} {p k : Nat} {m : Int32} (h : k < 7) : shareS S p m k = S k := by
  unfold shareS
  rw [tipW_lo h, shW_lo (by omega)]
theorem cn_eq {S S' : Sx} (h : S' 2 = S 2) : cn S' = cn S := by unfold cn; rw [h]
theorem pn_eq {S S' : Sx} (h : S' 3 = S 3) : pn S' = pn S := by unfold pn; rw [h]
/-- what delS writes before the shares -/
def dl1 (S : Sx) (p : Nat) : Sx := upd (uP (uP (uP S p 4 2) p 6 (S 0)) p 7 (payS S p)) 6 (S 6 + payS S p)
theorem delS_eq {S : Sx} {c p : Nat} : delS S c p = frS (shareS (dl1 S p) p (payS S p)) c := rfl
theorem dl1_lo {S : Sx} {p k : Nat} (h : k < 6) : dl1 S p k = S k := by
  unfold dl1
  rw [upd_n (by omega), uP_lo (by omega), uP_lo (by omega), uP_lo (by omega)]
theorem dl1_C {S : Sx} {p d x : Nat} (hd : d < 6) (hx : x < 5) : sC (dl1 S p) d x = sC S d x := by
  unfold dl1
  rw [gCu (by decide), gCP hd hx, gCP hd hx, gCP hd hx]
theorem dl1_P {S : Sx} {p q x : Nat} (hx : x < 20) (h6 : x ≠ 6) (h7 : x ≠ 7) : sP (dl1 S p) q x = if q = p ∧ x = 4 then 2 else sP S q x := by
  unfold dl1
  rw [gPu (by decide), gPP hx (by decide), if_neg (by omega), gPP hx (by decide), if_neg (by omega), gPP hx (by decide)]
theorem delS_lo {S : Sx} {c p k : Nat} (h : k < 6) : delS S c p k = S k := by
  rw [delS_eq, frS_lo (by omega), shareS_lo (by omega), dl1_lo h]
theorem delS_C {S : Sx} {c p d x : Nat} (hd : d < 6) (hx : x < 5) (h2 : x ≠ 2) : sC (delS S c p) d x = if d = c ∧ x = 4 then -1 else if d = c ∧ x = 3 then 0 else sC S d x := by
  rw [delS_eq, frS_C hx, shareS_C hd hx h2, dl1_C hd hx]
theorem delS_P {S : Sx} {c p q x : Nat} (hc : c < 6) (hn : cn S ≤ 6) (hx : x < 14) (h6 : x ≠ 6) (h7 : x ≠ 7) : sP (delS S c p) q x = if q = p ∧ x = 4 then 2 else sP S q x := by
  rw [delS_eq, frS_P hc, shareS_P (by rw [cn_eq (dl1_lo (by decide))]; exact hn) hx, dl1_P (by omega) h6 h7]
theorem legS_lo {S : Sx} {c p k : Nat} {z : Int32} (h : k < 5) : legS S c p z k = S k := by
  unfold legS
  rw [uP_lo (by omega), uP_lo (by omega), upd_n (by omega), uC_lo (by omega)]
theorem legS_C {S : Sx} {c p d x : Nat} {z : Int32} (hd : d < 6) (hx : x < 5) : sC (legS S c p z) d x = if d = c ∧ x = 1 then z else sC S d x := by
  unfold legS
  rw [gCP hd hx, gCP hd hx, gCu (by decide), gCC hx (by decide)]
theorem legS_P {S : Sx} {c p q x : Nat} {z : Int32} (hc : c < 6) (hx : x < 20) : sP (legS S c p z) q x = if q = p ∧ x = 8 + c then sP S p (8 + c) + 1 else if q = p ∧ x = 5 then z else sP S q x := by
  unfold legS
  rw [gPP hx (by omega), gPP hx (by decide), gPu (by decide), gPC hc (by decide)]
/-- one courier has acted: what is enough -/
theorem WF_step {b b' : Nat} {S S' : Sx} {c : Nat} (h : WF b S) (hc : c < cn S) (e2 : S' 2 = S 2) (e3 : S' 3 = S 3)
    (hC : ∀ d, d < 6 → d ≠ c → sC S' d 1 = sC S d 1 ∧ sC S' d 3 = sC S d 3 ∧ sC S' d 4 = sC S d 4) (hz : ∃ z, z < 16 ∧ sC S' c 1 = nI z)
    (hl : (sC S' c 3 = 0 ∧ sC S' c 4 = -1) ∨ ∃ p, p < pn S ∧ sC S' c 4 = nI p ∧ (sC S' c 3 = 1 ∨ (sC S' c 3 = 2 ∧ sP S' p 4 = 1)))
    (hst : ∀ q, q < pn S → sP S' q 4 = sP S q 4 ∨ ∀ d, d < cn S → d ≠ c → ¬ (sC S d 3 = 2 ∧ sC S d 4 = nI q))
    (hu : sC S' c 3 = 2 → ∀ d, d < cn S → d ≠ c → ¬ (sC S d 3 = 2 ∧ sC S d 4 = sC S' c 4)) (hp : ∀ q, q < pn S → WFp b' S' q) : WF b' S' := by
  obtain ⟨h1, h2, h3, h4, h5, h6, h7⟩ := h
  have en := cn_eq e2
  have em := pn_eq e3
  refine ⟨by rw [e2, en]; exact h1, by rw [en]; exact h2, by rw [e3, em]; exact h3, by rw [em]; exact h4, ?_, ?_, by rw [em]; exact hp⟩
  · rw [en]
    intro d hd
    by_cases e : d = c
    · subst e
      exact ⟨hz, by rw [em]; exact hl⟩
    · obtain ⟨k1, k2, k3⟩ := hC d (by omega) e
      obtain ⟨z1, z2⟩ := h5 d hd
      refine ⟨by rw [k1]; exact z1, ?_⟩
      rw [k2, k3, em]
      rcases z2 with z2 | ⟨p, q1, q2, q3⟩
      · exact Or.inl z2
      · refine Or.inr ⟨p, q1, q2, ?_⟩
        rcases q3 with q3 | ⟨q3, q4⟩
        · exact Or.inl q3
        · refine Or.inr ⟨q3, ?_⟩
          rcases hst p q1 with y | y
          · rw [y]; exact q4
          · exact absurd ⟨q3, q2⟩ (y d hd e)
  · rw [en]
    intro d d' hd hd' k1 k2 k3
    by_cases e : d = c
    · by_cases e' : d' = c
      · omega
      · exfalso
        subst e
        obtain ⟨y1, y2, y3⟩ := hC d' (by omega) e'
        exact hu k1 d' hd' e' ⟨by rw [← y2]; exact k2, by rw [← y3]; exact k3.symm⟩
    · obtain ⟨x1, x2, x3⟩ := hC d (by omega) e
      by_cases e' : d' = c
      · exfalso
        subst e'
        exact hu k2 d hd e ⟨by rw [← x2]; exact k1, by rw [← x3]; exact k3⟩
      · obtain ⟨y1, y2, y3⟩ := hC d' (by omega) e'
        exact h6 d d' hd hd' (by rw [← x2]; exact k1) (by rw [← y2]; exact k2) (by rw [← x3, ← y3]; exact k3)
theorem WFp_le {b b' : Nat} {S S' : Sx} {q : Nat} (hb : b ≤ b') (h : WFp b S q) (e : ∀ x, x < 14 → x ≠ 4 → x ≠ 6 → x ≠ 7 → sP S' q x = sP S q x) (h4 : ∃ k, k ≤ 3 ∧ sP S' q 4 = nI k) : WFp b' S' q := by
  obtain ⟨h0, h2, h3, -, h5, hl⟩ := h
  refine ⟨?_, ?_, ?_, h4, ?_, fun c hc => ?_⟩
  · rw [e 0 (by decide) (by decide) (by decide) (by decide), e 1 (by decide) (by decide) (by decide) (by decide)]; exact h0
  · rw [e 2 (by decide) (by decide) (by decide) (by decide)]; exact h2
  · rw [e 3 (by decide) (by decide) (by decide) (by decide)]; exact h3
  · rw [e 5 (by decide) (by decide) (by decide) (by decide)]; exact h5
  · rw [e (8 + c) (by omega) (by omega) (by omega) (by omega)]
    obtain ⟨k, hk, hk2⟩ := hl c hc
    exact ⟨k, by omega, hk2⟩
theorem nxz_in : ∀ f, f < 16 → ∀ t, t < 16 → ∃ z, z < 16 ∧ nxz (nI f) (nI t) = nI z := by decide +kernel
theorem n0 : (0 : Int32) = nI 0 := rfl
theorem n1 : (1 : Int32) = nI 1 := rfl
theorem n2 : (2 : Int32) = nI 2 := rfl
theorem n3 : (3 : Int32) = nI 3 := rfl
theorem WF_frees {b : Nat} {S : Sx} {c p : Nat} (h : WF b S) (hc : c < cn S) (h3 : sC S c 3 = 2) (h4 : sC S c 4 = nI p) (hp : p < pn S) (v : Int32) : WF b (frS (upd (uP S p 4 0) 4 v) c) := by
  have hn6 := h.2.1
  refine WF_step (S := S) h hc ?_ ?_ (fun d hd hne => ?_) ?_ (Or.inl ?_) (fun q hq => ?_) (fun z => ?_) (fun q hq => ?_)
  · rw [frS_lo (by decide), upd_n (by decide), uP_lo (by decide)]
  · rw [frS_lo (by decide), upd_n (by decide), uP_lo (by decide)]
  · refine ⟨?_, ?_, ?_⟩ <;> rw [frS_C (by decide), if_neg (by omega), if_neg (by omega), gCu (by decide), gCP hd (by decide)]
  · obtain ⟨z, hz, ez⟩ := (h.2.2.2.2.1 c hc).1
    exact ⟨z, hz, by rw [frS_C (by decide), if_neg (by omega), if_neg (by omega), gCu (by decide), gCP (by omega) (by decide)]; exact ez⟩
  · refine ⟨?_, ?_⟩
    · rw [frS_C (by decide), if_neg (by omega), if_pos ⟨rfl, rfl⟩]
    · rw [frS_C (by decide), if_pos ⟨rfl, rfl⟩]
  · by_cases e : q = p
    · refine Or.inr fun d hd hne y => hne (h.2.2.2.2.2.1 d c hd hc y.1 h3 (by rw [y.2, h4, e]))
    · refine Or.inl ?_
      rw [frS_P (by omega), gPu (by decide), gPP (by decide) (by decide), if_neg (by omega)]
  · exfalso
    rw [frS_C (by decide), if_neg (by omega), if_pos ⟨rfl, rfl⟩] at z
    exact absurd z (by decide)
  · refine WFp_le (Nat.le_refl b) (h.2.2.2.2.2.2 q hq) (fun x hx k4 k6 k7 => ?_) ?_
    · rw [frS_P (by omega), gPu (by decide), gPP (by omega) (by decide), if_neg (by omega)]
    · rw [frS_P (by omega), gPu (by decide), gPP (by decide) (by decide)]
      by_cases e : q = p
      · rw [if_pos ⟨e, rfl⟩]; exact ⟨0, by decide, rfl⟩
      · rw [if_neg (by omega)]; exact (h.2.2.2.2.2.2 q hq).2.2.2.1
theorem WF_leg {b : Nat} {S : Sx} {c p z : Nat} (h : WF b S) (hc : c < cn S) (h3 : sC S c 3 = 2) (h4 : sC S c 4 = nI p) (hp : p < pn S) (hz : z < 16) : WF (b + 1) (legS S c p (nI z)) := by
  have hn6 := h.2.1
  have hp4 : sP S p 4 = 1 := by
    rcases (h.2.2.2.2.1 c hc).2 with ⟨y, -⟩ | ⟨p', q1, q2, q3⟩
    · rw [h3] at y; exact absurd y (by decide)
    · have : p' = p := by
        have hm := h.2.2.2.1
        rw [h4, nI_eq (by omega) (by omega)] at q2
        exact q2.symm
      subst this
      rcases q3 with y | y
      · rw [h3] at y; exact absurd y (by decide)
      · exact y.2
  refine WF_step (S := S) h hc (legS_lo (by decide)) (legS_lo (by decide)) (fun d hd hne => ?_) ?_ (Or.inr ⟨p, hp, ?_, Or.inr ⟨?_, ?_⟩⟩) (fun q hq => Or.inl ?_) (fun y d hd hne k => ?_) (fun q hq => ?_)
  · refine ⟨?_, ?_, ?_⟩ <;> rw [legS_C hd (by decide), if_neg (by omega)]
  · exact ⟨z, hz, by rw [legS_C (by omega) (by decide), if_pos ⟨rfl, rfl⟩]⟩
  · rw [legS_C (by omega) (by decide), if_neg (by omega)]; exact h4
  · rw [legS_C (by omega) (by decide), if_neg (by omega)]; exact h3
  · rw [legS_P (by omega) (by decide), if_neg (by omega), if_neg (by omega)]; exact hp4
  · rw [legS_P (by omega) (by decide), if_neg (by omega), if_neg (by omega)]
  · rw [legS_C (by omega) (by decide), if_neg (by omega)] at k
    exact hne (h.2.2.2.2.2.1 d c hd hc k.1 h3 k.2)
  · obtain ⟨q0, q2, q3, q4, q5, ql⟩ := h.2.2.2.2.2.2 q hq
    have g : ∀ x, x < 8 → x ≠ 5 → sP (legS S c p (nI z)) q x = sP S q x := fun x hx h5 => by rw [legS_P (by omega) (by omega), if_neg (by omega), if_neg (by omega)]
    refine ⟨by rw [g 0 (by decide) (by decide), g 1 (by decide) (by decide)]; exact q0, by rw [g 2 (by decide) (by decide)]; exact q2, by rw [g 3 (by decide) (by decide)]; exact q3, by rw [g 4 (by decide) (by decide)]; exact q4, ?_, fun d hd => ?_⟩
    · rw [legS_P (by omega) (by decide), if_neg (by omega)]
      by_cases e : q = p
      · rw [if_pos ⟨e, rfl⟩]; exact ⟨z, hz, rfl⟩
      · rw [if_neg (by omega)]; exact q5
    · rw [legS_P (by omega) (by omega)]
      by_cases e : q = p ∧ 8 + d = 8 + c
      · rw [if_pos e]
        obtain ⟨k, hk, hk2⟩ := ql c (by omega)
        refine ⟨k + 1, by omega, ?_⟩
        rw [← e.1, hk2, nI_1]
      · rw [if_neg e, if_neg (by omega)]
        obtain ⟨k, hk, hk2⟩ := ql d hd
        exact ⟨k, by omega, hk2⟩
theorem WF_del {b : Nat} {S : Sx} {c p : Nat} (h : WF b S) (hc : c < cn S) (h3 : sC S c 3 = 2) (h4 : sC S c 4 = nI p) (hp : p < pn S) : WF b (delS S c p) := by
  have hn6 := h.2.1
  refine WF_step (S := S) h hc (delS_lo (by decide)) (delS_lo (by decide)) (fun d hd hne => ?_) ?_ (Or.inl ?_) (fun q hq => ?_) (fun z => ?_) (fun q hq => ?_)
  · refine ⟨?_, ?_, ?_⟩ <;> rw [delS_C hd (by decide) (by decide), if_neg (by omega), if_neg (by omega)]
  · obtain ⟨z, hz, ez⟩ := (h.2.2.2.2.1 c hc).1
    exact ⟨z, hz, by rw [delS_C (by omega) (by decide) (by decide), if_neg (by omega), if_neg (by omega)]; exact ez⟩
  · refine ⟨?_, ?_⟩
    · rw [delS_C (by omega) (by decide) (by decide), if_neg (by omega), if_pos ⟨rfl, rfl⟩]
    · rw [delS_C (by omega) (by decide) (by decide), if_pos ⟨rfl, rfl⟩]
  · by_cases e : q = p
    · refine Or.inr fun d hd hne y => hne (h.2.2.2.2.2.1 d c hd hc y.1 h3 (by rw [y.2, h4, e]))
    · refine Or.inl ?_
      rw [delS_P (by omega) hn6 (by decide) (by decide) (by decide), if_neg (by omega)]
  · exfalso
    rw [delS_C (by omega) (by decide) (by decide), if_neg (by omega), if_pos ⟨rfl, rfl⟩] at z
    exact absurd z (by decide)
  · refine WFp_le (Nat.le_refl b) (h.2.2.2.2.2.2 q hq) (fun x hx k4 k6 k7 => ?_) ?_
    · rw [delS_P (by omega) hn6 hx k6 k7, if_neg (by omega)]
    · rw [delS_P (by omega) hn6 (by decide) (by decide) (by decide)]
      by_cases e : q = p
      · rw [if_pos ⟨e, rfl⟩]; exact ⟨2, by decide, rfl⟩
      · rw [if_neg (by omega)]; exact (h.2.2.2.2.2.2 q hq).2.2.2.1
theorem WF_up {b b' : Nat} {S : Sx} (hb : b ≤ b') (h : WF b S) : WF b' S := by
  obtain ⟨h1, h2, h3, h4, h5, h6, h7⟩ := h
  refine ⟨h1, h2, h3, h4, h5, h6, fun q hq => WFp_le hb (h7 q hq) (fun _ _ _ _ _ => rfl) (h7 q hq).2.2.2.1⟩
theorem WF_car {b : Nat} {S : Sx} {c p : Nat} (h : WF b S) (hc : c < cn S) (h3 : sC S c 3 = 2) (h4 : sC S c 4 = nI p) (hp : p < pn S) : WF (b + 1) (carS S c p) := by
  have hn6 := h.2.1
  obtain ⟨f, hf, ef⟩ := (h.2.2.2.2.1 c hc).1
  obtain ⟨o, d, ho, hd, -, -, ed⟩ := (h.2.2.2.2.2.2 p hp).1
  obtain ⟨z, hz, ez⟩ := nxz_in f hf d hd
  have hleg := WF_leg h hc h3 h4 hp hz
  unfold carS
  rw [ef, ed, ez]
  split
  · split
    · refine WF_del hleg (by rw [cn_eq (legS_lo (by decide))]; exact hc) ?_ ?_ (by rw [pn_eq (legS_lo (by decide))]; exact hp)
      · rw [legS_C (by omega) (by decide), if_neg (by omega)]; exact h3
      · rw [legS_C (by omega) (by decide), if_neg (by omega)]; exact h4
    · exact hleg
  · exact WF_up (by omega) (WF_frees h hc h3 h4 hp _)
theorem WF_go {b : Nat} {S : Sx} {c p : Nat} (h : WF b S) (hc : c < cn S) (h3 : sC S c 3 = 1) (h4 : sC S c 4 = nI p) (hp : p < pn S) (hs : sP S p 4 = 0) : WF b (goS S c p) := by
  have hn6 := h.2.1
  unfold goS
  split
  · refine WF_step (S := S) h hc ?_ ?_ (fun d hd hne => ?_) ?_ (Or.inr ⟨p, hp, ?_, Or.inr ⟨?_, ?_⟩⟩) (fun q hq => ?_) (fun y d hd hne k => ?_) (fun q hq => ?_)
    · rw [uP_lo (by decide), uC_lo (by decide)]
    · rw [uP_lo (by decide), uC_lo (by decide)]
    · refine ⟨?_, ?_, ?_⟩ <;> rw [gCP hd (by decide), gCC (by decide) (by decide), if_neg (by omega)]
    · obtain ⟨z, hz, ez⟩ := (h.2.2.2.2.1 c hc).1
      exact ⟨z, hz, by rw [gCP (by omega) (by decide), gCC (by decide) (by decide), if_neg (by omega)]; exact ez⟩
    · rw [gCP (by omega) (by decide), gCC (by decide) (by decide), if_neg (by omega)]; exact h4
    · rw [gCP (by omega) (by decide), gCC (by decide) (by decide), if_pos ⟨rfl, rfl⟩]
    · rw [gPP (by decide) (by decide), if_pos ⟨rfl, rfl⟩]
    · by_cases e : q = p
      · refine Or.inr fun d hd hne y => ?_
        rcases (h.2.2.2.2.1 d hd).2 with ⟨w, -⟩ | ⟨p', q1, q2, q3⟩
        · rw [y.1] at w; exact absurd w (by decide)
        · have hm := h.2.2.2.1
          rw [y.2, nI_eq (by omega) (by omega)] at q2
          rcases q3 with w | w
          · rw [y.1] at w; exact absurd w (by decide)
          · rw [← q2, e, hs] at w
            exact absurd w.2 (by decide)
      · refine Or.inl ?_
        rw [gPP (by decide) (by decide), if_neg (by omega), gPC (by omega) (by decide)]
    · rw [gCP (by omega) (by decide), gCC (by decide) (by decide), if_neg (by omega), h4] at k
      rcases (h.2.2.2.2.1 d hd).2 with ⟨w, -⟩ | ⟨p', q1, q2, q3⟩
      · rw [k.1] at w; exact absurd w (by decide)
      · have hm := h.2.2.2.1
        rw [k.2, nI_eq (by omega) (by omega)] at q2
        rcases q3 with w | w
        · rw [k.1] at w; exact absurd w (by decide)
        · rw [← q2, hs] at w
          exact absurd w.2 (by decide)
    · refine WFp_le (Nat.le_refl b) (h.2.2.2.2.2.2 q hq) (fun x hx k4 k6 k7 => ?_) ?_
      · rw [gPP (by omega) (by decide), if_neg (by omega), gPC (by omega) (by decide)]
      · rw [gPP (by decide) (by decide)]
        by_cases e : q = p
        · rw [if_pos ⟨e, rfl⟩]; exact ⟨1, by decide, rfl⟩
        · rw [if_neg (by omega), gPC (by omega) (by decide)]; exact (h.2.2.2.2.2.2 q hq).2.2.2.1
  · obtain ⟨f, hf, ef⟩ := (h.2.2.2.2.1 c hc).1
    obtain ⟨z5, hz5, ez5⟩ := (h.2.2.2.2.2.2 p hp).2.2.2.2.1
    obtain ⟨z, hz, ez⟩ := nxz_in f hf z5 hz5
    rw [ef, ez5, ez]
    refine WF_step (S := S) h hc ?_ ?_ (fun d hd hne => ?_) ⟨z, hz, ?_⟩ ?_ (fun q hq => Or.inl ?_) (fun y d hd hne k => ?_) (fun q hq => ?_)
    · rw [upd_n (by decide), uC_lo (by decide)]
    · rw [upd_n (by decide), uC_lo (by decide)]
    · refine ⟨?_, ?_, ?_⟩ <;> rw [gCu (by decide), gCC (by decide) (by decide), if_neg (by omega)]
    · rw [gCu (by decide), gCC (by decide) (by decide), if_pos ⟨rfl, rfl⟩]
    · refine Or.inr ⟨p, hp, ?_, Or.inl ?_⟩
      · rw [gCu (by decide), gCC (by decide) (by decide), if_neg (by omega)]; exact h4
      · rw [gCu (by decide), gCC (by decide) (by decide), if_neg (by omega)]; exact h3
    · rw [gPu (by decide), gPC (by omega) (by decide)]
    · rw [gCu (by decide), gCC (by decide) (by decide), if_neg (by omega), h3] at y
      exact absurd y (by decide)
    · refine WFp_le (Nat.le_refl b) (h.2.2.2.2.2.2 q hq) (fun x hx k4 k6 k7 => ?_) ?_
      · rw [gPu (by decide), gPC (by omega) (by decide)]
      · rw [gPu (by decide), gPC (by omega) (by decide)]; exact (h.2.2.2.2.2.2 q hq).2.2.2.1
theorem WF_ch {b : Nat} {S : Sx} {c : Nat} (h : WF b S) (hc : c < cn S) : WF b (chS S c) := by
  have hn6 := h.2.1
  unfold chS
  have hz := (h.2.2.2.2.1 c hc).1
  have hm := h.2.2.2.1
  refine WF_step (S := S) h hc ?_ ?_ (fun d hd hne => ?_) ?_ ?_ (fun q hq => Or.inl ?_) (fun y d hd hne k => ?_) (fun q hq => ?_)
  · rw [uC_lo (by decide), uC_lo (by decide)]
  · rw [uC_lo (by decide), uC_lo (by decide)]
  · refine ⟨?_, ?_, ?_⟩ <;> rw [gCC (by decide) (by decide), if_neg (by omega), gCC (by decide) (by decide), if_neg (by omega)]
  · obtain ⟨z, hz, ez⟩ := hz
    exact ⟨z, hz, by rw [gCC (by decide) (by decide), if_neg (by omega), gCC (by decide) (by decide), if_neg (by omega)]; exact ez⟩
  · have e3 : sC (uC (uC S c 3 (if chB S c (pn S) = -1 then 0 else 1)) c 4 (chB S c (pn S))) c 3 = (if chB S c (pn S) = -1 then 0 else 1) := by
      rw [gCC (by decide) (by decide), if_neg (by omega), gCC (by decide) (by decide), if_pos ⟨rfl, rfl⟩]
    have e4 : sC (uC (uC S c 3 (if chB S c (pn S) = -1 then 0 else 1)) c 4 (chB S c (pn S))) c 4 = chB S c (pn S) := by
      rw [gCC (by decide) (by decide), if_pos ⟨rfl, rfl⟩]
    rw [e3, e4]
    rcases chB_ok S c (pn S) with e | ⟨q, hq, e⟩
    · rw [e, if_pos rfl]; exact Or.inl ⟨rfl, rfl⟩
    · rw [e, if_neg (nI_m1 (by omega))]; exact Or.inr ⟨q, hq, rfl, Or.inl rfl⟩
  · rw [gPC (by omega) (by decide), gPC (by omega) (by decide)]
  · rw [gCC (by decide) (by decide), if_neg (by omega), gCC (by decide) (by decide), if_pos ⟨rfl, rfl⟩] at y
    split at y <;> exact absurd y (by decide)
  · refine WFp_le (Nat.le_refl b) (h.2.2.2.2.2.2 q hq) (fun x hx k4 k6 k7 => ?_) ?_
    · rw [gPC (by omega) (by decide), gPC (by omega) (by decide)]
    · rw [gPC (by omega) (by decide), gPC (by omega) (by decide)]; exact (h.2.2.2.2.2.2 q hq).2.2.2.1
/-- with whom a courier does something: its parcel -/
theorem WF_with {b : Nat} {S : Sx} {c : Nat} (h : WF b S) (hc : c < cn S) (h3 : sC S c 3 ≠ 0) : ∃ p, p < pn S ∧ sC S c 4 = nI p ∧ (sC S c 4).toNatClampNeg = p := by
  rcases (h.2.2.2.2.1 c hc).2 with y | ⟨p, hp, e, -⟩
  · exact absurd y.1 h3
  · have hm := h.2.2.2.1
    exact ⟨p, hp, e, by rw [e, n_cl (by omega)]⟩
theorem WF_act {b : Nat} {S : Sx} {c : Nat} (h : WF b S) (hc : c < cn S) : WF (b + 1) (actS S c) := by
  unfold actS
  split
  · rename_i h3
    obtain ⟨p, hp, e1, e2⟩ := WF_with h hc (by rw [h3]; decide)
    rw [e2]
    exact WF_car h hc h3 e1 hp
  · split
    · rename_i h3
      obtain ⟨p, hp, e1, e2⟩ := WF_with h hc (by rw [h3.1]; decide)
      rw [e2] at h3 ⊢
      exact WF_up (by omega) (WF_go h hc h3.1 e1 hp h3.2)
    · exact WF_up (by omega) (WF_ch h hc)
theorem carS_lo {S : Sx} {c p k : Nat} (h : k < 4) : carS S c p k = S k := by
  unfold carS
  split
  · split
    · rw [delS_lo (by omega), legS_lo (by omega)]
    · rw [legS_lo (by omega)]
  · rw [frS_lo (by omega), upd_n (by omega), uP_lo (by omega)]
theorem goS_lo {S : Sx} {c p k : Nat} (h : k < 4) : goS S c p k = S k := by
  unfold goS
  split
  · rw [uP_lo (by omega), uC_lo (by omega)]
  · rw [upd_n (by omega), uC_lo (by omega)]
theorem chS_lo {S : Sx} {c k : Nat} (h : k < 7) : chS S c k = S k := by
  unfold chS
  rw [uC_lo h, uC_lo h]
theorem actS_lo {S : Sx} {c k : Nat} (h : k < 4) : actS S c k = S k := by
  unfold actS
  split
  · exact carS_lo h
  · split
    · exact goS_lo h
    · exact chS_lo (by omega)
theorem actW_lo {S : Sx} {k : Nat} (h : k < 4) : ∀ i, actW S i k = S k := by
  intro i
  induction i with
  | zero => rfl
  | succ i ih => unfold actW; rw [actS_lo h, ih]
theorem WF_actW {b : Nat} {S : Sx} (h : WF b S) : ∀ i, i ≤ cn S → WF (b + i) (actW S i) := by
  intro i
  induction i with
  | zero => intro _; exact h
  | succ i ih =>
    intro hi
    unfold actW
    exact WF_act (ih (by omega)) (by rw [cn_eq (actW_lo (by decide) i)]; exact hi)
theorem frW_lo {S : Sx} {p k : Nat} (h : k < 7) : ∀ i, frW S p i k = S k := by
  intro i
  induction i with
  | zero => rfl
  | succ i ih =>
    unfold frW
    split
    · rw [frS_lo h, ih]
    · exact ih
theorem frW_P {S : Sx} {p q x : Nat} : ∀ i, i ≤ 6 → sP (frW S p i) q x = sP S q x := by
  intro i
  induction i with
  | zero => intro _; rfl
  | succ i ih =>
    intro hi
    unfold frW
    split
    · rw [frS_P (by omega), ih (by omega)]
    · exact ih (by omega)
theorem frW_C {S : Sx} {p d x : Nat} (hx : x < 5) : ∀ i, sC (frW S p i) d x = if d < i ∧ sC S d 4 = nI p then (if x = 4 then -1 else if x = 3 then 0 else sC S d x) else sC S d x := by
  intro i
  induction i generalizing d x with
  | zero => rw [if_neg (by omega)]; rfl
  | succ i ih =>
    have e4 : sC (frW S p i) i 4 = sC S i 4 := by rw [ih (by decide), if_neg (by omega)]
    unfold frW
    rw [e4]
    by_cases h : sC S i 4 = nI p
    · rw [if_pos h, frS_C hx, ih hx]
      by_cases e : d = i
      · subst e
        rw [if_pos (show d < d + 1 ∧ sC S d 4 = nI p from ⟨Nat.lt_succ_self d, h⟩)]
        by_cases x4 : x = 4
        · rw [if_pos (show d = d ∧ x = 4 from ⟨rfl, x4⟩), if_pos x4]
        · rw [if_neg (show ¬ (d = d ∧ x = 4) from fun y => x4 y.2), if_neg x4]
          by_cases x3 : x = 3
          · rw [if_pos (show d = d ∧ x = 3 from ⟨rfl, x3⟩), if_pos x3]
          · rw [if_neg (show ¬ (d = d ∧ x = 3) from fun y => x3 y.2), if_neg x3, if_neg (show ¬ (d < d ∧ sC S d 4 = nI p) from fun y => Nat.lt_irrefl d y.1)]
      · rw [if_neg (show ¬ (d = i ∧ x = 4) from fun y => e y.1), if_neg (show ¬ (d = i ∧ x = 3) from fun y => e y.1)]
        by_cases e2 : d < i ∧ sC S d 4 = nI p
        · rw [if_pos e2, if_pos (show d < i + 1 ∧ sC S d 4 = nI p from ⟨by omega, e2.2⟩)]
        · rw [if_neg e2, if_neg (show ¬ (d < i + 1 ∧ sC S d 4 = nI p) from fun z => e2 ⟨by omega, z.2⟩)]
    · rw [if_neg h, ih hx]
      by_cases e2 : d < i ∧ sC S d 4 = nI p
      · rw [if_pos e2, if_pos (show d < i + 1 ∧ sC S d 4 = nI p from ⟨by omega, e2.2⟩)]
      · rw [if_neg e2, if_neg (show ¬ (d < i + 1 ∧ sC S d 4 = nI p) from fun z => e2 ⟨(by
          rcases Nat.lt_or_ge d i with y | y
          · exact y
          · have : d = i := by omega
            subst this
            exact absurd z.2 h), z.2⟩)]
theorem faiS_lo {S : Sx} {p k : Nat} (h : k < 7) : faiS S p k = S k := by
  unfold faiS
  rw [frW_lo h, uP_lo (by omega)]
theorem WF_fai {b : Nat} {S : Sx} {p : Nat} (h : WF b S) (hp : p < pn S) : WF b (faiS S p) := by
  obtain ⟨h1, h2, h3, h4, h5, h6, h7⟩ := h
  have e2 : faiS S p 2 = S 2 := faiS_lo (by decide)
  have e3 : faiS S p 3 = S 3 := faiS_lo (by decide)
  have en := cn_eq e2
  have em := pn_eq e3
  have eP : ∀ q x, x < 20 → sP (faiS S p) q x = if q = p ∧ x = 4 then 3 else sP S q x := fun q x hx => by
    unfold faiS
    rw [frW_P _ h2, gPP hx (by decide)]
  have eC : ∀ d x, d < cn S → x < 5 → sC (faiS S p) d x = if sC S d 4 = nI p then (if x = 4 then -1 else if x = 3 then 0 else sC S d x) else sC S d x := fun d x hd hx => by
    unfold faiS
    rw [frW_C hx, gCP (by omega) hx, gCP (by omega) (by decide)]
    by_cases z : sC S d 4 = nI p
    · rw [if_pos ⟨hd, z⟩, if_pos z]
    · rw [if_neg (fun y => z y.2), if_neg z]
  refine ⟨by rw [e2, en]; exact h1, by rw [en]; exact h2, by rw [e3, em]; exact h3, by rw [em]; exact h4, ?_, ?_, ?_⟩
  · rw [en]
    intro d hd
    obtain ⟨z1, z2⟩ := h5 d hd
    by_cases z : sC S d 4 = nI p
    · refine ⟨by rw [eC d 1 hd (by decide), if_pos z, if_neg (by decide), if_neg (by decide)]; exact z1, Or.inl ⟨?_, ?_⟩⟩
      · rw [eC d 3 hd (by decide), if_pos z]; rfl
      · rw [eC d 4 hd (by decide), if_pos z]; rfl
    · refine ⟨by rw [eC d 1 hd (by decide), if_neg z]; exact z1, ?_⟩
      rw [eC d 3 hd (by decide), eC d 4 hd (by decide), if_neg z, if_neg z, em]
      rcases z2 with z2 | ⟨q, q1, q2, q3⟩
      · exact Or.inl z2
      · refine Or.inr ⟨q, q1, q2, ?_⟩
        rcases q3 with q3 | ⟨q3, q4⟩
        · exact Or.inl q3
        · refine Or.inr ⟨q3, ?_⟩
          rw [eP q 4 (by decide), if_neg (fun y => z (by rw [q2, y.1]))]
          exact q4
  · rw [en]
    intro d d' hd hd' k1 k2 k3
    by_cases z : sC S d 4 = nI p
    · rw [eC d 3 hd (by decide), if_pos z, if_neg (by decide), if_pos rfl] at k1
      exact absurd k1 (by decide)
    · by_cases z' : sC S d' 4 = nI p
      · rw [eC d' 3 hd' (by decide), if_pos z', if_neg (by decide), if_pos rfl] at k2
        exact absurd k2 (by decide)
      · rw [eC d 3 hd (by decide), if_neg z] at k1
        rw [eC d' 3 hd' (by decide), if_neg z'] at k2
        rw [eC d 4 hd (by decide), eC d' 4 hd' (by decide), if_neg z, if_neg z'] at k3
        exact h6 d d' hd hd' k1 k2 k3
  · rw [em]
    intro q hq
    refine WFp_le (Nat.le_refl b) (h7 q hq) (fun x hx k4 _ _ => by rw [eP q x (by omega), if_neg (by omega)]) ?_
    rw [eP q 4 (by decide)]
    by_cases e : q = p
    · rw [if_pos ⟨e, rfl⟩]; exact ⟨3, by decide, rfl⟩
    · rw [if_neg (by omega)]; exact (h7 q hq).2.2.2.1
theorem flW_lo {S : Sx} {k : Nat} (h : k < 7) : ∀ i, flW S i k = S k := by
  intro i
  induction i with
  | zero => rfl
  | succ i ih =>
    unfold flW
    split
    · rw [faiS_lo h, ih]
    · exact ih
theorem WF_flW {b : Nat} {S : Sx} (h : WF b S) : ∀ i, i ≤ pn S → WF b (flW S i) := by
  intro i
  induction i with
  | zero => intro _; exact h
  | succ i ih =>
    intro hi
    unfold flW
    split
    · exact WF_fai (ih (by omega)) (by rw [pn_eq (flW_lo (by decide) i)]; exact hi)
    · exact ih (by omega)
theorem WF_time {b : Nat} {S : Sx} (v : Int32) (h : WF b S) : WF b (upd S 0 v) := by
  obtain ⟨h1, h2, h3, h4, h5, h6, h7⟩ := h
  have e2 : (upd S 0 v) 2 = S 2 := upd_n (by decide)
  have e3 : (upd S 0 v) 3 = S 3 := upd_n (by decide)
  have en := cn_eq e2
  have em := pn_eq e3
  have eC : ∀ d x, sC (upd S 0 v) d x = sC S d x := fun d x => gCu (by decide)
  have eP : ∀ q x, sP (upd S 0 v) q x = sP S q x := fun q x => gPu (by decide)
  refine ⟨by rw [e2, en]; exact h1, by rw [en]; exact h2, by rw [e3, em]; exact h3, by rw [em]; exact h4, ?_, ?_, ?_⟩
  · rw [en]
    intro d hd
    unfold WFc
    simp only [eC, eP, em]
    exact h5 d hd
  · rw [en]
    intro d d' hd hd'
    simp only [eC]
    exact h6 d d' hd hd'
  · rw [em]
    intro q hq
    exact WFp_le (Nat.le_refl b) (h7 q hq) (fun x _ _ _ _ => eP q x) (by rw [eP]; exact (h7 q hq).2.2.2.1)
theorem WF_tkA {b : Nat} {S : Sx} (h : WF b S) : WF (b + 6) (tkA S) := by
  unfold tkA
  have h1 := WF_time (S 0 + 1) h
  have e2 : cn (upd S 0 (S 0 + 1)) = cn S := cn_eq (upd_n (by decide))
  have h2 := h.2.1
  exact WF_up (by omega) (WF_actW h1 (cn S) (by rw [e2]; exact Nat.le_refl _))
theorem tkA_lo {S : Sx} {k : Nat} (h : k < 4) (h0 : k ≠ 0) : tkA S k = S k := by
  unfold tkA
  rw [actW_lo h, upd_n h0]
theorem WF_tick {b : Nat} {S : Sx} (h : WF b S) : WF (b + 6) (tickS S) := by
  unfold tickS
  exact WF_flW (WF_tkA h) _ (by rw [pn_eq (tkA_lo (by decide) (by decide))]; exact Nat.le_refl _)
theorem tickS_lo {S : Sx} {k : Nat} (h : k < 4) (h0 : k ≠ 0) : tickS S k = S k := by
  unfold tickS
  rw [flW_lo (by omega), tkA_lo h h0]
theorem WF_tkN {b : Nat} {S : Sx} (h : WF b S) : ∀ n, WF (b + 6 * n) (tkN S n) := by
  intro n
  induction n with
  | zero => exact h
  | succ n ih =>
    unfold tkN
    exact WF_up (by omega) (WF_tick ih)
end PU

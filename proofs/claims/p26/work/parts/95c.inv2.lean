/-! KEPT BY ALL THAT HAPPENS: the sums, the carriers, the ways -/
section IVB
theorem PV_4 {S S' : Sx} {q m : Nat} (h : PV S q m) (hn : cn S ≤ cn S') (e : ∀ w, w < 20 → w ≠ 4 → sP S' m w = sP S m w) (h4 : (sP S' m 4 = 0 ∨ sP S' m 4 = 1) → (sP S m 4 = 0 ∨ sP S m 4 = 1)) (h4' : sP S' m 4 ≠ 2 → sP S m 4 ≠ 2) : PV S' q m := by
  obtain ⟨f, t, z, h1, h2, h3, h40, h5, h6, h7, h8, h9, h10, h11, h12⟩ := h
  refine ⟨f, t, z, h1, h2, h3, by rw [e 0 (by decide) (by decide)]; exact h40, by rw [e 1 (by decide) (by decide)]; exact h5, by rw [e 5 (by decide) (by decide)]; exact h6, h7, fun a y => h8 a (h4 y), ?_, ?_, ?_, fun c hc hcn => ?_⟩
  · rw [← h9]; exact sI_cg 6 (fun i hi => e _ (by omega) (by omega))
  · rw [e 7 (by decide) (by decide), ← h10]; exact sI_cg 6 (fun i hi => e _ (by omega) (by omega))
  · rw [e 7 (by decide) (by decide)]; exact fun y => h11 (h4' y)
  · rw [e _ (by omega) (by omega), e _ (by omega) (by omega)]; exact h12 c hc (by omega)
theorem IQ_cg {b q : Nat} {S S' : Sx} (h : IQ b q S) (hn : cn S ≤ 6) (hm : pn S ≤ 24) (e2 : S' 2 = S 2) (e3 : S' 3 = S 3) (e5 : S' 5 = S 5) (e6 : S' 6 = S 6)
    (hC : ∀ d w, d < cn S → w < 5 → w ≠ 0 → sC S' d w = sC S d w) (hP : ∀ m w, m < 24 → w < 20 → sP S' m w = sP S m w) : IQ b q S' := by
  obtain ⟨h1, h2, h3, h4, h5, h6, h7⟩ := h
  have en := cn_eq e2
  have em := pn_eq e3
  refine ⟨?_, ?_, ?_, ?_, ?_, ?_, ?_⟩
  · rw [en, e6, ← h1]; exact sI_cg _ (fun d hd => hC d 2 hd (by decide) (by decide))
  · rw [em, e6, ← h2]; exact sI_cg _ (fun m hm2 => hP m 7 (by omega) (by decide))
  · rw [e5, lgT_cg en em hn (fun m k hm2 hk => hP m _ (by omega) (by omega))]; exact h3
  · rw [em, en]
    intro m hm2
    rw [hP m 4 (by omega) (by decide), ← h4 m hm2]
    exact sI_cg _ (fun d hd => cr2_cg ⟨hC d 3 hd (by decide) (by decide), hC d 4 hd (by decide) (by decide)⟩)
  · rw [em, en]
    intro k m hk hm2 y3 y4
    rw [hC k 3 hk (by decide) (by decide)] at y3
    rw [hC k 4 hk (by decide) (by decide)] at y4
    rw [hC k 1 hk (by decide) (by decide), hP m 5 (by omega) (by decide)]
    exact h5 k m hk hm2 y3 y4
  · rw [em]
    intro m hm2
    exact PV_cg (h6 m hm2) (fun y => y) (Nat.le_of_eq en.symm) (fun w hw => hP m w (by omega) hw)
  · rw [em]
    intro m w h8 h9 h10
    rw [hP m w h9 h10]
    exact h7 m w h8 h9 h10
theorem IQ_up {b b' q : Nat} {S : Sx} (hb : b ≤ b') (h : IQ b q S) : IQ b' q S := by
  obtain ⟨h1, h2, ⟨a, n, a1, a2, a3, a4⟩, h4⟩ := h
  exact ⟨h1, h2, ⟨a, n, a1, a2, a3, by omega⟩, h4⟩
theorem chS_C {S : Sx} {c d x : Nat} (hx : x < 5) : sC (chS S c) d x = if d = c ∧ x = 4 then chB S c (pn S) else if d = c ∧ x = 3 then (if chB S c (pn S) = -1 then 0 else 1) else sC S d x := by
  unfold chS
  rw [gCC hx (by decide), gCC hx (by decide)]
theorem IV_ch {b b0 : Nat} {S : Sx} {c : Nat} (h : IV b S) (hW : WF b0 S) (hc : c < cn S) (h3 : sC S c 3 ≠ 2) : IV (b + 1) (chS S c) := by
  have hn := hW.2.1
  have n3 : sC (chS S c) c 3 ≠ 2 := by
    rw [chS_C (by decide), if_neg (by omega), if_pos ⟨rfl, rfl⟩]
    split <;> decide
  refine IQ_stepC h hW.2.2.2.1 hn hc (chS_lo (by decide)) (chS_lo (by decide)) (chS_lo (by decide)) (Or.inl ⟨chS_lo (by decide), by omega⟩) (fun d hd => ⟨?_, fun hne => ⟨?_, ?_, ?_⟩⟩) (fun m w hm hw => ?_) (fun m hm => ?_) (fun y => absurd y n3)
  · rw [chS_C (by decide), if_neg (by omega), if_neg (by omega)]
  · rw [chS_C (by decide), if_neg (by omega), if_neg (by omega)]
  · rw [chS_C (by decide), if_neg (by omega), if_neg (by omega)]
  · rw [chS_C (by decide), if_neg (by omega), if_neg (by omega)]
  · unfold chS
    rw [gPC (by omega) (by decide), gPC (by omega) (by decide)]
  · unfold cr2
    rw [if_neg (fun y => n3 y.1), if_neg (fun y => h3 y.1)]
theorem IV_go {b b0 : Nat} {S : Sx} {c p : Nat} (h : IV b S) (hW : WF b0 S) (hc : c < cn S) (h3 : sC S c 3 = 1) (h4 : sC S c 4 = nI p) (hp : p < pn S) (hs : sP S p 4 = 0) : IV (b + 1) (goS S c p) := by
  have hn := hW.2.1
  have hm := hW.2.2.2.1
  unfold goS
  split
  · rename_i hz
    have eC : ∀ d x, d < 6 → x < 5 → sC (uP (uC S c 3 2) p 4 1) d x = if d = c ∧ x = 3 then 2 else sC S d x := fun d x hd hx => by rw [gCP hd hx, gCC hx (by decide)]
    have eP : ∀ m x, x < 20 → sP (uP (uC S c 3 2) p 4 1) m x = if m = p ∧ x = 4 then 1 else sP S m x := fun m x hx => by rw [gPP hx (by decide), gPC (by omega) (by decide)]
    have e6 : (uP (uC S c 3 2) p 4 1) 6 = S 6 := by rw [uP_lo (by decide), uC_lo (by decide)]
    have e5 : (uP (uC S c 3 2) p 4 1) 5 = S 5 := by rw [uP_lo (by decide), uC_lo (by decide)]
    have e2 : (uP (uC S c 3 2) p 4 1) 2 = S 2 := by rw [uP_lo (by decide), uC_lo (by decide)]
    have e3 : (uP (uC S c 3 2) p 4 1) 3 = S 3 := by rw [uP_lo (by decide), uC_lo (by decide)]
    generalize (uP (uC S c 3 2) p 4 1) = S' at *
    have k4 : ∀ m, m < pn S → sC S' c 4 = nI m → m = p := fun m hm2 y => by
      rw [eC c 4 (by omega) (by decide), if_neg (by omega), h4, nI_eq (by omega) (by omega)] at y
      exact y.symm
    refine IQ_step h hm hc hp e2 e3 ?_ ?_ ?_ (fun d hd hne => ⟨?_, ?_, ?_⟩) (fun m w hne hm2 hw => ?_) ?_ (fun m hne hm2 => ?_) (fun y m hm2 y4 => ?_) (Or.inl ?_) ?_ (fun m _ _ y => y)
    · rw [e6, ← h.1]
      exact sI_cg _ (fun d hd => by rw [eC d 2 (by omega) (by decide), if_neg (by omega)])
    · rw [e6, eP p 7 (by decide), if_neg (by omega)]
      grind
    · obtain ⟨a, n, a1, a2, a3, a4⟩ := h.2.2.1
      exact ⟨a, n, by rw [e5]; exact a1, by rw [lgT_cg (cn_eq e2) (pn_eq e3) hn (fun m k hm2 hk => by rw [eP m _ (by omega), if_neg (by omega)])]; exact a2, a3, by omega⟩
    · rw [eC d 1 (by omega) (by decide), if_neg (by omega)]
    · rw [eC d 3 (by omega) (by decide), if_neg (by omega)]
    · rw [eC d 4 (by omega) (by decide), if_neg (by omega)]
    · rw [eP m w hw, if_neg (fun y => hne y.1)]
    · have q4 : sP S' p 4 = 1 := by rw [eP p 4 (by decide), if_pos ⟨rfl, rfl⟩]
      have y3 : sC S' c 3 = 2 := by rw [eC c 3 (by omega) (by decide), if_pos ⟨rfl, rfl⟩]
      have y4 : sC S' c 4 = nI p := by rw [eC c 4 (by omega) (by decide), if_neg (by omega)]; exact h4
      rw [show cr2 S' p c = 1 from if_pos ⟨y3, y4⟩, show cr2 S p c = 0 from if_neg (fun y => absurd (h3.symm.trans y.1) (by decide)), q4, hs]
      decide
    · unfold cr2
      rw [if_neg (fun y => hne (k4 m hm2 y.2)), if_neg (fun y => absurd (h3.symm.trans y.1) (by decide))]
    · rw [k4 m hm2 y4, eP p 5 (by decide), if_neg (by omega), eC c 1 (by omega) (by decide), if_neg (by omega)]
      exact hz.symm
    · rw [eP p 5 (by decide), if_neg (by omega)]
    · refine PV_4 (h.2.2.2.2.2.1 p hp) (Nat.le_of_eq (cn_eq e2).symm) (fun w hw hne => by rw [eP p w hw, if_neg (fun y => hne y.2)]) (fun _ => Or.inl hs) (fun _ y => absurd (hs.symm.trans y) (by decide))
  · have eC : ∀ d x, x < 5 → sC (upd (uC S c 1 (nxz (sC S c 1) (sP S p 5))) 5 (S 5 + 1)) d x = if d = c ∧ x = 1 then nxz (sC S c 1) (sP S p 5) else sC S d x := fun d x hx => by rw [gCu (by decide), gCC hx (by decide)]
    have n3 : sC (upd (uC S c 1 (nxz (sC S c 1) (sP S p 5))) 5 (S 5 + 1)) c 3 = 1 := by rw [eC c 3 (by decide), if_neg (by omega)]; exact h3
    refine IQ_stepC h hm hn hc ?_ ?_ ?_ (Or.inr ⟨?_, Nat.le_refl _⟩) (fun d hd => ⟨?_, fun hne => ⟨?_, ?_, ?_⟩⟩) (fun m w hm hw => ?_) (fun m hm => ?_) (fun y => absurd (n3.symm.trans y) (by decide))
    · rw [upd_n (by decide), uC_lo (by decide)]
    · rw [upd_n (by decide), uC_lo (by decide)]
    · rw [upd_n (by decide), uC_lo (by decide)]
    · rw [upd_s]
    · rw [eC d 2 (by decide), if_neg (by omega)]
    · rw [eC d 1 (by decide), if_neg (by omega)]
    · rw [eC d 3 (by decide), if_neg (by omega)]
    · rw [eC d 4 (by decide), if_neg (by omega)]
    · rw [gPu (by decide), gPC (by omega) (by decide)]
    · unfold cr2
      rw [if_neg (fun y => absurd (n3.symm.trans y.1) (by decide)), if_neg (fun y => absurd (h3.symm.trans y.1) (by decide))]
/-- a parcel handed over or dropped: T is S with the parcel waiting -/
theorem IV_hand {b b0 : Nat} {S T : Sx} {c p : Nat} (h : IV b S) (hW : WF b0 S) (hc : c < cn S) (h3 : sC S c 3 = 2) (h4 : sC S c 4 = nI p) (hp : p < pn S)
    (tl : ∀ k, k < 7 → k ≠ 4 → T k = S k) (tC : ∀ d x, d < 6 → x < 5 → sC T d x = sC S d x) (tP : ∀ m x, x < 20 → sP T m x = if m = p ∧ x = 4 then 0 else sP S m x) : IV b (frS T c) := by
  have hn := hW.2.1
  have hm := hW.2.2.2.1
  have s4 : sP S p 4 = 1 := by
    rcases (hW.2.2.2.2.1 c hc).2 with w | ⟨p', q1, q2, q3⟩
    · rw [h3] at w; exact absurd w.1 (by decide)
    · rw [h4, nI_eq (by omega) (by omega)] at q2
      rcases q3 with w | w
      · rw [h3] at w; exact absurd w (by decide)
      · rw [q2]; exact w.2
  have eC : ∀ d x, d < 6 → x < 5 → sC (frS T c) d x = if d = c ∧ x = 4 then -1 else if d = c ∧ x = 3 then 0 else sC S d x := fun d x hd hx => by rw [frS_C hx, tC d x hd hx]
  have eP : ∀ m x, x < 20 → sP (frS T c) m x = if m = p ∧ x = 4 then 0 else sP S m x := fun m x hx => by rw [frS_P (by omega), tP m x hx]
  have el : ∀ k, k < 7 → k ≠ 4 → (frS T c) k = S k := fun k hk h4 => by rw [frS_lo hk, tl k hk h4]
  generalize frS T c = S' at *
  have k3 : sC S' c 3 = 0 := by rw [eC c 3 (by omega) (by decide), if_neg (by omega), if_pos ⟨rfl, rfl⟩]
  have e2 := el 2 (by decide) (by decide)
  have e3 := el 3 (by decide) (by decide)
  refine IQ_step h hm hc hp e2 e3 ?_ ?_ ?_ (fun d hd hne => ⟨?_, ?_, ?_⟩) (fun m w hne hm2 hw => ?_) ?_ (fun m hne hm2 => ?_) (fun y => absurd (k3.symm.trans y) (by decide)) (Or.inl ?_) ?_ (fun m _ _ y => y)
  · rw [el 6 (by decide) (by decide), ← h.1]
    exact sI_cg _ (fun d hd => by rw [eC d 2 (by omega) (by decide), if_neg (by omega), if_neg (by omega)])
  · rw [el 6 (by decide) (by decide), eP p 7 (by decide), if_neg (by omega)]
    grind
  · obtain ⟨a, n, a1, a2, a3, a4⟩ := h.2.2.1
    exact ⟨a, n, by rw [el 5 (by decide) (by decide)]; exact a1, by rw [lgT_cg (cn_eq e2) (pn_eq e3) hn (fun m k hm2 hk => by rw [eP m _ (by omega), if_neg (by omega)])]; exact a2, a3, a4⟩
  · rw [eC d 1 (by omega) (by decide), if_neg (by omega), if_neg (by omega)]
  · rw [eC d 3 (by omega) (by decide), if_neg (by omega), if_neg (by omega)]
  · rw [eC d 4 (by omega) (by decide), if_neg (by omega), if_neg (by omega)]
  · rw [eP m w hw, if_neg (fun y => hne y.1)]
  · have q4 : sP S' p 4 = 0 := by rw [eP p 4 (by decide), if_pos ⟨rfl, rfl⟩]
    rw [show cr2 S' p c = 0 from if_neg (fun y => absurd (k3.symm.trans y.1) (by decide)), show cr2 S p c = 1 from if_pos ⟨h3, h4⟩, q4, s4]
    decide
  · unfold cr2
    rw [if_neg (fun y => absurd (k3.symm.trans y.1) (by decide)), if_neg (fun y => hne (by have := y.2; rw [h4, nI_eq (by omega) (by omega)] at this; exact this.symm))]
  · rw [eP p 5 (by decide), if_neg (by omega)]
  · refine PV_4 (h.2.2.2.2.2.1 p hp) (Nat.le_of_eq (cn_eq e2).symm) (fun w hw hne => by rw [eP p w hw, if_neg (fun y => hne y.2)]) (fun _ => Or.inr s4) (fun _ y => absurd (s4.symm.trans y) (by decide))
theorem WF_car1 {b : Nat} {S : Sx} {c p : Nat} (hW : WF b S) (hc : c < cn S) (h3 : sC S c 3 = 2) (h4 : sC S c 4 = nI p) (hp : p < pn S) : sP S p 4 = 1 := by
  have hm := hW.2.2.2.1
  rcases (hW.2.2.2.2.1 c hc).2 with w | ⟨p', q1, q2, q3⟩
  · rw [h3] at w; exact absurd w.1 (by decide)
  · rw [h4, nI_eq (by omega) (by omega)] at q2
    rcases q3 with w | w
    · rw [h3] at w; exact absurd w (by decide)
    · rw [q2]; exact w.2
/-- a leg: as long as it isn't told whether the parcel has come -/
theorem IV_leg {b b0 : Nat} {S : Sx} {c p : Nat} (h : IV b S) (hW : WF b0 S) (hc : c < cn S) (h3 : sC S c 3 = 2) (h4 : sC S c 4 = nI p) (hp : p < pn S) : IQ (b + 1) p (legS S c p (nxz (sC S c 1) (sP S p 1))) ∧ ∃ z t, z < 16 ∧ t < 16 ∧ nxz (sC S c 1) (sP S p 1) = nI z ∧ sP S p 1 = nI t := by
  have hn := hW.2.1
  have hm := hW.2.2.2.1
  have s4 := WF_car1 hW hc h3 h4 hp
  obtain ⟨f, t, z0, f1, f2, f3, f4, f5, f6, f7, f8, f9, f10, f11, f12⟩ := h.2.2.2.2.2.1 p hp
  have g1 : sC S c 1 = nI z0 := by rw [← h.2.2.2.2.1 c p hc hp h3 h4]; exact f6
  obtain ⟨z, z1, z2, z3, z4⟩ := onr_next f f1 t f2 z0 f3 f7 (f8 (by omega) (Or.inr s4))
  have g2 : nxz (sC S c 1) (sP S p 1) = nI z := by rw [g1, f5]; exact z2
  refine ⟨?_, z, t, z1, f2, g2, f5⟩
  rw [g2]
  have eC : ∀ d x, d < 6 → x < 5 → sC (legS S c p (nI z)) d x = if d = c ∧ x = 1 then nI z else sC S d x := fun d x hd hx => legS_C hd hx
  have eP : ∀ m x, x < 20 → sP (legS S c p (nI z)) m x = if m = p ∧ x = 8 + c then sP S p (8 + c) + 1 else if m = p ∧ x = 5 then nI z else sP S m x := fun m x hx => legS_P (by omega) hx
  have e2 : legS S c p (nI z) 2 = S 2 := legS_lo (by decide)
  have e3 : legS S c p (nI z) 3 = S 3 := legS_lo (by decide)
  have e5 : legS S c p (nI z) 5 = S 5 + 1 := by
    unfold legS
    rw [uP_lo (by decide), uP_lo (by decide), upd_s]
  have e6 : legS S c p (nI z) 6 = S 6 := by
    unfold legS
    rw [uP_lo (by decide), uP_lo (by decide), upd_n (by decide), uC_lo (by decide)]
  generalize legS S c p (nI z) = S' at *
  refine IQ_step h hm hc hp e2 e3 ?_ ?_ ?_ (fun d hd hne => ⟨?_, ?_, ?_⟩) (fun m w hne hm2 hw => ?_) ?_ (fun m hne hm2 => ?_) (fun y m hm2 y4 => ?_) (Or.inr fun d hd hne y y4 => ?_) ?_ (fun m hm2 hne y => by omega)
  · rw [e6, ← h.1]
    exact sI_cg _ (fun d hd => by rw [eC d 2 (by omega) (by decide), if_neg (by omega)])
  · rw [e6, eP p 7 (by decide), if_neg (by omega), if_neg (by omega)]
    grind
  · obtain ⟨a, n, a1, a2, a3, a4⟩ := h.2.2.1
    refine ⟨a + 1, n + 1, by rw [e5, a1, nI_1], ?_, by omega, by omega⟩
    rw [lgT_leg (S := S) (c := c) (p := p) (cn_eq e2) (pn_eq e3) hc hp (fun m k hm2 hk => ?_), a2, nI_1]
    rw [eP m _ (by omega)]
    by_cases y : m = p ∧ k = c
    · rw [if_pos ⟨y.1, by omega⟩, if_pos y, y.1, y.2]
    · rw [if_neg (by omega), if_neg (by omega), if_neg y]
  · rw [eC d 1 (by omega) (by decide), if_neg (by omega)]
  · rw [eC d 3 (by omega) (by decide), if_neg (by omega)]
  · rw [eC d 4 (by omega) (by decide), if_neg (by omega)]
  · rw [eP m w hw, if_neg (fun y => hne y.1), if_neg (fun y => hne y.1)]
  · rw [cr2_cg (S := S) (S' := S') ⟨by rw [eC c 3 (by omega) (by decide), if_neg (by omega)], by rw [eC c 4 (by omega) (by decide), if_neg (by omega)]⟩, show sP S' p 4 = sP S p 4 by rw [eP p 4 (by decide), if_neg (by omega), if_neg (by omega)]]
    grind
  · exact cr2_cg ⟨by rw [eC c 3 (by omega) (by decide), if_neg (by omega)], by rw [eC c 4 (by omega) (by decide), if_neg (by omega)]⟩
  · rw [eC c 4 (by omega) (by decide), if_neg (by omega), h4, nI_eq (by omega) (by omega)] at y4
    subst y4
    rw [eP p 5 (by decide), if_neg (by omega), if_pos ⟨rfl, rfl⟩, eC c 1 (by omega) (by decide), if_pos ⟨rfl, rfl⟩]
  · exact hne (hW.2.2.2.2.2.1 d c hd hc y h3 (by rw [y4, h4]))
  · refine ⟨f, t, z, f1, f2, z1, ?_, ?_, ?_, z3, fun y => absurd rfl y, ?_, ?_, ?_, fun k hk hkn => ?_⟩
    · rw [eP p 0 (by decide), if_neg (by omega), if_neg (by omega)]; exact f4
    · rw [eP p 1 (by decide), if_neg (by omega), if_neg (by omega)]; exact f5
    · rw [eP p 5 (by decide), if_neg (by omega), if_pos ⟨rfl, rfl⟩]
    · rw [sI_one (f := fun k => sP S p (8 + k)) (i := c) (d := 1) 6 (by omega) ?_ (fun k hk hne => ?_), f9, z4, nI_1]
      · show sP S' p (8 + c) - sP S p (8 + c) = 1
        rw [eP p _ (by omega), if_pos ⟨rfl, rfl⟩]
        grind
      · show sP S' p (8 + k) = sP S p (8 + k)
        rw [eP p _ (by omega), if_neg (by omega), if_neg (by omega)]
    · rw [eP p 7 (by decide), if_neg (by omega), if_neg (by omega), ← f10]
      exact sI_cg 6 (fun k hk => by rw [eP p _ (by omega), if_neg (by omega), if_neg (by omega)])
    · rw [eP p 4 (by decide), if_neg (by omega), if_neg (by omega), eP p 7 (by decide), if_neg (by omega), if_neg (by omega)]
      exact f11
    · rw [cn_eq e2] at hkn
      rw [eP p _ (by omega), if_neg (by omega), if_neg (by omega), eP p _ (by omega), if_neg (by omega), if_neg (by omega)]
      exact f12 k hk hkn
end IVB

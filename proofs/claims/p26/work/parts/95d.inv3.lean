/-! KEPT BY ALL THAT HAPPENS: delivery, a tick, the calls -/
section IVC
theorem fsh_cg {S S' : Sx} {p : Nat} {m : Int32} (e : ∀ c, c < 6 → sP S' p (8 + c) = sP S p (8 + c)) {c : Nat} (hc : c < 6) : fsh S' p m c = fsh S p m c := by
  have hl : lsum S' p 6 = lsum S p 6 := by rw [lsum_sI, lsum_sI]; exact sI_cg 6 e
  have hq : ∀ d, d < 6 → shq S' p m d = shq S p m d := fun d hd => by unfold shq; rw [hl, e d hd]
  have hr : ∀ d, d < 6 → shr S' p m d = shr S p m d := fun d hd => by unfold shr; rw [hl, e d hd]
  have hk : ∀ i, i ≤ 6 → rnk S' p m c i = rnk S p m c i := by
    intro i
    induction i with
    | zero => intro _; rfl
    | succ i ih => intro hi; unfold rnk; rw [ih (by omega), hr c hc, hr i (by omega)]
  have ht : ∀ i, i ≤ 6 → rst S' p m i = rst S p m i := by
    intro i
    induction i with
    | zero => intro _; rfl
    | succ i ih => intro hi; unfold rst; rw [ih (by omega), hq i (by omega)]
  unfold fsh
  rw [hk 6 (Nat.le_refl _), ht 6 (Nat.le_refl _), hq c hc]
theorem tipW_2 {S : Sx} {p d : Nat} (hd : d < 6) : ∀ i, i ≤ 6 → sC (tipW S p i) d 2 = if d < i then sC S d 2 + sP S p (14 + d) else sC S d 2 := by
  intro i
  induction i with
  | zero => intro _; rw [if_neg (by omega)]; rfl
  | succ i ih =>
    intro hi
    unfold tipW
    rw [gCC (by decide) (by decide), tipW_P _ (by omega)]
    by_cases e : d = i
    · subst e
      rw [if_pos ⟨rfl, rfl⟩, if_pos (by omega), ih (by omega), if_neg (by omega)]
    · rw [if_neg (fun y => e y.1), ih (by omega)]
      by_cases l : d < i
      · rw [if_pos l, if_pos (by omega)]
      · rw [if_neg l, if_neg (by omega)]
theorem shW_h {S : Sx} {p q k : Nat} {m : Int32} (hk : k < 6) : ∀ i, i ≤ 6 → sP (shW S p m i) q (14 + k) = if q = p ∧ k < i then fsh S p m k else sP S q (14 + k) := by
  intro i
  induction i with
  | zero => intro _; rw [if_neg (by omega)]; rfl
  | succ i ih =>
    intro hi
    unfold shW
    rw [gPP (by omega) (by omega), ih (by omega)]
    by_cases e : q = p
    · subst e
      by_cases ek : k = i
      · subst ek
        rw [if_pos ⟨rfl, rfl⟩, if_pos ⟨rfl, by omega⟩]
      · rw [if_neg (by omega)]
        by_cases l : k < i
        · rw [if_pos ⟨rfl, l⟩, if_pos ⟨rfl, by omega⟩]
        · rw [if_neg (fun y => l y.2), if_neg (by omega)]
    · rw [if_neg (fun y => e y.1), if_neg (fun y => e y.1), if_neg (fun y => e y.1)]
theorem shareS_h {S : Sx} {p q k : Nat} {m : Int32} (hn : cn S ≤ 6) (hk : k < 6) : sP (shareS S p m) q (14 + k) = if q = p then fsh S p m k else sP S q (14 + k) := by
  unfold shareS
  rw [tipW_P _ hn, shW_h hk 6 (Nat.le_refl _)]
  by_cases e : q = p
  · rw [if_pos ⟨e, hk⟩, if_pos e]
  · rw [if_neg (fun y => e y.1), if_neg e]
theorem shareS_2 {S : Sx} {p d : Nat} {m : Int32} (hn : cn S ≤ 6) (hd : d < 6) : sC (shareS S p m) d 2 = if d < cn S then sC S d 2 + fsh S p m d else sC S d 2 := by
  unfold shareS
  rw [tipW_2 hd _ hn, shW_h hd 6 (Nat.le_refl _), shW_C hd (by decide)]
  by_cases l : d < cn S
  · rw [if_pos l, if_pos l, if_pos ⟨rfl, hd⟩]
  · rw [if_neg l, if_neg l]
theorem dl1_fsh {S : Sx} {p c : Nat} {m : Int32} (hc : c < 6) : fsh (dl1 S p) p m c = fsh S p m c := fsh_cg (fun d hd => by rw [dl1_P (by omega) (by omega) (by omega), if_neg (by omega)]) hc
theorem cn_dl1 {S : Sx} {p : Nat} : cn (dl1 S p) = cn S := cn_eq (dl1_lo (by decide))
theorem delS_lo6 {S : Sx} {c p : Nat} : delS S c p 6 = S 6 + payS S p := by
  rw [delS_eq, frS_lo (by decide), shareS_lo (by decide)]
  unfold dl1
  rw [upd_s]
theorem delS_2 {S : Sx} {c p d : Nat} (hn : cn S ≤ 6) (hd : d < cn S) : sC (delS S c p) d 2 = sC S d 2 + fsh S p (payS S p) d := by
  rw [delS_eq, frS_C (by decide), if_neg (by omega), if_neg (by omega), shareS_2 (by rw [cn_dl1]; exact hn) (by omega), if_pos (by rw [cn_dl1]; exact hd), dl1_fsh (by omega), dl1_C (by omega) (by decide)]
theorem delS_h {S : Sx} {c p q k : Nat} (hc : c < 6) (hn : cn S ≤ 6) (hk : k < 6) : sP (delS S c p) q (14 + k) = if q = p then fsh S p (payS S p) k else sP S q (14 + k) := by
  rw [delS_eq, frS_P hc, shareS_h (by rw [cn_dl1]; exact hn) hk, dl1_fsh hk]
  by_cases e : q = p
  · rw [if_pos e, if_pos e]
  · rw [if_neg e, if_neg e, dl1_P (by omega) (by omega) (by omega), if_neg (by omega)]
theorem delS_67 {S : Sx} {c p q x : Nat} (hc : c < 6) (hn : cn S ≤ 6) (hx : x = 6 ∨ x = 7) : sP (delS S c p) q x = if q = p then (if x = 6 then S 0 else payS S p) else sP S q x := by
  rw [delS_eq, frS_P hc, shareS_P (by rw [cn_dl1]; exact hn) (by omega)]
  unfold dl1
  rw [gPu (by decide), gPP (by omega) (by decide), gPP (by omega) (by decide), gPP (by omega) (by decide)]
  rcases hx with rfl | rfl
  · by_cases e : q = p
    · rw [if_neg (by omega), if_pos ⟨e, rfl⟩, if_pos e]; rfl
    · rw [if_neg (by omega), if_neg (by omega), if_neg (by omega), if_neg e]
  · by_cases e : q = p
    · rw [if_pos ⟨e, rfl⟩, if_pos e]; rfl
    · rw [if_neg (by omega), if_neg (by omega), if_neg (by omega), if_neg e]
theorem pay_n {b : Nat} {S : Sx} {p : Nat} (hW : WFp b S p) : ∃ k, k ≤ 1000 ∧ payS S p = nI k := by
  obtain ⟨k, hk, e⟩ := hW.2.2.1
  unfold payS
  rw [e]
  split
  · exact ⟨k, hk, rfl⟩
  · exact ⟨k / 2, by omega, by rw [show (2 : Int32) = nI 2 from rfl, pk_div (by omega) (by decide) (by decide)]⟩
theorem IV_del {b b0 : Nat} {S : Sx} {c p : Nat} (h : IQ b p S) (hW : WF b0 S) (hc : c < cn S) (h3 : sC S c 3 = 2) (h4 : sC S c 4 = nI p) (hp : p < pn S) (hL : LG S p) : IV b (delS S c p) := by
  have hn := hW.2.1
  have hm := hW.2.2.2.1
  have s4 := WF_car1 hW hc h3 h4 hp
  obtain ⟨f, t, z, f1, f2, f3, f4, f5, f6, f7, f8, f9, f10, f11, f12⟩ := h.2.2.2.2.2.1 p hp
  obtain ⟨k, hk, ek⟩ := pay_n (hW.2.2.2.2.2.2 p hp)
  have s7 : sP S p 7 = 0 := f11 (by rw [s4]; decide)
  have eC : ∀ d x, d < 6 → x < 5 → x ≠ 2 → sC (delS S c p) d x = if d = c ∧ x = 4 then -1 else if d = c ∧ x = 3 then 0 else sC S d x := fun d x hd hx h2 => delS_C hd hx h2
  have eP : ∀ m x, x < 14 → x ≠ 6 → x ≠ 7 → sP (delS S c p) m x = if m = p ∧ x = 4 then 2 else sP S m x := fun m x hx y6 y7 => delS_P (by omega) hn hx y6 y7
  have eH : ∀ m x, x < 6 → sP (delS S c p) m (14 + x) = if m = p then fsh S p (payS S p) x else sP S m (14 + x) := fun m x hx => delS_h (by omega) hn hx
  have e7 : sP (delS S c p) p 7 = payS S p := by rw [delS_67 (by omega) hn (Or.inr rfl), if_pos rfl, if_neg (by decide)]
  have eO : ∀ m x, m ≠ p → x < 20 → sP (delS S c p) m x = sP S m x := fun m x hne hx => by
    by_cases y : x = 6 ∨ x = 7
    · rw [delS_67 (by omega) hn y, if_neg hne]
    · by_cases y2 : x < 14
      · rw [eP m x y2 (by omega) (by omega), if_neg (fun w => hne w.1)]
      · have := eH m (x - 14) (by omega)
        rw [show 14 + (x - 14) = x by omega, if_neg hne] at this
        exact this
  have e2 : delS S c p 2 = S 2 := delS_lo (by decide)
  have e3 : delS S c p 3 = S 3 := delS_lo (by decide)
  have e5 : delS S c p 5 = S 5 := delS_lo (by decide)
  have e6 : delS S c p 6 = S 6 + payS S p := delS_lo6
  have eT : ∀ d, d < cn S → sC (delS S c p) d 2 = sC S d 2 + fsh S p (payS S p) d := fun d hd => delS_2 hn hd
  generalize delS S c p = S' at *
  have k3 : sC S' c 3 = 0 := by rw [eC c 3 (by omega) (by decide) (by decide), if_neg (by omega), if_pos ⟨rfl, rfl⟩]
  have hz : ∀ x, x < 6 → cn S ≤ x → fsh S p (payS S p) x = 0 := fun x hx hcx => by rw [ek]; exact fsh_zero hk hL hx (f12 x hx hcx).1
  have hsum : sI (fun x => fsh S p (payS S p) x) 6 = payS S p := by rw [ek]; exact fsh_sum hk hL
  refine IQ_step h hm hc hp e2 e3 ?_ ?_ ?_ (fun d hd hne => ⟨?_, ?_, ?_⟩) (fun m w hne hm2 hw => eO m w hne hw) ?_ (fun m hne hm2 => ?_) (fun y => absurd (k3.symm.trans y) (by decide)) (Or.inl ?_) ?_ (fun m _ hne _ => hne)
  · rw [e6, ← h.1, sI_cg (f := fun d => sC S' d 2) (g := fun d => sC S d 2 + fsh S p (payS S p) d) (cn S) (fun d hd => eT d hd), sI_add (f := fun d => sC S d 2) (g := fun d => fsh S p (payS S p) d), ← sI_ext 6 hn (fun i h1 h2 => hz i h2 h1), hsum]
  · rw [e6, e7, s7]
    grind
  · obtain ⟨a, n, a1, a2, a3, a4⟩ := h.2.2.1
    exact ⟨a, n, by rw [e5]; exact a1, by rw [lgT_cg (cn_eq e2) (pn_eq e3) hn (fun m x hm2 hx => by rw [eP m _ (by omega) (by omega) (by omega), if_neg (by omega)])]; exact a2, a3, a4⟩
  · rw [eC d 1 (by omega) (by decide) (by decide), if_neg (by omega), if_neg (by omega)]
  · rw [eC d 3 (by omega) (by decide) (by decide), if_neg (by omega), if_neg (by omega)]
  · rw [eC d 4 (by omega) (by decide) (by decide), if_neg (by omega), if_neg (by omega)]
  · have q4 : sP S' p 4 = 2 := by rw [eP p 4 (by decide) (by decide) (by decide), if_pos ⟨rfl, rfl⟩]
    rw [show cr2 S' p c = 0 from if_neg (fun y => absurd (k3.symm.trans y.1) (by decide)), show cr2 S p c = 1 from if_pos ⟨h3, h4⟩, q4, s4]
    decide
  · unfold cr2
    rw [if_neg (fun y => absurd (k3.symm.trans y.1) (by decide)), if_neg (fun y => hne (by have := y.2; rw [h4, nI_eq (by omega) (by omega)] at this; exact this.symm))]
  · rw [eP p 5 (by decide) (by decide) (by decide), if_neg (by omega)]
  · have q4 : sP S' p 4 = 2 := by rw [eP p 4 (by decide) (by decide) (by decide), if_pos ⟨rfl, rfl⟩]
    refine ⟨f, t, z, f1, f2, f3, ?_, ?_, ?_, f7, fun _ y => ?_, ?_, ?_, fun y => absurd q4 y, fun x hx hcx => ?_⟩
    · rw [eP p 0 (by decide) (by decide) (by decide), if_neg (by omega)]; exact f4
    · rw [eP p 1 (by decide) (by decide) (by decide), if_neg (by omega)]; exact f5
    · rw [eP p 5 (by decide) (by decide) (by decide), if_neg (by omega)]; exact f6
    · rw [q4] at y; exact y.elim (fun w => absurd w (by decide)) (fun w => absurd w (by decide))
    · rw [← f9]; exact sI_cg 6 (fun x hx => by rw [eP p _ (by omega) (by omega) (by omega), if_neg (by omega)])
    · rw [e7, ← hsum]; exact sI_cg 6 (fun x hx => by rw [eH p x hx, if_pos rfl])
    · rw [cn_eq e2] at hcx
      rw [eP p _ (by omega) (by omega) (by omega), if_neg (by omega), eH p x hx, if_pos rfl]
      exact ⟨(f12 x hx hcx).1, hz x hx hcx⟩
theorem LG_lg {b : Nat} {S : Sx} {c p z : Nat} (hb : b < 100000) (h : WF b S) (hc : c < cn S) (h3 : sC S c 3 = 2) (h4 : sC S c 4 = nI p) (hp : p < pn S) (hz : z < 16) : LG (legS S c p (nI z)) p := by
  have hn := h.2.1
  have h1 := WF_leg h hc h3 h4 hp hz
  have hq := (h1.2.2.2.2.2.2 p (by rw [pn_eq (legS_lo (by decide))]; exact hp)).2.2.2.2.2
  refine ⟨fun d => (sP (legS S c p (nI z)) p (8 + d)).toNatClampNeg, fun d hd => ?_, c, by omega, ?_⟩
  · obtain ⟨k, hk, e⟩ := hq d hd
    show (sP (legS S c p (nI z)) p (8 + d)).toNatClampNeg ≤ 100000 ∧ sP (legS S c p (nI z)) p (8 + d) = nI (sP (legS S c p (nI z)) p (8 + d)).toNatClampNeg
    rw [e, n_cl (by omega)]
    exact ⟨by omega, rfl⟩
  · obtain ⟨k, hk, e⟩ := (h.2.2.2.2.2.2 p hp).2.2.2.2.2 c (by omega)
    show 0 < (sP (legS S c p (nI z)) p (8 + c)).toNatClampNeg
    rw [legS_P (by omega) (by omega), if_pos ⟨rfl, rfl⟩, e, nI_1, n_cl (by omega)]
    omega
theorem IV_car {b : Nat} {S : Sx} {c p : Nat} (hb : b < 100000) (h : IV b S) (hW : WF b S) (hc : c < cn S) (h3 : sC S c 3 = 2) (h4 : sC S c 4 = nI p) (hp : p < pn S) : IV (b + 1) (carS S c p) := by
  have hn := hW.2.1
  have hm := hW.2.2.2.1
  unfold carS
  split
  · obtain ⟨g1, z, t, hz, ht, ez, et⟩ := IV_leg h hW hc h3 h4 hp
    have hL : LG (legS S c p (nxz (sC S c 1) (sP S p 1))) p := by rw [ez]; exact LG_lg hb hW hc h3 h4 hp hz
    have hW1 : WF (b + 1) (legS S c p (nxz (sC S c 1) (sP S p 1))) := by rw [ez]; exact WF_leg hW hc h3 h4 hp hz
    have c3 : sC (legS S c p (nxz (sC S c 1) (sP S p 1))) c 3 = 2 := by rw [legS_C (by omega) (by decide), if_neg (by omega)]; exact h3
    have c4 : sC (legS S c p (nxz (sC S c 1) (sP S p 1))) c 4 = nI p := by rw [legS_C (by omega) (by decide), if_neg (by omega)]; exact h4
    have hc1 : c < cn (legS S c p (nxz (sC S c 1) (sP S p 1))) := by rw [cn_eq (legS_lo (by decide))]; exact hc
    have hp1 : p < pn (legS S c p (nxz (sC S c 1) (sP S p 1))) := by rw [pn_eq (legS_lo (by decide))]; exact hp
    split
    · exact IV_del g1 hW1 hc1 c3 c4 hp1 hL
    · rename_i hne
      obtain ⟨k1, k2, k3, k4, k5, k6, k7⟩ := g1
      refine ⟨k1, k2, k3, k4, k5, fun m hm2 => ?_, k7⟩
      by_cases e : m = p
      · subst e
        obtain ⟨f, t', z', f1, f2, f3, f4, f5, f6, f7, f8, f9⟩ := k6 m hm2
        refine ⟨f, t', z', f1, f2, f3, f4, f5, f6, f7, fun _ _ y => hne ?_, f9⟩
        rw [legS_P (by omega) (by decide), if_neg (by omega), if_pos ⟨rfl, rfl⟩] at f6
        rw [legS_P (by omega) (by decide), if_neg (by omega), if_neg (by omega)] at f5
        rw [f6, f5, y]
      · exact PV_cg (k6 m hm2) (fun _ => e) (Nat.le_refl _) (fun _ _ => rfl)
  · exact IQ_up (by omega) (IV_hand h hW hc h3 h4 hp (fun k hk h4 => by rw [upd_n h4, uP_lo (by omega)]) (fun d x hd hx => by rw [gCu (by decide), gCP hd hx]) (fun m x hx => by rw [gPu (by decide), gPP hx (by decide)]))
theorem IV_act {b : Nat} {S : Sx} {c : Nat} (hb : b < 100000) (h : IV b S) (hW : WF b S) (hc : c < cn S) : IV (b + 1) (actS S c) := by
  unfold actS
  split
  · rename_i h3
    obtain ⟨p, hp, e1, e2⟩ := WF_with hW hc (by rw [h3]; decide)
    rw [e2]
    exact IV_car hb h hW hc h3 e1 hp
  · rename_i n3
    split
    · rename_i h3
      obtain ⟨p, hp, e1, e2⟩ := WF_with hW hc (by rw [h3.1]; decide)
      rw [e2] at h3 ⊢
      exact IV_go h hW hc h3.1 e1 hp h3.2
    · exact IV_ch h hW hc n3
theorem IV_fai {b b0 : Nat} {S : Sx} {p : Nat} (h : IV b S) (hW : WF b0 S) (hp : p < pn S) (h4 : sP S p 4 = 0 ∨ sP S p 4 = 1) : IV b (faiS S p) := by
  have hn := hW.2.1
  have hm := hW.2.2.2.1
  obtain ⟨i1, i2, i3, i4, i5, i6, i7⟩ := h
  have e2 : faiS S p 2 = S 2 := faiS_lo (by decide)
  have e3 : faiS S p 3 = S 3 := faiS_lo (by decide)
  have e5 : faiS S p 5 = S 5 := faiS_lo (by decide)
  have e6 : faiS S p 6 = S 6 := faiS_lo (by decide)
  have eP : ∀ q x, x < 20 → sP (faiS S p) q x = if q = p ∧ x = 4 then 3 else sP S q x := fun q x hx => by
    unfold faiS
    rw [frW_P _ hn, gPP hx (by decide)]
  have eC : ∀ d x, d < cn S → x < 5 → sC (faiS S p) d x = if sC S d 4 = nI p then (if x = 4 then -1 else if x = 3 then 0 else sC S d x) else sC S d x := fun d x hd hx => by
    unfold faiS
    rw [frW_C hx, gCP (by omega) hx, gCP (by omega) (by decide)]
    by_cases z : sC S d 4 = nI p
    · rw [if_pos ⟨hd, z⟩, if_pos z]
    · rw [if_neg (fun y => z y.2), if_neg z]
  generalize faiS S p = S' at *
  have en := cn_eq e2
  have em := pn_eq e3
  have c2 : ∀ m d, m < pn S → d < cn S → cr2 S' m d = if m = p then 0 else cr2 S m d := by
    intro m d hm2 hd
    by_cases z : sC S d 4 = nI p
    · have y3 : sC S' d 3 = 0 := by rw [eC d 3 hd (by decide), if_pos z, if_neg (by decide), if_pos rfl]
      rw [show cr2 S' m d = 0 from if_neg (fun y => absurd (y3.symm.trans y.1) (by decide))]
      by_cases e : m = p
      · rw [if_pos e]
      · rw [if_neg e]
        exact (if_neg (fun y => e (by have := y.2; rw [z, nI_eq (by omega) (by omega)] at this; exact this.symm))).symm
    · rw [cr2_cg (S := S) ⟨by rw [eC d 3 hd (by decide), if_neg z], by rw [eC d 4 hd (by decide), if_neg z]⟩]
      by_cases e : m = p
      · rw [if_pos e]
        exact if_neg (fun y => z (by rw [← e]; exact y.2))
      · rw [if_neg e]
  refine ⟨?_, ?_, ?_, ?_, ?_, ?_, ?_⟩
  · rw [en, e6, ← i1]
    refine sI_cg _ (fun d hd => ?_)
    rw [eC d 2 hd (by decide)]
    split
    · rw [if_neg (by decide), if_neg (by decide)]
    · rfl
  · rw [em, e6, ← i2]
    exact sI_cg _ (fun m hm2 => by rw [eP m 7 (by decide), if_neg (by omega)])
  · rw [e5, lgT_cg en em hn (fun m k hm2 hk => by rw [eP m _ (by omega), if_neg (by omega)])]; exact i3
  · rw [em, en]
    intro m hm2
    by_cases e : m = p
    · subst e
      rw [show sP S' m 4 = 3 by rw [eP m 4 (by decide), if_pos ⟨rfl, rfl⟩], if_neg (by decide)]
      exact sI_zero _ (fun d hd => by rw [c2 m d hm2 hd, if_pos rfl])
    · rw [show sP S' m 4 = sP S m 4 by rw [eP m 4 (by decide), if_neg (fun y => e y.1)], ← i4 m hm2]
      exact sI_cg _ (fun d hd => by rw [c2 m d hm2 hd, if_neg e])
  · rw [em, en]
    intro k m hk hm2 y3 y4
    by_cases z : sC S k 4 = nI p
    · rw [eC k 3 hk (by decide), if_pos z, if_neg (by decide), if_pos rfl] at y3
      exact absurd y3 (by decide)
    · rw [eC k 3 hk (by decide), if_neg z] at y3
      rw [eC k 4 hk (by decide), if_neg z] at y4
      rw [eC k 1 hk (by decide), if_neg z, eP m 5 (by decide), if_neg (by omega)]
      exact i5 k m hk hm2 y3 y4
  · rw [em]
    intro m hm2
    by_cases e : m = p
    · subst e
      have q4 : sP S' m 4 = 3 := by rw [eP m 4 (by decide), if_pos ⟨rfl, rfl⟩]
      refine PV_4 (i6 m hm2) (Nat.le_of_eq en.symm) (fun w hw hne => by rw [eP m w hw, if_neg (fun y => hne y.2)]) (fun y => h4) (fun _ y => ?_)
      rcases h4 with w | w <;> rw [w] at y <;> exact absurd y (by decide)
    · exact PV_cg (i6 m hm2) (fun y => y) (Nat.le_of_eq en.symm) (fun w hw => by rw [eP m w hw, if_neg (fun y => e y.1)])
  · rw [em]
    intro m w h8 h9 h10
    rw [eP m w h10, if_neg (by omega)]
    exact i7 m w h8 h9 h10
theorem IV_actW {b : Nat} {S : Sx} (h : IV b S) (hW : WF b S) (hb : b + 6 < 100000) : ∀ i, i ≤ cn S → IV (b + i) (actW S i) := by
  intro i
  induction i with
  | zero => intro _; exact h
  | succ i ih =>
    intro hi
    have hn := hW.2.1
    unfold actW
    exact IV_act (b := b + i) (by omega) (ih (by omega)) (WF_actW hW i (by omega)) (by rw [cn_eq (actW_lo (by decide) i)]; exact hi)
theorem IV_time {b : Nat} {S : Sx} (v : Int32) (hn : cn S ≤ 6) (hm : pn S ≤ 24) (h : IV b S) : IV b (upd S 0 v) :=
  IQ_cg h hn hm (upd_n (by decide)) (upd_n (by decide)) (upd_n (by decide)) (upd_n (by decide)) (fun d w _ _ _ => gCu (by decide)) (fun m w _ _ => gPu (by decide))
theorem IV_flW {b b0 : Nat} {S : Sx} (h : IV b S) (hW : WF b0 S) : ∀ i, i ≤ pn S → IV b (flW S i) := by
  intro i
  induction i with
  | zero => intro _; exact h
  | succ i ih =>
    intro hi
    have hp : i < pn (flW S i) := by rw [pn_eq (flW_lo (by decide) i)]; exact hi
    have hWi := WF_flW hW i (by omega)
    unfold flW
    split
    · rename_i hc
      refine IV_fai (ih (by omega)) hWi hp ?_
      obtain ⟨k, hk, ek⟩ := (hWi.2.2.2.2.2.2 i hp).2.2.2.1
      have h2 := hc.1
      rw [ek, show (2 : Int32) = nI 2 from rfl, n_lt (by omega) (by decide)] at h2
      rw [ek]
      rcases (show k = 0 ∨ k = 1 by omega) with e | e <;> rw [e]
      · exact Or.inl rfl
      · exact Or.inr rfl
    · exact ih (by omega)
theorem IV_tick {b : Nat} {S : Sx} (h : IV b S) (hW : WF b S) (hb : b + 6 < 100000) : IV (b + 6) (tickS S) := by
  have hn := hW.2.1
  have e2 : cn (upd S 0 (S 0 + 1)) = cn S := cn_eq (upd_n (by decide))
  have h1 : IV (b + 6) (tkA S) := by
    unfold tkA
    exact IQ_up (by omega) (IV_actW (IV_time (S 0 + 1) hn hW.2.2.2.1 h) (WF_time (S 0 + 1) hW) hb (cn S) (by rw [e2]; exact Nat.le_refl _))
  unfold tickS
  exact IV_flW h1 (WF_tkA hW) _ (by rw [pn_eq (tkA_lo (by decide) (by decide))]; exact Nat.le_refl _)
theorem IV_tkN {b : Nat} {S : Sx} (h : IV b S) (hW : WF b S) : ∀ n, b + 6 * n < 100000 → IV (b + 6 * n) (tkN S n) := by
  intro n
  induction n with
  | zero => intro _; exact h
  | succ n ih =>
    intro hb
    unfold tkN
    exact IQ_up (by omega) (IV_tick (ih (by omega)) (WF_tkN hW n) (by omega))
/-! the calls -/
theorem addS_C {S : Sx} {ar z : Int32} {d x : Nat} (hc : cn S < 6) (hd : d < 6) (hx : x < 5) : sC (addS S ar z) d x = if d = cn S then (if x = 0 then ar else if x = 1 then z else if x = 2 then 0 else if x = 3 then 0 else -1) else sC S d x := by
  unfold addS
  rw [gCu (by decide), frS_C hx, gCC hx (by decide), gCC hx (by decide), gCC hx (by decide)]
  by_cases e : d = cn S
  · rw [if_pos e]
    rcases (show x = 0 ∨ x = 1 ∨ x = 2 ∨ x = 3 ∨ x = 4 by omega) with y | y | y | y | y <;> subst y <;> simp [e]
  · rw [if_neg e, if_neg (fun y => e y.1), if_neg (fun y => e y.1), if_neg (fun y => e y.1), if_neg (fun y => e y.1), if_neg (fun y => e y.1)]
theorem addS_P {S : Sx} {ar z : Int32} {m x : Nat} (hc : cn S < 6) (hx : x < 20) : sP (addS S ar z) m x = sP S m x := by
  unfold addS
  rw [gPu (by decide), frS_P hc, gPC hc (by decide), gPC hc (by decide), gPC hc (by decide)]
theorem addS_lo {S : Sx} {ar z : Int32} {k : Nat} (hk : k < 7) (h2 : k ≠ 2) : addS S ar z k = S k := by
  unfold addS
  rw [upd_n h2, frS_lo hk, uC_lo hk, uC_lo hk, uC_lo hk]
theorem addS_cn {b : Nat} {S : Sx} {ar z : Int32} (hW : WF b S) : cn (addS S ar z) = cn S + 1 := by
  have hn := hW.2.1
  have e : addS S ar z 2 = nI (cn S + 1) := by unfold addS; rw [upd_s, hW.1, nI_1]
  show (addS S ar z 2).toNatClampNeg = cn S + 1
  rw [e, n_cl (by omega)]
theorem IV_add {b b0 : Nat} {S : Sx} {ar z : Int32} (h : IV b S) (hW : WF b0 S) (hc : cn S < 6) : IV b (addS S ar z) := by
  have hm := hW.2.2.2.1
  have en : cn (addS S ar z) = cn S + 1 := addS_cn hW
  have em : pn (addS S ar z) = pn S := pn_eq (addS_lo (by decide) (by decide))
  have eC : ∀ d x, d < 6 → x < 5 → sC (addS S ar z) d x = if d = cn S then (if x = 0 then ar else if x = 1 then z else if x = 2 then 0 else if x = 3 then 0 else -1) else sC S d x := fun d x hd hx => addS_C hc hd hx
  have eP : ∀ m x, x < 20 → sP (addS S ar z) m x = sP S m x := fun m x hx => addS_P hc hx
  have e5 : addS S ar z 5 = S 5 := addS_lo (by decide) (by decide)
  have e6 : addS S ar z 6 = S 6 := addS_lo (by decide) (by decide)
  generalize addS S ar z = S' at *
  obtain ⟨i1, i2, i3, i4, i5, i6, i7⟩ := h
  have c2 : ∀ m, cr2 S' m (cn S) = 0 := fun m => by
    have y3 : sC S' (cn S) 3 = 0 := by rw [eC _ 3 hc (by decide), if_pos rfl, if_neg (by decide), if_neg (by decide), if_neg (by decide), if_pos rfl]
    exact if_neg (fun y => absurd (y3.symm.trans y.1) (by decide))
  refine ⟨?_, ?_, ?_, ?_, ?_, ?_, ?_⟩
  · rw [en, e6, ← i1]
    show sI (fun k => sC S' k 2) (cn S) + sC S' (cn S) 2 = _
    rw [sI_cg (f := fun k => sC S' k 2) (g := fun k => sC S k 2) (cn S) (fun d hd => by rw [eC d 2 (by omega) (by decide), if_neg (by omega)]), eC _ 2 hc (by decide), if_pos rfl, if_neg (by decide), if_neg (by decide), if_pos rfl]
    grind
  · rw [em, e6, ← i2]
    exact sI_cg _ (fun m hm2 => eP m 7 (by decide))
  · obtain ⟨a, n, a1, a2, a3, a4⟩ := i3
    refine ⟨a, n, by rw [e5]; exact a1, ?_, a3, a4⟩
    unfold lgT
    rw [en, em]
    show sI (fun k => sI (fun m => sP S' m (8 + k)) (pn S)) (cn S) + sI (fun m => sP S' m (8 + cn S)) (pn S) = _
    rw [sI_zero (f := fun m => sP S' m (8 + cn S)) (pn S) (fun m hm2 => ?_), sI_cg (g := fun k => sI (fun m => sP S m (8 + k)) (pn S)) (cn S) (fun k hk => sI_cg _ (fun m hm2 => eP m _ (by omega)))]
    · rw [← a2]; unfold lgT; grind
    · obtain ⟨f, t, z, f1, f2, f3, f4, f5, f6, f7, f8, f9, f10, f11, f12⟩ := i6 m hm2
      show sP S' m (8 + cn S) = 0
      rw [eP m _ (by omega)]
      exact (f12 (cn S) hc (Nat.le_refl _)).1
  · rw [em, en]
    intro m hm2
    show sI (cr2 S' m) (cn S) + cr2 S' m (cn S) = _
    rw [c2 m, eP m 4 (by decide), ← i4 m hm2, sI_cg (f := cr2 S' m) (g := cr2 S m) (cn S) (fun d hd => cr2_cg ⟨by rw [eC d 3 (by omega) (by decide), if_neg (by omega)], by rw [eC d 4 (by omega) (by decide), if_neg (by omega)]⟩)]
    grind
  · rw [em, en]
    intro k m hk hm2 y3 y4
    by_cases e : k = cn S
    · rw [e, eC _ 3 hc (by decide), if_pos rfl, if_neg (by decide), if_neg (by decide), if_neg (by decide), if_pos rfl] at y3
      exact absurd y3 (by decide)
    · rw [eC k 3 (by omega) (by decide), if_neg e] at y3
      rw [eC k 4 (by omega) (by decide), if_neg e] at y4
      rw [eC k 1 (by omega) (by decide), if_neg e, eP m 5 (by decide)]
      exact i5 k m (by omega) hm2 y3 y4
  · rw [em]
    intro m hm2
    exact PV_cg (i6 m hm2) (fun y => y) (by omega) (fun w hw => eP m w hw)
  · rw [em]
    intro m w h8 h9 h10
    rw [eP m w h10]
    exact i7 m w h8 h9 h10
theorem IV_area {b b0 : Nat} {S : Sx} {c : Nat} {v : Int32} (h : IV b S) (hW : WF b0 S) (hc : c < cn S) : IV b (uC S c 0 v) := by
  have hn := hW.2.1
  exact IQ_cg h hn hW.2.2.2.1 (uC_lo (by decide)) (uC_lo (by decide)) (uC_lo (by decide)) (uC_lo (by decide)) (fun d w hd hw h0 => by rw [gCC hw (by decide), if_neg (fun y => h0 y.2)]) (fun m w _ hw => gPC (by omega) (by decide))
theorem IV_grace {b b0 : Nat} {S : Sx} {v : Int32} (h : IV b S) (hW : WF b0 S) : IV b (upd S 1 v) :=
  IQ_cg h hW.2.1 hW.2.2.2.1 (upd_n (by decide)) (upd_n (by decide)) (upd_n (by decide)) (upd_n (by decide)) (fun d w _ _ _ => gCu (by decide)) (fun m w _ _ => gPu (by decide))
theorem IV_dr {b b0 : Nat} {S : Sx} {c : Nat} (h : IV b S) (hW : WF b0 S) (hc : c < cn S) : IV b (drS S c) := by
  have hn := hW.2.1
  have hm := hW.2.2.2.1
  unfold drS
  split
  · rename_i h3
    obtain ⟨p, hp, e1, e2⟩ := WF_with hW hc (by rw [h3]; decide)
    rw [e2]
    exact (IV_hand h hW hc h3 e1 hp (fun k hk h4 => uP_lo (by omega)) (fun d x hd hx => gCP hd hx) (fun m x hx => gPP hx (by decide)))
  · rename_i n3
    have k3 : sC (frS S c) c 3 = 0 := by rw [frS_C (by decide), if_neg (by omega), if_pos ⟨rfl, rfl⟩]
    refine IQ_stepC h hm hn hc (frS_lo (by decide)) (frS_lo (by decide)) (frS_lo (by decide)) (Or.inl ⟨frS_lo (by decide), Nat.le_refl _⟩) (fun d hd => ⟨?_, fun hne => ⟨?_, ?_, ?_⟩⟩) (fun m w hm hw => frS_P (by omega)) (fun m hm2 => ?_) (fun y => absurd (k3.symm.trans y) (by decide))
    · rw [frS_C (by decide), if_neg (by omega), if_neg (by omega)]
    · rw [frS_C (by decide), if_neg (by omega), if_neg (by omega)]
    · rw [frS_C (by decide), if_neg (by omega), if_neg (by omega)]
    · rw [frS_C (by decide), if_neg (by omega), if_neg (by omega)]
    · unfold cr2
      rw [if_neg (fun y => absurd (k3.symm.trans y.1) (by decide)), if_neg (fun y => n3 y.1)]
theorem com_pn {b : Nat} {S : Sx} {o g k t : Int32} (hW : WF b S) : pn (comS S o g k t) = pn S + 1 := by
  have hm := hW.2.2.2.1
  have e : comS S o g k t 3 = nI (pn S + 1) := by unfold comS; rw [upd_s, hW.2.2.1, nI_1]
  show (comS S o g k t 3).toNatClampNeg = pn S + 1
  rw [e, n_cl (by omega)]
theorem IV_com {b b0 : Nat} {S : Sx} {o g k t : Int32} (h : IV b S) (hW : WF b0 S) (hp : pn S < 24) (ho : ∃ x y, x < 16 ∧ y < 16 ∧ x ≠ y ∧ o = nI x ∧ g = nI y) : IV b (comS S o g k t) := by
  have hn := hW.2.1
  have em : pn (comS S o g k t) = pn S + 1 := com_pn hW
  have en : cn (comS S o g k t) = cn S := cn_eq (com_lo (by decide) (by decide))
  have e5 : comS S o g k t 5 = S 5 := com_lo (by decide) (by decide)
  have e6 : comS S o g k t 6 = S 6 := com_lo (by decide) (by decide)
  have eC : ∀ d x, d < 6 → x < 5 → sC (comS S o g k t) d x = sC S d x := fun d x hd hx => com_C hd hx
  have eP : ∀ q x, x < 20 → sP (comS S o g k t) q x = if q = pn S then (if x = 0 then o else if x = 1 then g else if x = 2 then k else if x = 3 then t else if x = 5 then o else if x = 6 then -1 else 0) else sP S q x := fun q x hx => com_P hx
  generalize comS S o g k t = S' at *
  obtain ⟨i1, i2, i3, i4, i5, i6, i7⟩ := h
  have z8 : ∀ x, x < 12 → sP S' (pn S) (8 + x) = 0 := fun x hx => by
    rw [eP _ _ (by omega), if_pos rfl, if_neg (by omega), if_neg (by omega), if_neg (by omega), if_neg (by omega), if_neg (by omega), if_neg (by omega)]
  have z4 : sP S' (pn S) 4 = 0 := by rw [eP _ _ (by decide), if_pos rfl]; rfl
  have z7 : sP S' (pn S) 7 = 0 := by rw [eP _ _ (by decide), if_pos rfl]; rfl
  have z5 : sP S' (pn S) 5 = o := by rw [eP _ _ (by decide), if_pos rfl]; rfl
  have z0 : sP S' (pn S) 0 = o := by rw [eP _ _ (by decide), if_pos rfl]; rfl
  have z1 : sP S' (pn S) 1 = g := by rw [eP _ _ (by decide), if_pos rfl]; rfl
  refine ⟨?_, ?_, ?_, ?_, ?_, ?_, ?_⟩
  · rw [en, e6, ← i1]
    exact sI_cg _ (fun d hd => eC d 2 (by omega) (by decide))
  · rw [em, e6, ← i2]
    show sI (fun m => sP S' m 7) (pn S) + sP S' (pn S) 7 = _
    rw [z7, sI_cg (g := fun m => sP S m 7) (pn S) (fun m hm2 => by rw [eP m 7 (by decide), if_neg (by omega)])]
    grind
  · obtain ⟨a, n, a1, a2, a3, a4⟩ := i3
    refine ⟨a, n, by rw [e5]; exact a1, ?_, a3, a4⟩
    rw [← a2]
    unfold lgT
    rw [en, em]
    refine sI_cg _ (fun d hd => ?_)
    show sI (fun m => sP S' m (8 + d)) (pn S) + sP S' (pn S) (8 + d) = _
    rw [z8 d (by omega), sI_cg (g := fun m => sP S m (8 + d)) (pn S) (fun m hm2 => by rw [eP m _ (by omega), if_neg (by omega)])]
    grind
  · rw [em, en]
    intro m hm2
    by_cases e : m = pn S
    · subst e
      rw [z4, if_neg (by decide)]
      refine sI_zero _ (fun d hd => ?_)
      unfold cr2
      rw [if_neg (fun y => ?_)]
      have := y.2
      rw [eC d 4 (by omega) (by decide)] at this
      exact ct4_n hW hd this
    · rw [eP m 4 (by decide), if_neg e, ← i4 m (by omega)]
      exact sI_cg _ (fun d hd => cr2_cg ⟨eC d 3 (by omega) (by decide), eC d 4 (by omega) (by decide)⟩)
  · rw [em, en]
    intro d m hd hm2 y3 y4
    rw [eC d 3 (by omega) (by decide)] at y3
    rw [eC d 4 (by omega) (by decide)] at y4
    by_cases e : m = pn S
    · subst e; exact absurd y4 (ct4_n hW hd)
    · rw [eC d 1 (by omega) (by decide), eP m 5 (by decide), if_neg e]
      exact i5 d m hd (by omega) y3 y4
  · rw [em]
    intro m hm2
    by_cases e : m = pn S
    · subst e
      obtain ⟨x, y, hx, hy, hne, ex, ey⟩ := ho
      obtain ⟨k1, k2⟩ := onr_0 x hx y hy
      refine ⟨x, y, x, hx, hy, hx, by rw [z0, ex], by rw [z1, ey], by rw [z5, ex], k1, fun _ _ => hne, ?_, ?_, fun _ => z7, fun d hd _ => ⟨z8 d (by omega), ?_⟩⟩
      · rw [k2]; exact sI_zero 6 (fun d hd => z8 d (by omega))
      · rw [z7]
        refine sI_zero 6 (fun d hd => ?_)
        have := z8 (6 + d) (by omega)
        rw [show 8 + (6 + d) = 14 + d by omega] at this
        exact this
      · have := z8 (6 + d) (by omega)
        rw [show 8 + (6 + d) = 14 + d by omega] at this
        exact this
    · exact PV_cg (i6 m (by omega)) (fun y => y) (Nat.le_of_eq en.symm) (fun w hw => by rw [eP m w hw, if_neg e])
  · rw [em]
    intro m w h8 h9 h10
    rw [eP m w h10, if_neg (by omega)]
    exact i7 m w (by omega) h9 h10
theorem IV_0 {S : Sx} (h2 : S 2 = 0) (h3 : S 3 = 0) (h5 : S 5 = 0) (h6 : S 6 = 0) (hP : ∀ m w, m < 24 → w < 20 → sP S m w = 0) : IV 0 S := by
  have en : cn S = 0 := by unfold cn; rw [h2]; decide
  have em : pn S = 0 := by unfold pn; rw [h3]; decide
  refine ⟨by rw [en, h6]; rfl, by rw [em, h6]; rfl, ⟨0, 0, h5, ?_, Nat.le_refl _, Nat.le_refl _⟩, ?_, ?_, ?_, fun m w _ h9 h10 => hP m w h9 h10⟩
  · unfold lgT; rw [en]; rfl
  · intro m hm; omega
  · intro k m hk; omega
  · intro m hm; omega
end IVC

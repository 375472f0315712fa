/-! WHAT HOLDS OF ALL STATES is kept by every call -/
section KP
theorem ct4 {b : Nat} {S : Sx} {c : Nat} (h : WF b S) (hc : c < cn S) : sC S c 4 = -1 ∨ ∃ p, p < pn S ∧ sC S c 4 = nI p := by
  rcases (h.2.2.2.2.1 c hc).2 with ⟨-, e⟩ | ⟨p, hp, e, -⟩
  · exact Or.inl e
  · exact Or.inr ⟨p, hp, e⟩
theorem ct4_n {b : Nat} {S : Sx} {c : Nat} (h : WF b S) (hc : c < cn S) : ¬ sC S c 4 = nI (pn S) := by
  have hm := h.2.2.2.1
  rcases ct4 h hc with e | ⟨p, hp, e⟩
  · rw [e]; exact fun z => nI_m1 (by omega) z.symm
  · rw [e, nI_eq (by omega) (by omega)]; omega
theorem J_add {b : Nat} {S : Sx} {ar z : Int32} (h : J S) (hW : WF b S) (hc : cn S < 6) : J (addS S ar z) := by
  obtain ⟨h2, hn, h3, hm, -⟩ := hW
  have f2 : addS S ar z 2 = nI (cn S + 1) := by unfold addS; rw [upd_s]; exact nI_suc h2
  have f3 : addS S ar z 3 = S 3 := by unfold addS; rw [upd_n (by decide), frS_lo (by decide), uC_lo (by decide), uC_lo (by decide), uC_lo (by decide)]
  have e2 : cn (addS S ar z) = cn S + 1 := by unfold cn; rw [f2, n_cl (by unfold cn at hc; omega)]; rfl
  have e3 : pn (addS S ar z) = pn S := pn_eq f3
  have eP : ∀ p x, sP (addS S ar z) p x = sP S p x := fun p x => by
    unfold addS; rw [gPu (by decide), frS_P (by omega), gPC (by omega) (by decide), gPC (by omega) (by decide), gPC (by omega) (by decide)]
  have eC : ∀ d x, x = 3 ∨ x = 4 → d ≠ cn S → sC (addS S ar z) d x = sC S d x := fun d x hx hd => by
    unfold addS
    rw [gCu (by decide), frS_C (by omega), gCC (by omega) (by decide), gCC (by omega) (by decide), gCC (by omega) (by decide)]
    simp only [hd, false_and, if_false]
  have e4 : sC (addS S ar z) (cn S) 4 = -1 := by
    unfold addS
    rw [gCu (by decide), frS_C (by decide), if_pos ⟨rfl, rfl⟩]
  refine ⟨fun c d p hc hd hp q1 q2 => ?_, fun c p hc hp q1 q2 => ?_⟩
  · rw [e2] at hc hd
    rw [e3] at hp
    have n1 : c ≠ cn S := fun e => by rw [e, e4] at q1; exact m1_ne hp hm q1
    have n2 : d ≠ cn S := fun e => by rw [e, e4] at q2; exact m1_ne hp hm q2
    rw [eC c 4 (Or.inr rfl) n1] at q1
    rw [eC d 4 (Or.inr rfl) n2] at q2
    exact h.1 c d p (by omega) (by omega) hp q1 q2
  · rw [e2] at hc
    rw [e3] at hp
    have n1 : c ≠ cn S := fun e => by rw [e, e4] at q1; exact m1_ne hp hm q1
    rw [eC c 4 (Or.inr rfl) n1] at q1
    rw [eC c 3 (Or.inl rfl) n1] at q2
    rw [eP]
    exact h.2 c p (by omega) hp q1 q2
theorem J_com {b : Nat} {S : Sx} {o g k t : Int32} (h : J S) (hW : WF b S) (hp : pn S < 24) : J (comS S o g k t) := by
  have hn : cn S ≤ 6 := hW.2.1
  have e2 : cn (comS S o g k t) = cn S := cn_eq (com_lo (by decide) (by decide))
  have e3 : pn (comS S o g k t) = pn S + 1 := by
    have f3 : comS S o g k t 3 = nI (pn S + 1) := by unfold comS; rw [upd_s, hW.2.2.1, nI_1]
    show (comS S o g k t 3).toNatClampNeg = _
    rw [f3, n_cl (by omega)]
  refine ⟨fun c d p hc hd hp' q1 q2 => ?_, fun c p hc hp' q1 q2 => ?_⟩
  · rw [e2] at hc hd
    rw [e3] at hp'
    rw [com_C (by omega) (by decide)] at q1 q2
    rcases Nat.lt_or_ge p (pn S) with z | z
    · exact h.1 c d p hc hd z q1 q2
    · rw [show p = pn S by omega] at q1
      exact absurd q1 (ct4_n hW hc)
  · rw [e2] at hc
    rw [e3] at hp'
    rw [com_C (by omega) (by decide)] at q1 q2
    rcases Nat.lt_or_ge p (pn S) with z | z
    · rw [com_P (by decide), if_neg (by omega)]
      exact h.2 c p hc z q1 q2
    · rw [show p = pn S by omega] at q1
      exact absurd q1 (ct4_n hW hc)
theorem pn_lt {b : Nat} {S : Sx} (h : WF b S) (h3 : ¬ S 3 = 24) : pn S < 24 := by
  have := h.2.2.2.1
  rcases Nat.lt_or_ge (pn S) 24 with z | z
  · exact z
  · exact absurd (by rw [h.2.2.1, show pn S = 24 by omega]; rfl) h3
theorem ph_all {P : Sx → Prop} {n : Nat} {H : Nat → Sx} {S0 : Sx} (h0 : P S0) (hH : ∀ i, i < n → P (H i)) : ∀ i, i < phN n → P (phH n H S0 i) := by
  intro i hi
  unfold phN at hi
  unfold phH
  by_cases e : n = 4
  · rw [if_pos e] at hi ⊢
    by_cases e2 : i = 3
    · rw [if_pos e2]; exact h0
    · rw [if_neg e2]; exact hH _ (by omega)
  · rw [if_neg e] at hi ⊢
    by_cases e2 : i = n
    · rw [if_pos e2]; exact h0
    · rw [if_neg e2]; exact hH _ (by omega)
/-- both -/
def KZ (Z : Zs) : Prop := GZ Z ∧ JZ Z
theorem KZ_ph {Z : Zs} {S' : Sx} (h : KZ Z) (h1 : GS S') (h2 : J S') : KZ (phZ Z S') := ⟨⟨h1, ph_all h.1.1 h.1.2⟩, ⟨h2, ph_all h.2.1 h.2.2⟩⟩
theorem KZ_tx {S : Sx} {n tl tl' : Nat} {H : Nat → Sx} {tx tx' : Nat → Int32} (h : KZ (S, n, H, tl, tx)) : KZ (S, n, H, tl', tx') := h
theorem KZ_add {Z : Zs} {ar z : Int32} (h : KZ Z) : KZ (opAdd ar z Z).2.2 := by
  unfold opAdd
  split
  · rename_i e
    rw [Bool.and_eq_true] at e
    split
    · exact h
    · rename_i e2
      obtain ⟨k, -, hk, rfl, -⟩ := ok_n (a := 0) (b := 15) (by decide) (by decide) e.2
      obtain ⟨t, ht, hW⟩ := GS_wf h.1.1
      have hc : cn Z.1 < 6 := by
        have := hW.2.1
        rcases Nat.lt_or_ge (cn Z.1) 6 with z | z
        · exact z
        · exact absurd (by rw [hW.1, show cn Z.1 = 6 by omega]; rfl) e2
      exact KZ_ph h (GS_up h.1.1 (by unfold addS; rw [upd_n (by decide), frS_lo (by decide), uC_lo (by decide), uC_lo (by decide), uC_lo (by decide)]) (fun b hb => WF_add hb hc (by omega)) (fun k hk => add_hi hc hk)) (J_add h.2.1 hW hc)
  · exact h
theorem KZ_area {Z : Zs} {c ar : Int32} (h : KZ Z) : KZ (opArea c ar Z).2.2 := by
  unfold opArea
  obtain ⟨t, ht, hW⟩ := GS_wf h.1.1
  have hn := hW.2.1
  split
  · rename_i e
    obtain ⟨k, hk, rfl, ek⟩ := isCr_n hW e
    split
    · rw [ek]
      exact KZ_ph h (GS_up h.1.1 (uC_lo (by decide)) (fun b hb => WF_area hb (by omega)) (fun j hj => uC_hi (by omega) (by decide) hj)) (J_area h.2.1 (by omega))
    · exact h
  · exact h
theorem KZ_give {Z : Zs} {o g k t : Int32} (h : KZ Z) : KZ (opGive o g k t Z).2.2 := by
  unfold opGive
  obtain ⟨t0, ht, hW⟩ := GS_wf h.1.1
  split
  · rename_i e
    simp only [Bool.and_eq_true, decide_eq_true_eq] at e
    obtain ⟨⟨⟨⟨e1, e2⟩, e3⟩, e4⟩, e5⟩ := e
    split
    · exact h
    · rename_i h3
      obtain ⟨a1, -, b1, rfl, -⟩ := ok_n (a := 0) (b := 15) (by decide) (by decide) e1
      obtain ⟨a2, -, b2, rfl, -⟩ := ok_n (a := 0) (b := 15) (by decide) (by decide) e2
      obtain ⟨a3, c3, b3, rfl, -⟩ := ok_n (a := 1) (b := 999) (by decide) (by decide) e3
      obtain ⟨a4, -, b4, rfl, -⟩ := ok_n (a := 0) (b := 1000) (by decide) (by decide) e4
      have hp := pn_lt hW h3
      exact KZ_ph h (GS_up h.1.1 (com_lo (by decide) (by decide)) (fun b hb => WF_com hb hp (by omega) (by omega) (fun z => e5 (by rw [z])) c3 b3 b4) (fun j hj => com_hi hp hj)) (J_com h.2.1 hW hp)
  · exact h
theorem KZ_grace {Z : Zs} {g : Int32} (h : KZ Z) : KZ (opGrace g Z).2.2 := by
  unfold opGrace
  split
  · exact KZ_ph h (GS_up h.1.1 (upd_n (by decide)) (fun b hb => WF_grace hb) (fun j hj => upd_n (by omega))) (J_grace h.2.1)
  · exact h
theorem KZ_drop {Z : Zs} {c : Int32} (h : KZ Z) : KZ (opDrop c Z).2.2 := by
  unfold opDrop
  obtain ⟨t, ht, hW⟩ := GS_wf h.1.1
  split
  · rename_i e
    obtain ⟨k, hk, rfl, ek⟩ := isCr_n hW e
    rw [ek]
    exact KZ_ph h (GS_up h.1.1 (drS_lo (by decide)) (fun b hb => WF_dr hb hk) (fun j hj => drS_hi hW hk hj)) (J_dr h.2.1 hW hk)
  · exact h
theorem KZ_run {Z : Zs} {n : Int32} (h : KZ Z) : KZ (opRun n Z).2.2 := by
  unfold opRun
  obtain ⟨t, ht, h0, hW, hz⟩ := h.1.1
  split
  · rename_i e
    obtain ⟨k, -, hk, rfl, ek⟩ := ok_n (a := 0) (b := 200) (by decide) (by decide) e
    split
    · exact h
    · rename_i e2
      rw [h0, n_add, show (2000 : Int32) = nI 2000 from rfl, n_lt (by decide) (by omega)] at e2
      rw [ek]
      exact KZ_ph h (GS_tkN hW h0 hz (by omega)) (J_tkN h.2.1 hW k)
  · exact h
theorem KZ_append {Z : Zs} {v : Int32} (h : KZ Z) : KZ (opAppend v Z).2.2 := by
  unfold opAppend
  split
  · split
    · exact h
    · exact h
  · exact h
theorem KZ_clear {Z : Zs} (h : KZ Z) : KZ (opClear Z).2.2 := h
theorem KZ_undo {Z : Zs} (h : KZ Z) : KZ (opUndo Z).2.2 := by
  unfold opUndo
  split
  · exact h
  · rename_i e
    exact ⟨⟨h.1.2 _ (by omega), fun i hi => h.1.2 i (by have : i < Z.2.1 - 1 := hi; omega)⟩, ⟨h.2.2 _ (by omega), fun i hi => h.2.2 i (by have : i < Z.2.1 - 1 := hi; omega)⟩⟩
/-- those that change nothing -/
theorem KZ_same {op : Op} {Z : Zs} (h : KZ Z) (e : (op Z).2.2 = Z) : KZ (op Z).2.2 := by rw [e]; exact h
theorem sm_value {Z : Zs} {w : Int32} : (opValue w Z).2.2 = Z := by unfold opValue; split <;> rfl
theorem sm_courier {Z : Zs} {c w : Int32} : (opCourier c w Z).2.2 = Z := by unfold opCourier; split <;> (try split) <;> rfl
theorem sm_parcel {Z : Zs} {c w : Int32} : (opParcel c w Z).2.2 = Z := by unfold opParcel; split <;> (try split) <;> rfl
theorem sm_legs {Z : Zs} {p c s : Int32} : (opLegs p c s Z).2.2 = Z := by unfold opLegs; split <;> rfl
theorem sm_dist {Z : Zs} {p c : Int32} : (opDist p c Z).2.2 = Z := by unfold opDist; split <;> rfl
theorem sm_suited {Z : Zs} {p : Int32} : (opSuited p Z).2.2 = Z := by unfold opSuited; split <;> rfl
theorem sm_relay {Z : Zs} {p : Int32} : (opRelay p Z).2.2 = Z := by unfold opRelay; split <;> rfl
theorem sm_paid {Z : Zs} {p : Int32} : (opPaid p Z).2.2 = Z := by unfold opPaid; split <;> rfl
theorem sm_best {Z : Zs} {c w : Int32} : (opBest c w Z).2.2 = Z := by unfold opBest; split <;> (try split) <;> rfl
theorem sm_worth {Z : Zs} {c w : Int32} : (opWorth c w Z).2.2 = Z := by unfold opWorth; split <;> (try split) <;> rfl
end KP

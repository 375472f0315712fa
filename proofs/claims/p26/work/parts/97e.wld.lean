/-! THE LAW'S OWN METHODS WALKED: does -/
section WLD
theorem uC_self {S : Sx} {c w : Nat} {v : Int32} (h : sC S c w = v) : uC S c w v = S := by subst h; exact upd_self
theorem uP_self {S : Sx} {p w : Nat} {v : Int32} (h : sP S p w = v) : uP S p w v = S := by subst h; exact upd_self
theorem upd_me {S : Sx} {k : Nat} {v : Int32} (h : S k = v) : upd S k v = S := by subst h; exact upd_self
theorem nxz_same {x : Int32} : nxz x x = x := by
  unfold nxz
  rw [if_pos rfl, if_neg (show ¬ x < x by simp), if_neg (show ¬ x < x by simp)]
theorem leg_cm {Y : Sx} {q x : Nat} {z v w : Int32} : upd (uP (uP Y q 5 z) q x v) 5 w = uP (uP (upd Y 5 w) q 5 z) q x v := by
  unfold uP
  rw [upd_comm (by omega), upd_comm (k := 37 + 20 * q + 5) (j := 5) (by omega)]
/-! the parcel that a courier finds: the least cut-off, and of these the first -/
abbrev ku (S : Sx) (p : Nat) : Int := (sP S p 2).toInt
def BP (S : Sx) (c i n : Nat) (b : Int32) : Prop := (b = -1 ∧ ∀ p, i ≤ p → p < n → may S c p = false) ∨ ∃ q, i ≤ q ∧ q < n ∧ b = nI q ∧ may S c q = true ∧ ∀ p, i ≤ p → p < n → may S c p = true → ku S q < ku S p ∨ (ku S q = ku S p ∧ q ≤ p)
theorem BP_one {S : Sx} {c i n : Nat} {b b' : Int32} (h : BP S c i n b) (h' : BP S c i n b') : b = b' := by
  rcases h with ⟨rfl, h⟩ | ⟨q, h1, h2, rfl, h3, h4⟩
  · rcases h' with ⟨rfl, -⟩ | ⟨q', g1, g2, -, g3, -⟩
    · rfl
    · rw [h q' g1 g2] at g3; cases g3
  · rcases h' with ⟨rfl, h⟩ | ⟨q', g1, g2, rfl, g3, g4⟩
    · rw [h q h1 h2] at h3; cases h3
    · have a := h4 q' g1 g2 g3
      have b := g4 q h1 h2 h3
      rw [show q = q' by omega]
theorem BP_ch {S : Sx} {c : Nat} : ∀ n, n ≤ 24 → BP S c 0 n (chB S c n) := by
  intro n
  induction n with
  | zero => intro _; exact Or.inl ⟨rfl, fun p _ h => absurd h (Nat.not_lt_zero p)⟩
  | succ n ih =>
    intro hn
    have ih := ih (by omega)
    unfold chB
    by_cases hm : may S c n = true
    · by_cases hc : chB S c n = -1 ∨ sP S n 2 < sP S (chB S c n).toNatClampNeg 2
      · rw [if_pos ⟨hm, hc⟩]
        refine Or.inr ⟨n, Nat.zero_le n, by omega, rfl, hm, fun p _ hp hmp => ?_⟩
        by_cases e : p = n
        · subst e; exact Or.inr ⟨rfl, Nat.le_refl p⟩
        · rcases ih with ⟨e1, h⟩ | ⟨q, h1, h2, e1, h3, h4⟩
          · rw [h p (Nat.zero_le p) (by omega)] at hmp; cases hmp
          · rcases hc with hc | hc
            · rw [e1] at hc; exact absurd hc (nI_m1 (by omega))
            · rw [e1, n_cl (by omega), Int32.lt_iff_toInt_lt] at hc
              have : (sP S q 2).toInt < (sP S p 2).toInt ∨ ((sP S q 2).toInt = (sP S p 2).toInt ∧ q ≤ p) := h4 p (Nat.zero_le p) (by omega) hmp
              refine Or.inl ?_
              show (sP S n 2).toInt < (sP S p 2).toInt
              omega
      · rw [if_neg (fun y => hc y.2)]
        rcases ih with ⟨e1, h⟩ | ⟨q, h1, h2, e1, h3, h4⟩
        · exact absurd (Or.inl e1) hc
        · refine Or.inr ⟨q, h1, by omega, e1, h3, fun p hp0 hp hmp => ?_⟩
          by_cases e : p = n
          · subst e
            have hc2 : ¬ sP S p 2 < sP S q 2 := fun y => hc (Or.inr (by rw [e1, n_cl (by omega)]; exact y))
            rw [Int32.lt_iff_toInt_lt] at hc2
            show (sP S q 2).toInt < (sP S p 2).toInt ∨ ((sP S q 2).toInt = (sP S p 2).toInt ∧ q ≤ p)
            omega
          · exact h4 p hp0 (by omega) hmp
    · rw [if_neg (fun y => hm y.1)]
      rw [Bool.not_eq_true] at hm
      rcases ih with ⟨e1, h⟩ | ⟨q, h1, h2, e1, h3, h4⟩
      · refine Or.inl ⟨e1, fun p hp0 hp => ?_⟩
        by_cases e : p = n
        · subst e; exact hm
        · exact h p hp0 (by omega)
      · refine Or.inr ⟨q, h1, by omega, e1, h3, fun p hp0 hp hmp => ?_⟩
        by_cases e : p = n
        · subst e; rw [hm] at hmp; cases hmp
        · exact h4 p hp0 (by omega) hmp
/-- one more from below -/
theorem BP_no {S : Sx} {c j n : Nat} {b : Int32} (h : BP S c (j + 1) n b) (hm : may S c j = false) : BP S c j n b := by
  rcases h with ⟨e1, h⟩ | ⟨q, h1, h2, e1, h3, h4⟩
  · refine Or.inl ⟨e1, fun p hp0 hp => ?_⟩
    by_cases e : p = j
    · subst e; exact hm
    · exact h p (by omega) hp
  · refine Or.inr ⟨q, by omega, h2, e1, h3, fun p hp0 hp hmp => ?_⟩
    by_cases e : p = j
    · subst e; rw [hm] at hmp; cases hmp
    · exact h4 p (by omega) hp hmp
theorem BP_yes {S : Sx} {c j n : Nat} {b : Int32} (h : BP S c (j + 1) n b) (hn : n ≤ 24) (hj : j < n) (hm : may S c j = true) (hb : b < 0 ∨ ∃ q, b = nI q ∧ q < 24 ∧ ¬ sP S q 2 < sP S j 2) : BP S c j n (nI j) := by
  refine Or.inr ⟨j, Nat.le_refl j, hj, rfl, hm, fun p hp0 hp hmp => ?_⟩
  by_cases e : p = j
  · subst e; exact Or.inr ⟨rfl, Nat.le_refl p⟩
  · rcases h with ⟨e1, h⟩ | ⟨q, h1, h2, e1, h3, h4⟩
    · rw [h p (by omega) hp] at hmp; cases hmp
    · rcases hb with hb | ⟨q', e2, hq', hb⟩
      · rw [e1] at hb
        have hb : nI q < nI 0 := hb
        rw [n_lt (by omega) (by decide)] at hb
        omega
      · rw [e1, nI_eq (by omega) (by omega)] at e2
        subst e2
        rw [Int32.lt_iff_toInt_lt] at hb
        have : (sP S q 2).toInt < (sP S p 2).toInt ∨ ((sP S q 2).toInt = (sP S p 2).toInt ∧ q ≤ p) := h4 p (by omega) hp hmp
        show (sP S j 2).toInt < (sP S p 2).toInt ∨ ((sP S j 2).toInt = (sP S p 2).toInt ∧ j ≤ p)
        omega
theorem BP_keep {S : Sx} {c j n q : Nat} (h : BP S c (j + 1) n (nI q)) (hn : n ≤ 24) (hq : q < 24) (hm : may S c j = true) (hb : sP S q 2 < sP S j 2) : BP S c j n (nI q) := by
  rcases h with ⟨e1, h⟩ | ⟨q', h1, h2, e1, h3, h4⟩
  · exact absurd e1 (nI_m1 (by omega))
  · rw [nI_eq (by omega) (by omega)] at e1
    subst e1
    refine Or.inr ⟨q, by omega, h2, rfl, h3, fun p hp0 hp hmp => ?_⟩
    by_cases e : p = j
    · subst e
      rw [Int32.lt_iff_toInt_lt] at hb
      exact Or.inl hb
    · exact h4 p (by omega) hp hmp
theorem BP_neg {S : Sx} {c i n : Nat} {b : Int32} (h : BP S c i n b) (hn : n ≤ 24) (hb : ¬ b < 0) : ∃ q, b = nI q ∧ q < n := by
  rcases h with ⟨rfl, -⟩ | ⟨q, -, h2, e, -⟩
  · exact absurd (by decide) hb
  · exact ⟨q, e, h2⟩
theorem nI_pm (j : Nat) : nI (j + 1) - 1 = nI j := by
  rw [← nI_1]
  exact Int32.add_sub_cancel _ _
theorem nI_dn (j : Nat) : nI j + (-1) = nI j - 1 := (Int32.sub_eq_add_neg _ _).symm
end WLD

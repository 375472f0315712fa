/-! THE TEXT AND THE DIGEST: what they answer -/
section PD
/-- one item from a on: whether, where it goes on or is wrong, the row behind it -/
def iO (tl : Nat) (tx : Nat → Int32) (a : Nat) : Int32 := nbN tx a (dgN tl tx a 2)
def iA (tl : Nat) (tx : Nat → Int32) (a : Nat) : Bool × Nat := numb tl tx a 2 0 15 (-1) 44
def iB (tl : Nat) (tx : Nat → Int32) (a : Nat) : Bool × Nat := numb tl tx (iA tl tx a).2 2 0 15 (iO tl tx a) 44
def iC (tl : Nat) (tx : Nat → Int32) (a : Nat) : Bool × Nat := numb tl tx (iB tl tx a).2 3 1 999 (-1) 44
def iD (tl : Nat) (tx : Nat → Int32) (a : Nat) : Bool × Nat := numb tl tx (iC tl tx a).2 4 0 1000 (-1) 59
def iG (tl : Nat) (tx : Nat → Int32) (a : Nat) : Int32 := nbN tx (iA tl tx a).2 (dgN tl tx (iA tl tx a).2 2)
def iK (tl : Nat) (tx : Nat → Int32) (a : Nat) : Int32 := nbN tx (iB tl tx a).2 (dgN tl tx (iB tl tx a).2 3)
def iT (tl : Nat) (tx : Nat → Int32) (a : Nat) : Int32 := nbN tx (iC tl tx a).2 (dgN tl tx (iC tl tx a).2 4)
def item (tl : Nat) (tx : Nat → Int32) (a : Nat) : Bool × Nat :=
  if (iA tl tx a).1 = false then iA tl tx a else if (iB tl tx a).1 = false then iB tl tx a else if (iC tl tx a).1 = false then iC tl tx a else iD tl tx a
def comI (S : Sx) (tl : Nat) (tx : Nat → Int32) (a : Nat) : Sx := comS S (iO tl tx a) (iG tl tx a) (iK tl tx a) (iT tl tx a)
/-- all items from a on: whether, where it is wrong, the row behind them -/
def prN (tl : Nat) (tx : Nat → Int32) : Nat → Sx → Nat → Bool × Nat × Sx
  | 0, S, a => (true, a, S)
  | n + 1, S, a => if a < tl then (if S 3 = 24 then (false, a, S) else if (item tl tx a).1 = true then prN tl tx n (comI S tl tx a) (item tl tx a).2 else (false, (item tl tx a).2, S)) else (true, a, S)
def opParse : Op := fun Z => if (prN Z.2.2.2.1 Z.2.2.2.2 151 Z.1 0).1 = true then (0, (prN Z.2.2.2.1 Z.2.2.2.2 151 Z.1 0).2.2 3, phZ Z (prN Z.2.2.2.1 Z.2.2.2.2 151 Z.1 0).2.2) else (0, -10 - nI (prN Z.2.2.2.1 Z.2.2.2.2 151 Z.1 0).2.1, Z)
/-! the digest -/
def mixh (h : Int64) (v : Int32) : Int64 := 31 * h + v.toInt64
def mixN (h : Int64) (f : Nat → Int32) : Nat → Int64
  | 0 => h
  | n + 1 => mixh (mixN h f n) (f n)
def dgC (S : Sx) (h : Int64) : Nat → Int64
  | 0 => h
  | c + 1 => mixN (dgC S h c) (fun w => crS S c w) 6
def dgL (S : Sx) (p : Nat) (h : Int64) : Nat → Int64
  | 0 => h
  | c + 1 => mixh (mixh (dgL S p h c) (sP S p (8 + c))) (sP S p (14 + c))
def dgP (S : Sx) (h : Int64) : Nat → Int64
  | 0 => h
  | p + 1 => dgL S p (mixN (dgP S h p) (fun w => paS S p w) 9) (cn S)
def dg1 (Z : Zs) : Int64 := mixN (mixh 3313 (nI Z.2.2.2.1)) (valS Z.1) 11
def dgst (Z : Zs) : Int64 := mixh (dgP Z.1 (dgC Z.1 (dg1 Z) (cn Z.1)) (pn Z.1)) (nI Z.2.1)
/-! how far: bounds -/
theorem dgN_le {tl : Nat} {tx : Nat → Int32} : ∀ d a, dgN tl tx a d ≤ d := by
  intro d
  induction d with
  | zero => intro a; exact Nat.le_refl 0
  | succ d ih =>
    intro a
    unfold dgN
    split
    · have := ih (a + 1); omega
    · omega
theorem dgN_tl {tl : Nat} {tx : Nat → Int32} : ∀ d a, a ≤ tl → a + dgN tl tx a d ≤ tl := by
  intro d
  induction d with
  | zero => intro a h; exact h
  | succ d ih =>
    intro a h
    unfold dgN
    split
    · rename_i e; have := ih (a + 1) (by omega); omega
    · exact h
theorem numb_tl {tl : Nat} {tx : Nat → Int32} {a d : Nat} {lo hi no sg : Int32} (h : a ≤ tl) : (numb tl tx a d lo hi no sg).2 ≤ tl := by
  have := dgN_tl (tl := tl) (tx := tx) d a h
  unfold numb
  split
  · exact h
  · split
    · exact this
    · split
      · exact h
      · split
        · rename_i e; show a + dgN tl tx a d + 1 ≤ tl; omega
        · exact this
theorem numb_ok {tl : Nat} {tx : Nat → Int32} {a d : Nat} {lo hi no sg : Int32} (h : (numb tl tx a d lo hi no sg).1 = true) : a < (numb tl tx a d lo hi no sg).2 ∧ okN (nbN tx a (dgN tl tx a d)) lo hi = true ∧ nbN tx a (dgN tl tx a d) ≠ no := by
  unfold numb at h ⊢
  split at h
  · cases h
  · rename_i h1
    rw [if_neg h1]
    split at h
    · cases h
    · rename_i h2
      rw [if_neg h2]
      split at h
      · cases h
      · rename_i h3
        rw [if_neg h3]
        split at h
        · rename_i h4
          rw [if_pos h4]
          refine ⟨by show a < a + dgN tl tx a d + 1; omega, ?_, fun e => h3 (Or.inr e)⟩
          cases e : okN (nbN tx a (dgN tl tx a d)) lo hi with
          | true => rfl
          | false => exact absurd (Or.inl e) h3
        · cases h
theorem item_tl {tl : Nat} {tx : Nat → Int32} {a : Nat} (h : a ≤ tl) : (iA tl tx a).2 ≤ tl ∧ (iB tl tx a).2 ≤ tl ∧ (iC tl tx a).2 ≤ tl ∧ (iD tl tx a).2 ≤ tl := by
  have h1 : (iA tl tx a).2 ≤ tl := numb_tl h
  have h2 : (iB tl tx a).2 ≤ tl := numb_tl h1
  have h3 : (iC tl tx a).2 ≤ tl := numb_tl h2
  exact ⟨h1, h2, h3, numb_tl h3⟩
theorem item_ok {tl : Nat} {tx : Nat → Int32} {a : Nat} (h : (item tl tx a).1 = true) : (iA tl tx a).1 = true ∧ (iB tl tx a).1 = true ∧ (iC tl tx a).1 = true ∧ (iD tl tx a).1 = true ∧ item tl tx a = iD tl tx a := by
  unfold item at h ⊢
  split at h
  · rename_i e; rw [e] at h; cases h
  · rename_i e1
    split at h
    · rename_i e; rw [e] at h; cases h
    · rename_i e2
      split at h
      · rename_i e; rw [e] at h; cases h
      · rename_i e3
        refine ⟨?_, ?_, ?_, h, by rw [if_neg e1, if_neg e2, if_neg e3]⟩
        · cases e : (iA tl tx a).1 <;> simp_all
        · cases e : (iB tl tx a).1 <;> simp_all
        · cases e : (iC tl tx a).1 <;> simp_all
theorem item_gt {tl : Nat} {tx : Nat → Int32} {a : Nat} (h : (item tl tx a).1 = true) : a < (item tl tx a).2 := by
  obtain ⟨h1, h2, h3, h4, e⟩ := item_ok h
  rw [e]
  have a1 : a < (iA tl tx a).2 := (numb_ok h1).1
  have a2 : (iA tl tx a).2 < (iB tl tx a).2 := (numb_ok h2).1
  have a3 : (iB tl tx a).2 < (iC tl tx a).2 := (numb_ok h3).1
  have a4 : (iC tl tx a).2 < (iD tl tx a).2 := (numb_ok h4).1
  omega
theorem item_le {tl : Nat} {tx : Nat → Int32} {a : Nat} (h : a ≤ tl) : (item tl tx a).2 ≤ tl := by
  obtain ⟨h1, h2, h3, h4⟩ := item_tl (tx := tx) h
  unfold item
  split
  · exact h1
  · split
    · exact h2
    · split
      · exact h3
      · exact h4
/-- what an item gives fits a parcel -/
theorem item_fit {tl : Nat} {tx : Nat → Int32} {a : Nat} (h : (item tl tx a).1 = true) : ∃ o g k t, iO tl tx a = nI o ∧ iG tl tx a = nI g ∧ iK tl tx a = nI k ∧ iT tl tx a = nI t ∧ o < 16 ∧ g < 16 ∧ o ≠ g ∧ 1 ≤ k ∧ k ≤ 999 ∧ t ≤ 1000 := by
  obtain ⟨h1, h2, h3, h4, -⟩ := item_ok h
  obtain ⟨-, a1, -⟩ := numb_ok h1
  obtain ⟨-, a2, b2⟩ := numb_ok h2
  obtain ⟨-, a3, -⟩ := numb_ok h3
  obtain ⟨-, a4, -⟩ := numb_ok h4
  obtain ⟨o, -, ho, eo, -⟩ := ok_n (a := 0) (b := 15) (by decide) (by decide) a1
  obtain ⟨g, -, hg, eg, -⟩ := ok_n (a := 0) (b := 15) (by decide) (by decide) a2
  obtain ⟨k, hk, hk2, ek, -⟩ := ok_n (a := 1) (b := 999) (by decide) (by decide) a3
  obtain ⟨t, -, ht, et, -⟩ := ok_n (a := 0) (b := 1000) (by decide) (by decide) a4
  refine ⟨o, g, k, t, eo, eg, ek, et, by omega, by omega, fun e => b2 ?_, hk, hk2, ht⟩
  rw [eg, ← e]
  exact eo.symm
theorem WF_comI {b tl : Nat} {S : Sx} {tx : Nat → Int32} {a : Nat} (h : WF b S) (hp : pn S < 24) (hi : (item tl tx a).1 = true) : WF b (comI S tl tx a) := by
  obtain ⟨o, g, k, t, e1, e2, e3, e4, h1, h2, h3, h4, h5, h6⟩ := item_fit hi
  unfold comI
  rw [e1, e2, e3, e4]
  exact WF_com h hp h1 h2 h3 h4 h5 h6
theorem prN_up {b tl : Nat} {tx : Nat → Int32} : ∀ n S a, WF b S → WF b (prN tl tx n S a).2.2 ∧ (∀ k, 517 ≤ k → (prN tl tx n S a).2.2 k = S k) ∧ (prN tl tx n S a).2.2 0 = S 0 := by
  intro n
  induction n with
  | zero => intro S a h; exact ⟨h, fun _ _ => rfl, rfl⟩
  | succ n ih =>
    intro S a h
    unfold prN
    split
    · split
      · exact ⟨h, fun _ _ => rfl, rfl⟩
      · rename_i h3
        have hp : pn S < 24 := by
          rcases Nat.lt_or_ge (pn S) 24 with z | z
          · exact z
          · exact absurd (by rw [h.2.2.1, show pn S = 24 by have := h.2.2.2.1; omega]; rfl) h3
        split
        · rename_i hi
          obtain ⟨i1, i2, i3⟩ := ih (comI S tl tx a) (item tl tx a).2 (WF_comI h hp hi)
          refine ⟨i1, fun k hk => ?_, ?_⟩
          · rw [i2 k hk]; exact com_hi hp hk
          · rw [i3]; exact com_lo (by decide) (by decide)
        · exact ⟨h, fun _ _ => rfl, rfl⟩
    · exact ⟨h, fun _ _ => rfl, rfl⟩
end PD

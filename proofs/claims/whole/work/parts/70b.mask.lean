/-! SETS OF COURIERS AS BITS -/
section MK
def mk (P : Nat → Bool) : Nat → Int32
  | 0 => 0
  | c + 1 => mk P c ||| (if P c = true then (1 : Int32) <<< (nI c &&& 31) else 0)
def allF (P : Nat → Bool) : Nat → Bool
  | 0 => true
  | c + 1 => allF P c && !P c
theorem allF_iff {P : Nat → Bool} : ∀ n, allF P n = true ↔ ∀ c, c < n → P c = false := by
  intro n
  induction n with
  | zero => exact ⟨fun _ c hc => absurd hc (Nat.not_lt_zero c), fun _ => rfl⟩
  | succ n ih =>
    unfold allF
    simp only [Bool.and_eq_true, Bool.not_eq_true', ih]
    constructor
    · rintro ⟨h1, h2⟩ c hc
      by_cases e : c = n
      · rw [e]; exact h2
      · exact h1 c (by omega)
    · intro h
      exact ⟨fun c hc => h c (by omega), h n (by omega)⟩
theorem crN_mk {S : Sx} {z t : Int32} : ∀ n, crN S z t n = mk (fun c => hs (sC S c 0) z && hs (sC S c 0) t) n := by
  intro n
  induction n with
  | zero => rfl
  | succ n ih => unfold crN mk; rw [ih]
theorem mk_cg {P Q : Nat → Bool} : ∀ n, (∀ c, c < n → P c = Q c) → mk P n = mk Q n := by
  intro n
  induction n with
  | zero => intro _; rfl
  | succ n ih => intro h; unfold mk; rw [ih (fun c hc => h c (by omega)), h n (by omega)]
theorem bit_one : ∀ c, c < 6 → ∀ i, i < 32 → ((1 : Int32) <<< (nI c &&& 31)).toBitVec.getLsbD i = decide (i = c) := by decide +kernel
theorem mkb_at {P : Nat → Bool} {i : Nat} (hi : i < 32) : ∀ n, n ≤ 6 → (mk P n).toBitVec.getLsbD i = (decide (i < n) && P i) := by
  intro n
  induction n with
  | zero => intro _; show (0 : Int32).toBitVec.getLsbD i = _; simp
  | succ n ih =>
    intro hn
    unfold mk
    rw [Int32.toBitVec_or, BitVec.getLsbD_or, ih (by omega)]
    by_cases e : i = n
    · subst e
      cases h : P i with
      | true => rw [if_pos rfl, bit_one i (by omega) i hi]; simp
      | false => rw [if_neg (by decide)]; simp
    · have : (if P n = true then (1 : Int32) <<< (nI n &&& 31) else 0).toBitVec.getLsbD i = false := by
        split
        · rw [bit_one n (by omega) i hi, decide_eq_false e]
        · simp
      rw [this, Bool.or_false]
      congr 1
      exact decide_eq_decide.mpr (by omega)
theorem i32_ext {x y : Int32} (h : ∀ i, i < 32 → x.toBitVec.getLsbD i = y.toBitVec.getLsbD i) : x = y :=
  Int32.toBitVec_inj.mp (BitVec.eq_of_getLsbD_eq (fun i hi => h i hi))
theorem mkb_and {P Q : Nat → Bool} {n : Nat} (hn : n ≤ 6) : mk P n &&& mk Q n = mk (fun c => P c && Q c) n := by
  refine i32_ext (fun i hi => ?_)
  rw [Int32.toBitVec_and, BitVec.getLsbD_and, mkb_at hi n hn, mkb_at hi n hn, mkb_at hi n hn]
  cases decide (i < n) <;> cases P i <;> cases Q i <;> rfl
theorem mkb_0 {P : Nat → Bool} {n : Nat} (hn : n ≤ 6) : mk P n = 0 ↔ ∀ c, c < n → P c = false := by
  constructor
  · intro h c hc
    have := mkb_at (P := P) (i := c) (by omega) n hn
    rw [h, decide_eq_true hc] at this
    simpa using this.symm
  · intro h
    refine i32_ext (fun i hi => ?_)
    rw [mkb_at hi n hn]
    by_cases e : i < n
    · rw [h i e]; simp
    · rw [decide_eq_false e]; simp
end MK

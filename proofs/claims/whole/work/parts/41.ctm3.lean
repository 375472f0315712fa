/-! WHAT THE REFERENCE'S METHODS DO (the text, the digest) -/
section CN3
theorem stl_stl {M : fw_M} {j : Nat} {x y : Int64} : fw_stl (fw_stl M j x) j y = fw_stl M j y := by
  unfold fw_stl
  refine congrArg (fun f => (M.1, f, M.2.2)) (funext fun k => ?_)
  show vp_updL (vp_updL M.2.1 j x) j y k = vp_updL M.2.1 j y k
  unfold vp_updL
  by_cases h : k = j
  · rw [if_pos h, if_pos h]
  · rw [if_neg h, if_neg h, if_neg h]
theorem stl_s {M : fw_M} {j : Nat} {x : Int64} : (fw_stl M j x).2.1 j = x := by
  show vp_updL M.2.1 j x j = x
  unfold vp_updL
  rw [if_pos rfl]
/-- the text of the reference, and where it reads -/
def TX (B : Nat) (M : fw_M) (tl p : Nat) (tx : Nat → Int32) : Prop := M.1 (B + 497) = tx ∧ M.1 (B + 492) 6 = nI tl ∧ tl ≤ 150 ∧ M.1 (B + 492) 8 = nI p ∧ p ≤ tl
/-- the number and the place written -/
abbrev tN (B : Nat) (M : fw_M) (v : Int32) (p : Nat) : fw_M := fw_st (fw_st M (B + 492) 9 v) (B + 492) 8 (nI p)
def ct_X6_isAt (B : Nat) : fw_CTX := fun as M Q _ => match as with
  | [.ref a, .int x, .int y] => a = B + 492 ∧ ∃ tl p tx, TX B M tl p tx ∧ Q (some (.int (bi (decide (p < tl) && okN (tx p) x y)))) M
  | _ => False
def ct_X6_isNumber (B : Nat) : fw_CTX := fun as M Q _ => match as with
  | [.ref a, .int x, .int lo, .int hi, .int no, .int sg] => a = B + 492 ∧ ∃ tl p tx d, TX B M tl p tx ∧ d ≤ 4 ∧ x = nI d ∧ Q (some (.int (bi (numb tl tx p d lo hi no sg).1))) (tN B M (nbN tx p (dgN tl tx p d)) (numb tl tx p d lo hi no sg).2)
  | _ => False
def ct_X6_isItem (B : Nat) : fw_CTX := fun as M Q _ => match as with
  | [.ref a] => a = B + 492 ∧ ∃ b tl p tx, TX B M tl p tx ∧ WF b (mS B M) ∧
      (mS B M 3 = 24 → Q (some (.int 0)) M) ∧
      (mS B M 3 ≠ 24 → (item tl tx p).1 = false → ∀ v, Q (some (.int 0)) (tN B M v (item tl tx p).2)) ∧
      (mS B M 3 ≠ 24 → (item tl tx p).1 = true → ∀ v, Q (some (.int 1)) (mK B (tN B M v (item tl tx p).2) (comI (mS B M) tl tx p)))
  | _ => False
def ct_X6_parse (B : Nat) : fw_CTX := fun as M Q _ => match as with
  | [.ref a] => a = B + 492 ∧ ∃ Z, RM B M Z ∧ GZ Z ∧ ∀ M', RM B M' (opParse Z).2.2 → Fr B M M' → Q (some (.int (opParse Z).2.1)) M'
  | _ => False
def ct_X6_mix (B : Nat) : fw_CTX := fun as M Q _ => match as with
  | [.ref a, .int v] => a = B + 492 ∧ Q none (fw_stl M 0 (mixh (M.2.1 0) v))
  | _ => False
def ct_X6_digest (B : Nat) : fw_CTX := fun as M Q _ => match as with
  | [.ref a] => a = B + 492 ∧ ∃ Z, RM B M Z ∧ GZ Z ∧ ∀ M', RM B M' Z → Fr B M M' → Q (some (.long (dgst Z))) M'
  | _ => False
end CN3

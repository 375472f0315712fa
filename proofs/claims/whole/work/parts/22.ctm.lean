/-! WHAT THE REFERENCE'S METHODS DO (to the tick) -/
section CM
/-- the reference's state, and the memory with another one -/
abbrev mS (B : Nat) (M : fw_M) : Sx := M.1 (B + 493)
abbrev mK (B : Nat) (M : fw_M) (S : Sx) : fw_M := fw_row M (B + 493) S
theorem mS_K {B : Nat} {M : fw_M} {S : Sx} : mS B (mK B M S) = S := row_1
theorem mK_K {B : Nat} {M : fw_M} {S S' : Sx} : mK B (mK B M S) S' = mK B M S' := row_row
theorem mK_S {B : Nat} {M : fw_M} : mK B M (mS B M) = M := row_self
def ct_X6_thrown (B : Nat) : fw_CTX := fun as M Q _ => match as with
  | [.ref a] => a = B + 492 ∧ Q (some (.int (M.1 (B + 492) 7))) M
  | _ => False
def ct_X6_in (B : Nat) : fw_CTX := fun as M Q _ => match as with
  | [.int v, .int x, .int y] => Q (some (.int (bi (decide (x ≤ v) && decide (v ≤ y))))) M
  | _ => False
def ct_X6_fails (B : Nat) : fw_CTX := fun as M Q _ => match as with
  | [.ref a, .int v] => a = B + 492 ∧ Q (some (.int 0)) (fw_st M (B + 492) 7 v)
  | _ => False
def ct_X6_tells (B : Nat) : fw_CTX := fun as M Q _ => match as with
  | [.ref a, .int v] => a = B + 492 ∧ Q (some (.int v)) (fw_st M (B + 492) 7 0)
  | _ => False
def ct_X6_copies (B : Nat) : fw_CTX := fun as M Q _ => match as with
  | [.ref a, .ref b] => fw_kd B a = 7 ∧ fw_kd B b = 7 ∧ fw_len B a = 517 ∧ fw_len B b = 517 ∧ a ≠ b ∧ Q none (fw_row M a (cpN 517 (M.1 b) (M.1 a)))
  | _ => False
def ct_X6_hold (B : Nat) : fw_CTX := fun as M Q _ => match as with
  | [.ref a] => a = B + 492 ∧ Q none (fw_row M (B + 495) (cpN 517 (mS B M) (M.1 (B + 495))))
  | _ => False
def ct_X6_isCourier (B : Nat) : fw_CTX := fun as M Q _ => match as with
  | [.ref a, .int c] => a = B + 492 ∧ Q (some (.int (bi (decide (0 ≤ c) && decide (c ≤ mS B M 2 - 1))))) M
  | _ => False
def ct_X6_isParcel (B : Nat) : fw_CTX := fun as M Q _ => match as with
  | [.ref a, .int c] => a = B + 492 ∧ Q (some (.int (bi (decide (0 ≤ c) && decide (c ≤ mS B M 3 - 1))))) M
  | _ => False
def ct_X6_isZone (B : Nat) : fw_CTX := fun as M Q _ => match as with
  | [.int v] => Q (some (.int (bi (decide (0 ≤ v) && decide (v ≤ 15))))) M
  | _ => False
def ct_X6_isArea (B : Nat) : fw_CTX := fun as M Q _ => match as with
  | [.int v] => Q (some (.int (bi (decide (0 ≤ v) && decide (v ≤ 65535))))) M
  | _ => False
def ct_X6_isMany (B : Nat) : fw_CTX := fun as M Q _ => match as with
  | [.int v] => Q (some (.int (bi (decide (0 ≤ v) && decide (v ≤ 200))))) M
  | _ => False
def ct_X6_of (B : Nat) : fw_CTX := fun as M Q _ => match as with
  | [.ref a, .int c, .int w] => a = B + 492 ∧ fw_sd (vp_in (7 + 5 * c + w) 517) ∧ Q (some (.int (mS B M (7 + 5 * c + w).toNatClampNeg))) M
  | _ => False
def ct_X6_sets (B : Nat) : fw_CTX := fun as M Q _ => match as with
  | [.ref a, .int c, .int w, .int v] => a = B + 492 ∧ fw_sd (vp_in (7 + 5 * c + w) 517) ∧ Q none (mK B M (upd (mS B M) (7 + 5 * c + w).toNatClampNeg v))
  | _ => False
def ct_X6_its (B : Nat) : fw_CTX := fun as M Q _ => match as with
  | [.ref a, .int c, .int w] => a = B + 492 ∧ fw_sd (vp_in (37 + 20 * c + w) 517) ∧ Q (some (.int (mS B M (37 + 20 * c + w).toNatClampNeg))) M
  | _ => False
def ct_X6_puts (B : Nat) : fw_CTX := fun as M Q _ => match as with
  | [.ref a, .int c, .int w, .int v] => a = B + 492 ∧ fw_sd (vp_in (37 + 20 * c + w) 517) ∧ Q none (mK B M (upd (mS B M) (37 + 20 * c + w).toNatClampNeg v))
  | _ => False
def ct_X6_isIn (B : Nat) : fw_CTX := fun as M Q _ => match as with
  | [.ref a, .int x, .int z] => a = B + 492 ∧ ∃ c, c < 6 ∧ x = nI c ∧ Q (some (.int (bi (hs (sC (mS B M) c 0) z)))) M
  | _ => False
def ct_X6_next (B : Nat) : fw_CTX := fun as M Q _ => match as with
  | [.int f, .int t] => Q (some (.int (nxz f t))) M
  | _ => False
def ct_X6_frees (B : Nat) : fw_CTX := fun as M Q _ => match as with
  | [.ref a, .int x] => a = B + 492 ∧ ∃ c, c < 6 ∧ x = nI c ∧ Q none (mK B M (frS (mS B M) c))
  | _ => False
def ct_X6_suits (B : Nat) : fw_CTX := fun as M Q _ => match as with
  | [.ref a, .int y, .int x] => a = B + 492 ∧ ∃ p c, p < 24 ∧ c < 6 ∧ y = nI p ∧ x = nI c ∧ Q (some (.int (bi (suit (mS B M) p c)))) M
  | _ => False
def ct_X6_legsOf (B : Nat) : fw_CTX := fun as M Q _ => match as with
  | [.ref a, .int y] => a = B + 492 ∧ ∃ p, p < 24 ∧ y = nI p ∧ Q (some (.int (lsum (mS B M) p 6))) M
  | _ => False
/-- the legs of a parcel as numbers: bounded, and some -/
def LG (S : Sx) (p : Nat) : Prop := ∃ L : Nat → Nat, (∀ c, c < 6 → L c ≤ 100000 ∧ sP S p (8 + c) = nI (L c)) ∧ ∃ c, c < 6 ∧ 0 < L c
def ct_X6_shares (B : Nat) : fw_CTX := fun as M Q _ => match as with
  | [.ref a, .int y, .int m] => a = B + 492 ∧ ∃ p k, p < 24 ∧ k ≤ 1000 ∧ y = nI p ∧ m = nI k ∧ LG (mS B M) p ∧ mS B M 2 = nI (cn (mS B M)) ∧ cn (mS B M) ≤ 6 ∧ Q none (mK B M (shareS (mS B M) p m))
  | _ => False
def ct_X6_delivers (B : Nat) : fw_CTX := fun as M Q _ => match as with
  | [.ref a, .int x, .int y] => a = B + 492 ∧ ∃ c p, c < 6 ∧ p < 24 ∧ x = nI c ∧ y = nI p ∧ LG (mS B M) p ∧ mS B M 2 = nI (cn (mS B M)) ∧ cn (mS B M) ≤ 6 ∧ (∃ k, k ≤ 1000 ∧ sP (mS B M) p 3 = nI k) ∧ Q none (mK B M (delS (mS B M) c p))
  | _ => False
def ct_X6_carries (B : Nat) : fw_CTX := fun as M Q _ => match as with
  | [.ref a, .int x, .int y] => a = B + 492 ∧ ∃ t c p, t < 50000 ∧ WF t (mS B M) ∧ c < cn (mS B M) ∧ p < pn (mS B M) ∧ x = nI c ∧ y = nI p ∧ Q none (mK B M (carS (mS B M) c p))
  | _ => False
def ct_X6_goes (B : Nat) : fw_CTX := fun as M Q _ => match as with
  | [.ref a, .int x, .int y] => a = B + 492 ∧ ∃ c p, c < 6 ∧ p < 24 ∧ x = nI c ∧ y = nI p ∧ Q none (mK B M (goS (mS B M) c p))
  | _ => False
def ct_X6_isAsked (B : Nat) : fw_CTX := fun as M Q _ => match as with
  | [.ref a, .int y, .int x] => a = B + 492 ∧ ∃ p c, p < 24 ∧ c < 6 ∧ y = nI p ∧ x = nI c ∧ mS B M 2 = nI (cn (mS B M)) ∧ cn (mS B M) ≤ 6 ∧ Q (some (.int (bi (asked (mS B M) p c (cn (mS B M)))))) M
  | _ => False
def ct_X6_chooses (B : Nat) : fw_CTX := fun as M Q _ => match as with
  | [.ref a, .int x] => a = B + 492 ∧ ∃ c, c < 6 ∧ x = nI c ∧ mS B M 2 = nI (cn (mS B M)) ∧ cn (mS B M) ≤ 6 ∧ mS B M 3 = nI (pn (mS B M)) ∧ pn (mS B M) ≤ 24 ∧ Q none (mK B M (chS (mS B M) c))
  | _ => False
def ct_X6_failsOf (B : Nat) : fw_CTX := fun as M Q _ => match as with
  | [.ref a, .int y] => a = B + 492 ∧ ∃ p, p < 24 ∧ y = nI p ∧ mS B M 2 = nI (cn (mS B M)) ∧ cn (mS B M) ≤ 6 ∧ Q none (mK B M (faiS (mS B M) p))
  | _ => False
def ct_X6_tick (B : Nat) : fw_CTX := fun as M Q _ => match as with
  | [.ref a] => a = B + 492 ∧ ∃ t, t < 40000 ∧ WF t (mS B M) ∧ Q none (mK B M (tickS (mS B M)))
  | _ => False
def ct_X6_ticks (B : Nat) : fw_CTX := fun as M Q _ => match as with
  | [.ref a, .int x] => a = B + 492 ∧ ∃ t n, t + 6 * n ≤ 40000 ∧ x = nI n ∧ WF t (mS B M) ∧ Q none (mK B M (tkN (mS B M) n))
  | _ => False
end CM

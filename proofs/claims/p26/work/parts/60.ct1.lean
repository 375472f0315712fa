/-! WHAT AN EXCHANGE'S METHODS DO -/
section CT1
/-- nobody else aims at a courier's parcel; who is on the way aims at a waiting one -/
def J (S : Sx) : Prop := (∀ c d p, c < cn S → d < cn S → p < pn S → sC S c 4 = nI p → sC S d 4 = nI p → c = d) ∧ ∀ c p, c < cn S → p < pn S → sC S c 4 = nI p → sC S c 3 = 1 → sP S p 4 = 0
/-- all couriers are free and none finds a parcel -/
def Idle (S : Sx) : Prop := ∀ c, c < cn S → sC S c 3 = 0 ∧ sC S c 4 = -1 ∧ ∀ p, p < pn S → may S c p = false
/-- the exchange at x holds S, well -/
def XS (B : Nat) (M : fw_M) (x b : Nat) (S : Sx) : Prop := EX B x ∧ Rep M.1 x S ∧ WF b S
def sought (S : Sx) (v : Int32) : Nat → Bool
  | 0 => false
  | c + 1 => sought S v c || decide (sC S c 4 = v)
def ct_X1_courierAt (B : Nat) : fw_CTX := fun as M Q _ => match as with
  | [.ref x, .int v] => EX B x ∧ ∃ n, n ≤ 6 ∧ M.1 x 2 = nI n ∧ ((∃ k, k < n ∧ v = nI k ∧ Q (some (.ref (x + 3 + k))) M) ∨ ((∀ k, k < n → v ≠ nI k) ∧ Q (some .null) M))
  | _ => False
def ct_X1_parcelAt (B : Nat) : fw_CTX := fun as M Q _ => match as with
  | [.ref x, .int v] => EX B x ∧ ∃ n, n ≤ 24 ∧ M.1 x 3 = nI n ∧ ((∃ k, k < n ∧ v = nI k ∧ Q (some (.ref (x + 9 + 3 * k))) M) ∨ ((∀ k, k < n → v ≠ nI k) ∧ Q (some .null) M))
  | _ => False
def ct_X1_isSought (B : Nat) : fw_CTX := fun as M Q _ => match as with
  | [.ref x, .int v] => ∃ b S, XS B M x b S ∧ Q (some (.int (bi (sought S v (cn S))))) M
  | _ => False
def ct_X1_parcelsIn (B : Nat) : fw_CTX := fun as M Q _ => match as with
  | [.ref x, .int q] => ∃ b S, XS B M x b S ∧ Q (some (.int (inSt S q (pn S)))) M
  | _ => False
def ct_X1_legsBy (B : Nat) : fw_CTX := fun as M Q _ => match as with
  | [.ref x, .int v] => ∃ b S c, XS B M x b S ∧ c < 6 ∧ v = nI c ∧ Q (some (.int (lgC S c (pn S)))) M
  | _ => False
def ct_X1_figure (B : Nat) : fw_CTX := fun as M Q _ => match as with
  | [.ref x, .int v] => ∃ b S w, XS B M x b S ∧ w ≤ 10 ∧ v = nI w ∧ Q (some (.int (valS S w))) M
  | _ => False
def ct_X1_courierFigure (B : Nat) : fw_CTX := fun as M Q _ => match as with
  | [.ref x, .ref y, .int u, .int v] => ∃ b S c w, XS B M x b S ∧ c < cn S ∧ w ≤ 5 ∧ y = x + 3 + c ∧ u = nI c ∧ v = nI w ∧ Q (some (.int (crS S c w))) M
  | _ => False
/-! those that change it -/
def to (x : Nat) (M : fw_M) (S' : Sx) (Q : fw_M → Prop) : Prop := ∀ M', Rep M'.1 x S' → FX x M M' → Q M'
def ct_X1_release (B : Nat) : fw_CTX := fun as M Q _ => match as with
  | [.ref x, .ref y] => ∃ b S c, XS B M x b S ∧ J S ∧ c < cn S ∧ y = x + 3 + c ∧ to x M (drS S c) (Q none)
  | _ => False
def ct_X1_deliver (B : Nat) : fw_CTX := fun as M Q _ => match as with
  | [.ref x, .ref q] => EX B x ∧ ∃ S p k, Rep M.1 x S ∧ S 2 = nI (cn S) ∧ p < pn S ∧ q = x + 9 + 3 * p ∧ LG S p ∧ k ≤ 1000 ∧ sP S p 3 = nI k ∧ to x M (shareS (dl1 S p) p (payS S p)) (Q none)
  | _ => False
def ct_X1_carry (B : Nat) : fw_CTX := fun as M Q _ => match as with
  | [.ref x, .ref y, .int u, .ref q] => ∃ b S c p, b < 50000 ∧ XS B M x b S ∧ c < cn S ∧ p < pn S ∧ y = x + 3 + c ∧ u = nI c ∧ q = x + 9 + 3 * p ∧ to x M (carS S c p) (Q none)
  | _ => False
def ct_X1_approach (B : Nat) : fw_CTX := fun as M Q _ => match as with
  | [.ref x, .ref y, .ref q] => ∃ b S c p, XS B M x b S ∧ c < cn S ∧ p < pn S ∧ y = x + 3 + c ∧ q = x + 9 + 3 * p ∧ to x M (goS S c p) (Q none)
  | _ => False
def ct_X1_choose (B : Nat) : fw_CTX := fun as M Q _ => match as with
  | [.ref x, .ref y] => ∃ b S c, XS B M x b S ∧ c < cn S ∧ y = x + 3 + c ∧ to x M (chS S c) (Q none)
  | _ => False
def ct_X1_freeCouriersOf (B : Nat) : fw_CTX := fun as M Q _ => match as with
  | [.ref x, .int v] => EX B x ∧ ∃ S p, Rep M.1 x S ∧ S 2 = nI (cn S) ∧ v = nI p ∧ to x M (frW S p (cn S)) (Q none)
  | _ => False
def ct_X1_failLateParcels (B : Nat) : fw_CTX := fun as M Q _ => match as with
  | [.ref x] => ∃ b S, XS B M x b S ∧ to x M (flW S (pn S)) (Q none)
  | _ => False
def ct_X1_tick (B : Nat) : fw_CTX := fun as M Q _ => match as with
  | [.ref x, .int u] => ∃ b S, b < 40000 ∧ XS B M x b S ∧ J S ∧ (u = 1 ∨ (u = 0 ∧ Idle S)) ∧ ∀ M' v, Rep M'.1 x (tickS S) → FX x M M' → (v = 1 ∨ (v = 0 ∧ Idle (tickS S))) → Q (some (.int v)) M'
  | _ => False
def ct_X1_pass (B : Nat) : fw_CTX := fun as M Q _ => match as with
  | [.ref x, .int u] => ∃ b S n, b + 6 * n ≤ 40000 ∧ u = nI n ∧ XS B M x b S ∧ J S ∧ to x M (tkN S n) (Q (some (.int (payN S n))))
  | _ => False
def ct_X1_join (B : Nat) : fw_CTX := fun as M Q _ => match as with
  | [.ref x, .int ar, .int z] => ∃ b S, XS B M x b S ∧ cn S < 6 ∧ to x M (addS S ar z) (Q (some (.int (S 2))))
  | _ => False
def ct_X1_accept (B : Nat) : fw_CTX := fun as M Q _ => match as with
  | [.ref x, .int o, .int g, .int k, .int t] => ∃ b S, XS B M x b S ∧ pn S < 24 ∧ to x M (comS S o g k t) (Q (some (.int (S 3))))
  | _ => False
def ct_X1_become (B : Nat) : fw_CTX := fun as M Q _ => match as with
  | [.ref x, .ref y] => EX B x ∧ x ≠ y ∧ ∃ b S, XS B M y b S ∧ to x M S (Q none)
  | _ => False
end CT1

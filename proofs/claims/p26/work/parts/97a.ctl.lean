/-! WHAT THE LAW'S OWN METHODS DO to its rows -/
section CTL
def arN (v : Int32) : Int32 :=
  if v - v / 5 * 5 = 0 then v * 7 &&& 65535 else if v - v / 5 * 5 = 1 then 65535
  else if v - v / 5 * 5 < 4 then (((15 : Int32) <<< ((4 * (v - v / 4 * 4)) &&& 31)) ||| ((15 : Int32) <<< ((4 * (v / 4 - v / 4 / 4 * 4)) &&& 31))) ||| (((4369 : Int32) <<< ((v - v / 4 * 4) &&& 31)) ||| ((4369 : Int32) <<< ((v / 4 - v / 4 / 4 * 4) &&& 31)))
  else ((4369 : Int32) <<< ((v - v / 4 * 4) &&& 31)) ||| ((4369 : Int32) <<< ((v / 4 - v / 4 / 4 * 4) &&& 31))
def ct_L_area (_ : Nat) : fw_CTX := fun as M Q _ => match as with
  | [.int v] => Q (some (.int (arN v))) M
  | _ => False
def ct_L_low (_ : Nat) : fw_CTX := fun as M Q _ => match as with
  | [.int _, .int n] => ∃ k, 0 < k ∧ k ≤ 100000 ∧ n = nI k ∧ ∀ j, j < k → Q (some (.int (nI j))) M
  | _ => False
def ct_L_towards (_ : Nat) : fw_CTX := fun as M Q _ => match as with
  | [.int f, .int t] => ∃ i j, i < 16 ∧ j < 16 ∧ f = nI i ∧ t = nI j ∧ Q (some (.int (nxz f t))) M
  | _ => False
def ct_L_has (_ : Nat) : fw_CTX := fun as M Q _ => match as with
  | [.int a, .int z] => Q (some (.int (bi (hs a z)))) M
  | _ => False
def ct_L_suits (B : Nat) : fw_CTX := fun as M Q _ => match as with
  | [.ref c, .ref p, .int k, .int m] => c = B + 493 ∧ p = B + 494 ∧ ∃ b S d q, RW B M S ∧ WF b S ∧ d < cn S ∧ q < pn S ∧ q < 8 ∧ k = nI d ∧ m = nI q ∧ Q (some (.int (bi (suit S q d)))) M
  | _ => False
def ct_L_free (B : Nat) : fw_CTX := fun as M Q _ => match as with
  | [.ref c, .int k] => c = B + 493 ∧ ∃ S d, RW B M S ∧ d < 6 ∧ k = nI d ∧ toW B M (frS S d) (Q none)
  | _ => False
def ct_L_pays (B : Nat) : fw_CTX := fun as M Q _ => match as with
  | [.ref g, .ref c, .ref p, .ref l, .ref h, .int m] => g = B + 492 ∧ c = B + 493 ∧ p = B + 494 ∧ l = B + 495 ∧ h = B + 496 ∧ ∃ S q k, RW B M S ∧ S 2 = nI (cn S) ∧ cn S ≤ 6 ∧ q < 8 ∧ m = nI q ∧ LG S q ∧ k ≤ 1000 ∧ payS S q = nI k ∧ toW B M (shareS (dl1 S q) q (payS S q)) (Q none)
  | _ => False
def ct_L_does (B : Nat) : fw_CTX := fun as M Q _ => match as with
  | [.ref g, .ref c, .ref p, .ref l, .ref h, .int k] => g = B + 492 ∧ c = B + 493 ∧ p = B + 494 ∧ l = B + 495 ∧ h = B + 496 ∧ ∃ b S d, RW B M S ∧ WF b S ∧ b < 100000 ∧ pn S ≤ 8 ∧ d < cn S ∧ k = nI d ∧ toW B M (actS S d) (Q none)
  | _ => False
def ct_L_ticks (B : Nat) : fw_CTX := fun as M Q _ => match as with
  | [.ref g, .ref c, .ref p, .ref l, .ref h, .int k] => g = B + 492 ∧ c = B + 493 ∧ p = B + 494 ∧ l = B + 495 ∧ h = B + 496 ∧ ∃ b S n, RW B M S ∧ WF b S ∧ b + 6 * n + 6 < 100000 ∧ pn S ≤ 8 ∧ n ≤ 200 ∧ k = nI n ∧ toW B M (tkN S n) (Q none)
  | _ => False
def ct_L_drops (B : Nat) : fw_CTX := fun as M Q _ => match as with
  | [.ref c, .ref p, .int k] => c = B + 493 ∧ p = B + 494 ∧ ∃ b S d, RW B M S ∧ WF b S ∧ pn S ≤ 8 ∧ d < cn S ∧ k = nI d ∧ toW B M (drS S d) (Q (some (.int (sC S d 4))))
  | _ => False
def ct_L_delivered (B : Nat) : fw_CTX := fun as M Q _ => match as with
  | [.ref g, .ref p] => g = B + 492 ∧ p = B + 494 ∧ ∃ S, RW B M S ∧ S 3 = nI (pn S) ∧ pn S ≤ 8 ∧ Q (some (.int (inSt S 2 (pn S)))) M
  | _ => False
def fl_L : List (Nat × Nat × Nat) := []
theorem fl_L_ok : fw_Fld RL fl_L := fun q hq => nomatch hq
end CTL

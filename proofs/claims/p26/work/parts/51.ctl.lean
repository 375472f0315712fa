/-! WHAT THE CLASS'S LEAVES DO -/
section CTL
def rsum (f : Nat → Int32) : Nat → Int32
  | 0 => 0
  | n + 1 => rsum f n + f n
def ct_X5_isZone (B : Nat) : fw_CTX := fun as M Q _ => match as with
  | [.int v] => Q (some (.int (bi (okN v 0 15)))) M
  | _ => False
def ct_X5_isArea (B : Nat) : fw_CTX := fun as M Q _ => match as with
  | [.int v] => Q (some (.int (bi (okN v 0 65535)))) M
  | _ => False
def ct_X5_isCutOff (B : Nat) : fw_CTX := fun as M Q _ => match as with
  | [.int v] => Q (some (.int (bi (okN v 1 999)))) M
  | _ => False
def ct_X5_isTip (B : Nat) : fw_CTX := fun as M Q _ => match as with
  | [.int v] => Q (some (.int (bi (okN v 0 1000)))) M
  | _ => False
def ct_X5_isTicks (B : Nat) : fw_CTX := fun as M Q _ => match as with
  | [.int v] => Q (some (.int (bi (okN v 0 200)))) M
  | _ => False
def ct_X5_holds (B : Nat) : fw_CTX := fun as M Q _ => match as with
  | [.int a, .int z] => Q (some (.int (bi (hs a z)))) M
  | _ => False
def ct_X5_nextZone (B : Nat) : fw_CTX := fun as M Q _ => match as with
  | [.int f, .int t] => ∃ i j, i < 16 ∧ j < 16 ∧ f = nI i ∧ t = nI j ∧ Q (some (.int (nxz f t))) M
  | _ => False
def ct_X5_at (B : Nat) : fw_CTX := fun as M Q _ => match as with
  | [.ref a, .int i] => fw_kd B a = 7 ∧ ∃ k, k < fw_len B a ∧ k < 2000 ∧ i = nI k ∧ Q (some (.int (M.1 a k))) M
  | _ => False
def ct_X5_sum (B : Nat) : fw_CTX := fun as M Q _ => match as with
  | [.ref a] => fw_kd B a = 7 ∧ fw_len B a = 6 ∧ Q (some (.int (rsum (M.1 a) 6))) M
  | _ => False
def ct_X5_copyRow (B : Nat) : fw_CTX := fun as M Q _ => match as with
  | [.ref a, .ref b] => fw_kd B a = 7 ∧ fw_kd B b = 7 ∧ fw_len B a = 6 ∧ fw_len B b = 6 ∧ Q none (fw_row M b (cpN 6 (M.1 a) (M.1 b)))
  | _ => False
def ct_X0_setFree (B : Nat) : fw_CTX := fun as M Q _ => match as with
  | [.ref a] => fw_kd B a = 0 ∧ Q none (fw_st (fw_st M a 3 0) a 4 (-1))
  | _ => False
def ct_X0_begin (B : Nat) : fw_CTX := fun as M Q _ => match as with
  | [.ref a, .int ar, .int z] => fw_kd B a = 0 ∧ Q none (fw_st (fw_st (fw_st (fw_st (fw_st M a 0 ar) a 1 z) a 2 0) a 3 0) a 4 (-1))
  | _ => False
def ct_X0_become (B : Nat) : fw_CTX := fun as M Q _ => match as with
  | [.ref a, .ref b] => fw_kd B a = 0 ∧ fw_kd B b = 0 ∧ b ≠ a ∧ Q none (fw_st (fw_st (fw_st (fw_st (fw_st M a 0 (M.1 b 0)) a 1 (M.1 b 1)) a 2 (M.1 b 2)) a 3 (M.1 b 3)) a 4 (M.1 b 4))
  | _ => False
def pB (M : fw_M) (a : Nat) (o g k t : Int32) : fw_M := fw_st (fw_st (fw_st (fw_st (fw_st (fw_st (fw_st (fw_st M a 0 o) a 1 g) a 2 k) a 3 t) a 4 0) a 5 o) a 6 (-1)) a 7 0
def pC (M : fw_M) (a b : Nat) : fw_M := fw_st (fw_st (fw_st (fw_st (fw_st (fw_st (fw_st (fw_st M a 0 (M.1 b 0)) a 1 (M.1 b 1)) a 2 (M.1 b 2)) a 3 (M.1 b 3)) a 4 (M.1 b 4)) a 5 (M.1 b 5)) a 6 (M.1 b 6)) a 7 (M.1 b 7)
def ct_X3_begin (B : Nat) : fw_CTX := fun as M Q _ => match as with
  | [.ref a, .int o, .int g, .int k, .int t] => PK B a ∧ Q none (fw_row (fw_row (pB M a o g k t) (a + 1) (cpN 6 (fun _ => 0) (M.1 (a + 1)))) (a + 2) (cpN 6 (fun _ => 0) (M.1 (a + 2))))
  | _ => False
def ct_X3_become (B : Nat) : fw_CTX := fun as M Q _ => match as with
  | [.ref a, .ref b] => PK B a ∧ PK B b ∧ (b + 2 < a ∨ a + 2 < b) ∧ Q none (fw_row (fw_row (pC M a b) (a + 1) (cpN 6 (M.1 (b + 1)) (M.1 (a + 1)))) (a + 2) (cpN 6 (M.1 (b + 2)) (M.1 (a + 2))))
  | _ => False
def ct_X3_isOpen (B : Nat) : fw_CTX := fun as M Q _ => match as with
  | [.ref a] => fw_kd B a = 3 ∧ Q (some (.int (bi (decide (M.1 a 4 = 0) || decide (M.1 a 4 = 1))))) M
  | _ => False
def ct_X3_suits (B : Nat) : fw_CTX := fun as M Q _ => match as with
  | [.ref a, .int ar] => fw_kd B a = 3 ∧ ∃ z d, z < 16 ∧ d < 16 ∧ M.1 a 5 = nI z ∧ M.1 a 1 = nI d ∧ Q (some (.int (bi (hs ar (M.1 a 5) && hs ar (nxz (M.1 a 5) (M.1 a 1)))))) M
  | _ => False
def ct_X3_legsOf (B : Nat) : fw_CTX := fun as M Q _ => match as with
  | [.ref a, .int x] => PK B a ∧ ∃ c, c < 6 ∧ x = nI c ∧ Q (some (.int (M.1 (a + 1) c))) M
  | _ => False
def ct_X3_shareOf (B : Nat) : fw_CTX := fun as M Q _ => match as with
  | [.ref a, .int x] => PK B a ∧ ∃ c, c < 6 ∧ x = nI c ∧ Q (some (.int (M.1 (a + 2) c))) M
  | _ => False
def ct_X3_addLeg (B : Nat) : fw_CTX := fun as M Q _ => match as with
  | [.ref a, .int x] => PK B a ∧ ∃ c, c < 6 ∧ x = nI c ∧ Q none (fw_st M (a + 1) c (M.1 (a + 1) c + 1))
  | _ => False
/-- the legs in the row are those of the state, some and bounded -/
def LW (M : fw_M) (a : Nat) (S : Sx) (p : Nat) : Prop := (∀ c, c < 6 → M.1 (a + 1) c = sP S p (8 + c)) ∧ LG S p
def ct_X3_rankOf (B : Nat) : fw_CTX := fun as M Q _ => match as with
  | [.ref a, .int x, .int y, .int z] => PK B a ∧ ∃ S p c, LW M a S p ∧ c < 6 ∧ x = nI c ∧ y = shr S p (M.1 a 7) c ∧ z = lsum S p 6 ∧ Q (some (.int (nI (rnk S p (M.1 a 7) c 6)))) M
  | _ => False
def ct_X3_sharePaid (B : Nat) : fw_CTX := fun as M Q _ => match as with
  | [.ref a] => PK B a ∧ ∃ S p, LW M a S p ∧ Q none (fw_row M (a + 2) (cpN 6 (fun c => fsh S p (M.1 a 7) c) (M.1 (a + 2))))
  | _ => False
def ct_X3_figure (B : Nat) : fw_CTX := fun as M Q _ => match as with
  | [.ref a, .int x] => PK B a ∧ ∃ w, w ≤ 8 ∧ x = nI w ∧ Q (some (.int (if w < 8 then M.1 a w else rsum (M.1 (a + 1)) 6))) M
  | _ => False
end CTL

/-! the callees of each method (printed by program) -/
def cal_X6_thrown (B : Nat) : List fw_Cal := []
def cal_X6_in (B : Nat) : List fw_Cal := []
def cal_X6_fails (B : Nat) : List fw_Cal := []
def cal_X6_tells (B : Nat) : List fw_Cal := []
def cal_X6_copies (B : Nat) : List fw_Cal := []
def cal_X6_hold (B : Nat) : List fw_Cal := [(29, 1, 0, 2, 0, fun as M Q => ct_X6_copies B as M Q (fun _ _ => False))]
def cal_X6_isCourier (B : Nat) : List fw_Cal := [(40, 1, 0, 3, 0, fun as M Q => ct_X6_in B as M Q (fun _ _ => False))]
def cal_X6_isParcel (B : Nat) : List fw_Cal := [(40, 1, 0, 3, 0, fun as M Q => ct_X6_in B as M Q (fun _ _ => False))]
def cal_X6_isZone (B : Nat) : List fw_Cal := [(40, 1, 0, 3, 0, fun as M Q => ct_X6_in B as M Q (fun _ _ => False))]
def cal_X6_isArea (B : Nat) : List fw_Cal := [(40, 1, 0, 3, 0, fun as M Q => ct_X6_in B as M Q (fun _ _ => False))]
def cal_X6_isMany (B : Nat) : List fw_Cal := [(40, 1, 0, 3, 0, fun as M Q => ct_X6_in B as M Q (fun _ _ => False))]
def cal_X6_of (B : Nat) : List fw_Cal := []
def cal_X6_sets (B : Nat) : List fw_Cal := []
def cal_X6_its (B : Nat) : List fw_Cal := []
def cal_X6_puts (B : Nat) : List fw_Cal := []
def cal_X6_isIn (B : Nat) : List fw_Cal := [(44, 0, 6, 3, 0, fun as M Q => ct_X6_of B as M Q (fun _ _ => False))]
def cal_X6_next (B : Nat) : List fw_Cal := []
def cal_X6_frees (B : Nat) : List fw_Cal := [(48, 0, 6, 4, 0, fun as M Q => ct_X6_sets B as M Q (fun _ _ => False))]
def cal_X6_suits (B : Nat) : List fw_Cal := [(52, 0, 6, 3, 0, fun as M Q => ct_X6_its B as M Q (fun _ _ => False)),
  (55, 0, 6, 3, 0, fun as M Q => ct_X6_isIn B as M Q (fun _ _ => False)),
  (59, 1, 0, 2, 0, fun as M Q => ct_X6_next B as M Q (fun _ _ => False))]
def cal_X6_legsOf (B : Nat) : List fw_Cal := [(52, 0, 6, 3, 0, fun as M Q => ct_X6_its B as M Q (fun _ _ => False))]
def cal_X6_shares (B : Nat) : List fw_Cal := [(62, 0, 6, 2, 0, fun as M Q => ct_X6_legsOf B as M Q (fun _ _ => False)),
  (52, 0, 6, 3, 0, fun as M Q => ct_X6_its B as M Q (fun _ _ => False)),
  (65, 0, 6, 4, 0, fun as M Q => ct_X6_puts B as M Q (fun _ _ => False)),
  (44, 0, 6, 3, 0, fun as M Q => ct_X6_of B as M Q (fun _ _ => False)),
  (48, 0, 6, 4, 0, fun as M Q => ct_X6_sets B as M Q (fun _ _ => False))]
def cal_X6_delivers (B : Nat) : List fw_Cal := [(52, 0, 6, 3, 0, fun as M Q => ct_X6_its B as M Q (fun _ _ => False)),
  (65, 0, 6, 4, 0, fun as M Q => ct_X6_puts B as M Q (fun _ _ => False)),
  (68, 0, 6, 3, 0, fun as M Q => ct_X6_shares B as M Q (fun _ _ => False)),
  (72, 0, 6, 2, 0, fun as M Q => ct_X6_frees B as M Q (fun _ _ => False))]
def cal_X6_carries (B : Nat) : List fw_Cal := [(44, 0, 6, 3, 0, fun as M Q => ct_X6_of B as M Q (fun _ _ => False)),
  (52, 0, 6, 3, 0, fun as M Q => ct_X6_its B as M Q (fun _ _ => False)),
  (59, 1, 0, 2, 0, fun as M Q => ct_X6_next B as M Q (fun _ _ => False)),
  (55, 0, 6, 3, 0, fun as M Q => ct_X6_isIn B as M Q (fun _ _ => False)),
  (65, 0, 6, 4, 0, fun as M Q => ct_X6_puts B as M Q (fun _ _ => False)),
  (72, 0, 6, 2, 0, fun as M Q => ct_X6_frees B as M Q (fun _ _ => False)),
  (48, 0, 6, 4, 0, fun as M Q => ct_X6_sets B as M Q (fun _ _ => False)),
  (76, 0, 6, 3, 0, fun as M Q => ct_X6_delivers B as M Q (fun _ _ => False))]
def cal_X6_goes (B : Nat) : List fw_Cal := [(44, 0, 6, 3, 0, fun as M Q => ct_X6_of B as M Q (fun _ _ => False)),
  (52, 0, 6, 3, 0, fun as M Q => ct_X6_its B as M Q (fun _ _ => False)),
  (48, 0, 6, 4, 0, fun as M Q => ct_X6_sets B as M Q (fun _ _ => False)),
  (65, 0, 6, 4, 0, fun as M Q => ct_X6_puts B as M Q (fun _ _ => False)),
  (59, 1, 0, 2, 0, fun as M Q => ct_X6_next B as M Q (fun _ _ => False))]
def cal_X6_isAsked (B : Nat) : List fw_Cal := [(44, 0, 6, 3, 0, fun as M Q => ct_X6_of B as M Q (fun _ _ => False))]
def cal_X6_chooses (B : Nat) : List fw_Cal := [(52, 0, 6, 3, 0, fun as M Q => ct_X6_its B as M Q (fun _ _ => False)),
  (79, 0, 6, 3, 0, fun as M Q => ct_X6_suits B as M Q (fun _ _ => False)),
  (82, 0, 6, 3, 0, fun as M Q => ct_X6_isAsked B as M Q (fun _ _ => False)),
  (48, 0, 6, 4, 0, fun as M Q => ct_X6_sets B as M Q (fun _ _ => False))]
def cal_X6_failsOf (B : Nat) : List fw_Cal := [(65, 0, 6, 4, 0, fun as M Q => ct_X6_puts B as M Q (fun _ _ => False)),
  (44, 0, 6, 3, 0, fun as M Q => ct_X6_of B as M Q (fun _ _ => False)),
  (72, 0, 6, 2, 0, fun as M Q => ct_X6_frees B as M Q (fun _ _ => False))]
def cal_X6_tick (B : Nat) : List fw_Cal := [(44, 0, 6, 3, 0, fun as M Q => ct_X6_of B as M Q (fun _ _ => False)),
  (85, 0, 6, 3, 0, fun as M Q => ct_X6_carries B as M Q (fun _ _ => False)),
  (52, 0, 6, 3, 0, fun as M Q => ct_X6_its B as M Q (fun _ _ => False)),
  (88, 0, 6, 3, 0, fun as M Q => ct_X6_goes B as M Q (fun _ _ => False)),
  (91, 0, 6, 2, 0, fun as M Q => ct_X6_chooses B as M Q (fun _ _ => False)),
  (94, 0, 6, 2, 0, fun as M Q => ct_X6_failsOf B as M Q (fun _ _ => False))]
def cal_X6_ticks (B : Nat) : List fw_Cal := [(97, 0, 6, 1, 0, fun as M Q => ct_X6_tick B as M Q (fun _ _ => False))]

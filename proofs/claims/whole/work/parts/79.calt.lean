/-! the callees of each method (printed by program) -/
def cal_X4_isDigit (B : Nat) : List fw_Cal := []
def cal_X4_mostDigits (B : Nat) : List fw_Cal := []
def cal_X4_endOf (B : Nat) : List fw_Cal := []
def cal_X4_numberOf (B : Nat) : List fw_Cal := [(22, 1, 0, 2, 0, fun as M Q => ct_X5_at B as M Q (fun _ _ => False))]
def cal_X4_keep (B : Nat) : List fw_Cal := []
def cal_X4_fits (B : Nat) : List fw_Cal := [(58, 1, 0, 1, 0, fun as M Q => ct_X5_isZone B as M Q (fun _ _ => False)),
  (61, 0, 4, 3, 0, fun as M Q => ct_X4_numberOf B as M Q (fun _ _ => False)),
  (65, 1, 0, 1, 0, fun as M Q => ct_X5_isCutOff B as M Q (fun _ _ => False)),
  (68, 1, 0, 1, 0, fun as M Q => ct_X5_isTip B as M Q (fun _ _ => False))]
def cal_X4_add (B : Nat) : List fw_Cal := []
def cal_X4_readNumber (B : Nat) : List fw_Cal := [(22, 1, 0, 2, 0, fun as M Q => ct_X5_at B as M Q (fun _ _ => False)),
  (40, 1, 0, 1, 0, fun as M Q => ct_X4_isDigit B as M Q (fun _ _ => False)),
  (44, 1, 0, 1, 0, fun as M Q => ct_X4_mostDigits B as M Q (fun _ _ => False)),
  (47, 0, 4, 3, 0, fun as M Q => ct_X4_fits B as M Q (fun _ _ => False)),
  (51, 1, 0, 1, 0, fun as M Q => ct_X4_endOf B as M Q (fun _ _ => False)),
  (54, 0, 4, 3, 0, fun as M Q => ct_X4_keep B as M Q (fun _ _ => False))]
def cal_X4_readItem (B : Nat) : List fw_Cal := [(36, 0, 4, 2, 0, fun as M Q => ct_X4_readNumber B as M Q (fun _ _ => False))]
def cal_X4_read (B : Nat) : List fw_Cal := [(32, 0, 4, 1, 0, fun as M Q => ct_X4_readItem B as M Q (fun _ _ => False))]

/-! the callees of each method (printed by program) -/
def cal_X3_begin (B : Nat) : List fw_Cal := []
def cal_X3_become (B : Nat) : List fw_Cal := [(43, 1, 0, 2, 0, fun as M Q => ct_X5_copyRow B as M Q (fun _ _ => False))]
def cal_X3_isOpen (B : Nat) : List fw_Cal := []
def cal_X3_suits (B : Nat) : List fw_Cal := [(47, 1, 0, 2, 0, fun as M Q => ct_X5_holds B as M Q (fun _ _ => False)),
  (51, 1, 0, 2, 0, fun as M Q => ct_X5_nextZone B as M Q (fun _ _ => False))]
def cal_X3_legsOf (B : Nat) : List fw_Cal := [(55, 1, 0, 2, 0, fun as M Q => ct_X5_at B as M Q (fun _ _ => False))]
def cal_X3_shareOf (B : Nat) : List fw_Cal := [(55, 1, 0, 2, 0, fun as M Q => ct_X5_at B as M Q (fun _ _ => False))]
def cal_X3_addLeg (B : Nat) : List fw_Cal := []
def cal_X3_rankOf (B : Nat) : List fw_Cal := []
def cal_X3_sharePaid (B : Nat) : List fw_Cal := [(59, 1, 0, 1, 0, fun as M Q => ct_X5_sum B as M Q (fun _ _ => False)),
  (63, 0, 3, 4, 0, fun as M Q => ct_X3_rankOf B as M Q (fun _ _ => False))]
def cal_X3_figure (B : Nat) : List fw_Cal := [(59, 1, 0, 1, 0, fun as M Q => ct_X5_sum B as M Q (fun _ _ => False))]

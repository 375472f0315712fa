/-! the callees of each method (printed by program) -/
def cal_X2_stateAt (B : Nat) : List fw_Cal := []
def cal_X2_save (B : Nat) : List fw_Cal := [(25, 0, 2, 2, 0, fun as M Q => ct_X2_stateAt B as M Q (fun _ _ => False)),
  (29, 0, 1, 2, 0, fun as M Q => ct_X1_become B as M Q (fun _ _ => False))]

/-! the callees of each method (printed by program) -/
def cal_X0_setFree (B : Nat) : List fw_Cal := []
def cal_X0_begin (B : Nat) : List fw_Cal := [(24, 0, 0, 1, 0, fun as M Q => ct_X0_setFree B as M Q (fun _ _ => False))]
def cal_X0_become (B : Nat) : List fw_Cal := []

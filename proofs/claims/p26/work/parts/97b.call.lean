/-! the callees of each method (printed by program) -/
def cal_L_area (B : Nat) : List fw_Cal := []
def cal_L_low (B : Nat) : List fw_Cal := []
def cal_L_towards (B : Nat) : List fw_Cal := []
def cal_L_has (B : Nat) : List fw_Cal := []
def cal_L_suits (B : Nat) : List fw_Cal := [(9, 1, 0, 2, 0, fun as M Q => ct_L_has B as M Q (fun _ _ => False)),
  (15, 1, 0, 2, 0, fun as M Q => ct_L_towards B as M Q (fun _ _ => False))]
def cal_L_free (B : Nat) : List fw_Cal := []
def cal_L_pays (B : Nat) : List fw_Cal := []
def cal_L_does (B : Nat) : List fw_Cal := [(15, 1, 0, 2, 0, fun as M Q => ct_L_towards B as M Q (fun _ _ => False)),
  (9, 1, 0, 2, 0, fun as M Q => ct_L_has B as M Q (fun _ _ => False)),
  (19, 1, 0, 2, 0, fun as M Q => ct_L_free B as M Q (fun _ _ => False)),
  (23, 1, 0, 6, 0, fun as M Q => ct_L_pays B as M Q (fun _ _ => False)),
  (27, 1, 0, 4, 0, fun as M Q => ct_L_suits B as M Q (fun _ _ => False))]
def cal_L_ticks (B : Nat) : List fw_Cal := [(31, 1, 0, 6, 0, fun as M Q => ct_L_does B as M Q (fun _ _ => False)),
  (19, 1, 0, 2, 0, fun as M Q => ct_L_free B as M Q (fun _ _ => False))]
def cal_L_drops (B : Nat) : List fw_Cal := [(19, 1, 0, 2, 0, fun as M Q => ct_L_free B as M Q (fun _ _ => False))]
def cal_L_delivered (B : Nat) : List fw_Cal := []

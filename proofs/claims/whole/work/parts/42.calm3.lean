/-! the callees of each method (printed by program) -/
def cal_X6_isAt (B : Nat) : List fw_Cal := [(40, 1, 0, 3, 0, fun as M Q => ct_X6_in B as M Q (fun _ _ => False))]
def cal_X6_isNumber (B : Nat) : List fw_Cal := [(177, 0, 6, 3, 0, fun as M Q => ct_X6_isAt B as M Q (fun _ _ => False)),
  (40, 1, 0, 3, 0, fun as M Q => ct_X6_in B as M Q (fun _ _ => False))]
def cal_X6_isItem (B : Nat) : List fw_Cal := [(180, 0, 6, 6, 0, fun as M Q => ct_X6_isNumber B as M Q (fun _ _ => False)),
  (120, 0, 6, 5, 0, fun as M Q => ct_X6_comes B as M Q (fun _ _ => False))]
def cal_X6_parse (B : Nat) : List fw_Cal := [(111, 0, 6, 1, 0, fun as M Q => ct_X6_hold B as M Q (fun _ _ => False)),
  (184, 0, 6, 1, 0, fun as M Q => ct_X6_isItem B as M Q (fun _ _ => False)),
  (29, 1, 0, 2, 0, fun as M Q => ct_X6_copies B as M Q (fun _ _ => False)),
  (114, 0, 6, 2, 0, fun as M Q => ct_X6_ends B as M Q (fun _ _ => False))]
def cal_X6_mix (B : Nat) : List fw_Cal := []
def cal_X6_digest (B : Nat) : List fw_Cal := [(195, 0, 6, 2, 0, fun as M Q => ct_X6_mix B as M Q (fun _ _ => False)),
  (133, 0, 6, 2, 0, fun as M Q => ct_X6_valueOf B as M Q (fun _ _ => False)),
  (136, 0, 6, 3, 0, fun as M Q => ct_X6_courierOf B as M Q (fun _ _ => False)),
  (142, 0, 6, 3, 0, fun as M Q => ct_X6_parcelOf B as M Q (fun _ _ => False)),
  (52, 0, 6, 3, 0, fun as M Q => ct_X6_its B as M Q (fun _ _ => False))]

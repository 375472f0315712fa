/-! the callees of each method (printed by program) -/
def cal_X5_addCourier (B : Nat) : List fw_Cal := [(33, 1, 0, 1, 0, fun as M Q => ct_X5_isArea B as M Q (fun _ _ => False)),
  (37, 1, 0, 1, 0, fun as M Q => ct_X5_isZone B as M Q (fun _ _ => False)),
  (50, 0, 2, 2, 0, fun as M Q => ct_X2_save B as M Q (fun _ _ => False)),
  (54, 0, 1, 3, 0, fun as M Q => ct_X1_join B as M Q (fun _ _ => False))]
def cal_X5_setArea (B : Nat) : List fw_Cal := [(58, 0, 1, 2, 0, fun as M Q => ct_X1_courierAt B as M Q (fun _ _ => False)),
  (33, 1, 0, 1, 0, fun as M Q => ct_X5_isArea B as M Q (fun _ _ => False)),
  (50, 0, 2, 2, 0, fun as M Q => ct_X2_save B as M Q (fun _ _ => False))]
def cal_X5_give (B : Nat) : List fw_Cal := [(37, 1, 0, 1, 0, fun as M Q => ct_X5_isZone B as M Q (fun _ _ => False)),
  (70, 1, 0, 1, 0, fun as M Q => ct_X5_isCutOff B as M Q (fun _ _ => False)),
  (73, 1, 0, 1, 0, fun as M Q => ct_X5_isTip B as M Q (fun _ _ => False)),
  (50, 0, 2, 2, 0, fun as M Q => ct_X2_save B as M Q (fun _ _ => False)),
  (79, 0, 1, 5, 0, fun as M Q => ct_X1_accept B as M Q (fun _ _ => False))]
def cal_X5_setGrace (B : Nat) : List fw_Cal := [(50, 0, 2, 2, 0, fun as M Q => ct_X2_save B as M Q (fun _ _ => False))]
def cal_X5_drop (B : Nat) : List fw_Cal := [(58, 0, 1, 2, 0, fun as M Q => ct_X1_courierAt B as M Q (fun _ _ => False)),
  (50, 0, 2, 2, 0, fun as M Q => ct_X2_save B as M Q (fun _ _ => False)),
  (89, 0, 1, 2, 0, fun as M Q => ct_X1_release B as M Q (fun _ _ => False))]
def cal_X5_run (B : Nat) : List fw_Cal := [(93, 1, 0, 1, 0, fun as M Q => ct_X5_isTicks B as M Q (fun _ _ => False)),
  (50, 0, 2, 2, 0, fun as M Q => ct_X2_save B as M Q (fun _ _ => False)),
  (99, 0, 1, 2, 0, fun as M Q => ct_X1_parcelsIn B as M Q (fun _ _ => False)),
  (103, 0, 1, 2, 0, fun as M Q => ct_X1_pass B as M Q (fun _ _ => False))]
def cal_X5_value (B : Nat) : List fw_Cal := [(106, 0, 1, 2, 0, fun as M Q => ct_X1_figure B as M Q (fun _ _ => False))]
def cal_X5_courier (B : Nat) : List fw_Cal := [(58, 0, 1, 2, 0, fun as M Q => ct_X1_courierAt B as M Q (fun _ _ => False)),
  (109, 0, 1, 4, 0, fun as M Q => ct_X1_courierFigure B as M Q (fun _ _ => False))]
def cal_X5_parcel (B : Nat) : List fw_Cal := [(113, 0, 1, 2, 0, fun as M Q => ct_X1_parcelAt B as M Q (fun _ _ => False)),
  (117, 0, 3, 2, 0, fun as M Q => ct_X3_figure B as M Q (fun _ _ => False))]
def cal_X5_legs (B : Nat) : List fw_Cal := [(113, 0, 1, 2, 0, fun as M Q => ct_X1_parcelAt B as M Q (fun _ _ => False)),
  (58, 0, 1, 2, 0, fun as M Q => ct_X1_courierAt B as M Q (fun _ _ => False)),
  (120, 0, 3, 2, 0, fun as M Q => ct_X3_shareOf B as M Q (fun _ _ => False)),
  (123, 0, 3, 2, 0, fun as M Q => ct_X3_legsOf B as M Q (fun _ _ => False))]
def cal_X5_distance (B : Nat) : List fw_Cal := [(37, 1, 0, 1, 0, fun as M Q => ct_X5_isZone B as M Q (fun _ _ => False)),
  (126, 1, 0, 1, 0, fw_ctAbs)]

/-! the callees of each method (printed by program) -/
def cal_X1_become (B : Nat) : List fw_Cal := [(47, 0, 1, 2, 0, fun as M Q => ct_X1_courierAt B as M Q (fun _ _ => False)),
  (51, 0, 0, 2, 0, fun as M Q => ct_X0_become B as M Q (fun _ _ => False)),
  (55, 0, 1, 2, 0, fun as M Q => ct_X1_parcelAt B as M Q (fun _ _ => False)),
  (59, 0, 3, 2, 0, fun as M Q => ct_X3_become B as M Q (fun _ _ => False))]
def cal_X1_courierAt (B : Nat) : List fw_Cal := []
def cal_X1_parcelAt (B : Nat) : List fw_Cal := []
def cal_X1_join (B : Nat) : List fw_Cal := [(47, 0, 1, 2, 0, fun as M Q => ct_X1_courierAt B as M Q (fun _ _ => False)),
  (62, 0, 0, 3, 0, fun as M Q => ct_X0_begin B as M Q (fun _ _ => False))]
def cal_X1_accept (B : Nat) : List fw_Cal := [(55, 0, 1, 2, 0, fun as M Q => ct_X1_parcelAt B as M Q (fun _ _ => False)),
  (66, 0, 3, 5, 0, fun as M Q => ct_X3_begin B as M Q (fun _ _ => False))]
def cal_X1_release (B : Nat) : List fw_Cal := [(55, 0, 1, 2, 0, fun as M Q => ct_X1_parcelAt B as M Q (fun _ _ => False)),
  (75, 0, 0, 1, 0, fun as M Q => ct_X0_setFree B as M Q (fun _ _ => False))]
def cal_X1_pass (B : Nat) : List fw_Cal := [(84, 0, 1, 2, 0, fun as M Q => ct_X1_tick B as M Q (fun _ _ => False))]
def cal_X1_tick (B : Nat) : List fw_Cal := [(47, 0, 1, 2, 0, fun as M Q => ct_X1_courierAt B as M Q (fun _ _ => False)),
  (55, 0, 1, 2, 0, fun as M Q => ct_X1_parcelAt B as M Q (fun _ _ => False)),
  (95, 0, 1, 4, 0, fun as M Q => ct_X1_carry B as M Q (fun _ _ => False)),
  (99, 0, 1, 3, 0, fun as M Q => ct_X1_approach B as M Q (fun _ _ => False)),
  (103, 0, 1, 2, 0, fun as M Q => ct_X1_choose B as M Q (fun _ _ => False)),
  (106, 0, 1, 1, 0, fun as M Q => ct_X1_failLateParcels B as M Q (fun _ _ => False))]
def cal_X1_carry (B : Nat) : List fw_Cal := [(115, 1, 0, 2, 0, fun as M Q => ct_X5_nextZone B as M Q (fun _ _ => False)),
  (119, 1, 0, 2, 0, fun as M Q => ct_X5_holds B as M Q (fun _ _ => False)),
  (75, 0, 0, 1, 0, fun as M Q => ct_X0_setFree B as M Q (fun _ _ => False)),
  (124, 0, 3, 2, 0, fun as M Q => ct_X3_addLeg B as M Q (fun _ _ => False)),
  (128, 0, 1, 2, 0, fun as M Q => ct_X1_deliver B as M Q (fun _ _ => False))]
def cal_X1_deliver (B : Nat) : List fw_Cal := [(141, 0, 3, 1, 0, fun as M Q => ct_X3_sharePaid B as M Q (fun _ _ => False)),
  (47, 0, 1, 2, 0, fun as M Q => ct_X1_courierAt B as M Q (fun _ _ => False)),
  (147, 0, 3, 2, 0, fun as M Q => ct_X3_shareOf B as M Q (fun _ _ => False))]
def cal_X1_approach (B : Nat) : List fw_Cal := [(115, 1, 0, 2, 0, fun as M Q => ct_X5_nextZone B as M Q (fun _ _ => False))]
def cal_X1_choose (B : Nat) : List fw_Cal := [(75, 0, 0, 1, 0, fun as M Q => ct_X0_setFree B as M Q (fun _ _ => False)),
  (55, 0, 1, 2, 0, fun as M Q => ct_X1_parcelAt B as M Q (fun _ _ => False)),
  (150, 0, 3, 2, 0, fun as M Q => ct_X3_suits B as M Q (fun _ _ => False)),
  (154, 0, 1, 2, 0, fun as M Q => ct_X1_isSought B as M Q (fun _ _ => False))]
def cal_X1_isSought (B : Nat) : List fw_Cal := [(47, 0, 1, 2, 0, fun as M Q => ct_X1_courierAt B as M Q (fun _ _ => False))]
def cal_X1_failLateParcels (B : Nat) : List fw_Cal := [(55, 0, 1, 2, 0, fun as M Q => ct_X1_parcelAt B as M Q (fun _ _ => False)),
  (157, 0, 3, 1, 0, fun as M Q => ct_X3_isOpen B as M Q (fun _ _ => False)),
  (161, 0, 1, 2, 0, fun as M Q => ct_X1_freeCouriersOf B as M Q (fun _ _ => False))]
def cal_X1_freeCouriersOf (B : Nat) : List fw_Cal := [(47, 0, 1, 2, 0, fun as M Q => ct_X1_courierAt B as M Q (fun _ _ => False)),
  (75, 0, 0, 1, 0, fun as M Q => ct_X0_setFree B as M Q (fun _ _ => False))]
def cal_X1_parcelsIn (B : Nat) : List fw_Cal := [(55, 0, 1, 2, 0, fun as M Q => ct_X1_parcelAt B as M Q (fun _ _ => False))]
def cal_X1_legsBy (B : Nat) : List fw_Cal := [(55, 0, 1, 2, 0, fun as M Q => ct_X1_parcelAt B as M Q (fun _ _ => False)),
  (167, 0, 3, 2, 0, fun as M Q => ct_X3_legsOf B as M Q (fun _ _ => False))]
def cal_X1_figure (B : Nat) : List fw_Cal := [(88, 0, 1, 2, 0, fun as M Q => ct_X1_parcelsIn B as M Q (fun _ _ => False))]
def cal_X1_courierFigure (B : Nat) : List fw_Cal := [(170, 0, 1, 2, 0, fun as M Q => ct_X1_legsBy B as M Q (fun _ _ => False))]

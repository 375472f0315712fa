/-! the callees of each method (printed by program) -/
def cal_X6_ends (B : Nat) : List fw_Cal := [(36, 0, 6, 2, 0, fun as M Q => ct_X6_tells B as M Q (fun _ _ => False))]
def cal_X6_inState (B : Nat) : List fw_Cal := [(52, 0, 6, 3, 0, fun as M Q => ct_X6_its B as M Q (fun _ _ => False))]
def cal_X6_comes (B : Nat) : List fw_Cal := [(65, 0, 6, 4, 0, fun as M Q => ct_X6_puts B as M Q (fun _ _ => False))]
def cal_X6_drops (B : Nat) : List fw_Cal := [(44, 0, 6, 3, 0, fun as M Q => ct_X6_of B as M Q (fun _ _ => False)),
  (65, 0, 6, 4, 0, fun as M Q => ct_X6_puts B as M Q (fun _ _ => False)),
  (72, 0, 6, 2, 0, fun as M Q => ct_X6_frees B as M Q (fun _ _ => False))]
def cal_X6_valueOf (B : Nat) : List fw_Cal := [(127, 0, 6, 2, 0, fun as M Q => ct_X6_inState B as M Q (fun _ _ => False))]
def cal_X6_courierOf (B : Nat) : List fw_Cal := [(44, 0, 6, 3, 0, fun as M Q => ct_X6_of B as M Q (fun _ _ => False)),
  (52, 0, 6, 3, 0, fun as M Q => ct_X6_its B as M Q (fun _ _ => False))]
def cal_X6_parcelOf (B : Nat) : List fw_Cal := [(52, 0, 6, 3, 0, fun as M Q => ct_X6_its B as M Q (fun _ _ => False)),
  (62, 0, 6, 2, 0, fun as M Q => ct_X6_legsOf B as M Q (fun _ _ => False))]
def cal_X6_apart (B : Nat) : List fw_Cal := []
def cal_X6_reach (B : Nat) : List fw_Cal := [(55, 0, 6, 3, 0, fun as M Q => ct_X6_isIn B as M Q (fun _ _ => False)),
  (59, 1, 0, 2, 0, fun as M Q => ct_X6_next B as M Q (fun _ _ => False))]
def cal_X6_relays (B : Nat) : List fw_Cal := [(52, 0, 6, 3, 0, fun as M Q => ct_X6_its B as M Q (fun _ _ => False)),
  (148, 0, 6, 4, 0, fun as M Q => ct_X6_reach B as M Q (fun _ _ => False)),
  (145, 1, 0, 2, 0, fun as M Q => ct_X6_apart B as M Q (fun _ _ => False))]
def cal_X6_more (B : Nat) : List fw_Cal := [(130, 0, 6, 2, 0, fun as M Q => ct_X6_ticks B as M Q (fun _ _ => False)),
  (29, 1, 0, 2, 0, fun as M Q => ct_X6_copies B as M Q (fun _ _ => False))]
def cal_X6_paidBy (B : Nat) : List fw_Cal := [(29, 1, 0, 2, 0, fun as M Q => ct_X6_copies B as M Q (fun _ _ => False)),
  (155, 0, 6, 2, 0, fun as M Q => ct_X6_more B as M Q (fun _ _ => False))]
def cal_X6_isDone (B : Nat) : List fw_Cal := [(127, 0, 6, 2, 0, fun as M Q => ct_X6_inState B as M Q (fun _ _ => False))]
def cal_X6_addCourier (B : Nat) : List fw_Cal := [(101, 1, 0, 1, 0, fun as M Q => ct_X6_isArea B as M Q (fun _ _ => False)),
  (105, 1, 0, 1, 0, fun as M Q => ct_X6_isZone B as M Q (fun _ _ => False)),
  (108, 0, 6, 2, 0, fun as M Q => ct_X6_fails B as M Q (fun _ _ => False)),
  (111, 0, 6, 1, 0, fun as M Q => ct_X6_hold B as M Q (fun _ _ => False)),
  (48, 0, 6, 4, 0, fun as M Q => ct_X6_sets B as M Q (fun _ _ => False)),
  (72, 0, 6, 2, 0, fun as M Q => ct_X6_frees B as M Q (fun _ _ => False)),
  (114, 0, 6, 2, 0, fun as M Q => ct_X6_ends B as M Q (fun _ _ => False))]
def cal_X6_setArea (B : Nat) : List fw_Cal := [(117, 0, 6, 2, 0, fun as M Q => ct_X6_isCourier B as M Q (fun _ _ => False)),
  (108, 0, 6, 2, 0, fun as M Q => ct_X6_fails B as M Q (fun _ _ => False)),
  (101, 1, 0, 1, 0, fun as M Q => ct_X6_isArea B as M Q (fun _ _ => False)),
  (111, 0, 6, 1, 0, fun as M Q => ct_X6_hold B as M Q (fun _ _ => False)),
  (44, 0, 6, 3, 0, fun as M Q => ct_X6_of B as M Q (fun _ _ => False)),
  (48, 0, 6, 4, 0, fun as M Q => ct_X6_sets B as M Q (fun _ _ => False)),
  (114, 0, 6, 2, 0, fun as M Q => ct_X6_ends B as M Q (fun _ _ => False))]
def cal_X6_give (B : Nat) : List fw_Cal := [(105, 1, 0, 1, 0, fun as M Q => ct_X6_isZone B as M Q (fun _ _ => False)),
  (40, 1, 0, 3, 0, fun as M Q => ct_X6_in B as M Q (fun _ _ => False)),
  (108, 0, 6, 2, 0, fun as M Q => ct_X6_fails B as M Q (fun _ _ => False)),
  (111, 0, 6, 1, 0, fun as M Q => ct_X6_hold B as M Q (fun _ _ => False)),
  (120, 0, 6, 5, 0, fun as M Q => ct_X6_comes B as M Q (fun _ _ => False)),
  (114, 0, 6, 2, 0, fun as M Q => ct_X6_ends B as M Q (fun _ _ => False))]
def cal_X6_setGrace (B : Nat) : List fw_Cal := [(40, 1, 0, 3, 0, fun as M Q => ct_X6_in B as M Q (fun _ _ => False)),
  (108, 0, 6, 2, 0, fun as M Q => ct_X6_fails B as M Q (fun _ _ => False)),
  (111, 0, 6, 1, 0, fun as M Q => ct_X6_hold B as M Q (fun _ _ => False)),
  (114, 0, 6, 2, 0, fun as M Q => ct_X6_ends B as M Q (fun _ _ => False))]
def cal_X6_drop (B : Nat) : List fw_Cal := [(117, 0, 6, 2, 0, fun as M Q => ct_X6_isCourier B as M Q (fun _ _ => False)),
  (108, 0, 6, 2, 0, fun as M Q => ct_X6_fails B as M Q (fun _ _ => False)),
  (111, 0, 6, 1, 0, fun as M Q => ct_X6_hold B as M Q (fun _ _ => False)),
  (124, 0, 6, 2, 0, fun as M Q => ct_X6_drops B as M Q (fun _ _ => False)),
  (114, 0, 6, 2, 0, fun as M Q => ct_X6_ends B as M Q (fun _ _ => False))]
def cal_X6_run (B : Nat) : List fw_Cal := [(40, 1, 0, 3, 0, fun as M Q => ct_X6_in B as M Q (fun _ _ => False)),
  (108, 0, 6, 2, 0, fun as M Q => ct_X6_fails B as M Q (fun _ _ => False)),
  (111, 0, 6, 1, 0, fun as M Q => ct_X6_hold B as M Q (fun _ _ => False)),
  (127, 0, 6, 2, 0, fun as M Q => ct_X6_inState B as M Q (fun _ _ => False)),
  (130, 0, 6, 2, 0, fun as M Q => ct_X6_ticks B as M Q (fun _ _ => False)),
  (114, 0, 6, 2, 0, fun as M Q => ct_X6_ends B as M Q (fun _ _ => False))]
def cal_X6_value (B : Nat) : List fw_Cal := [(40, 1, 0, 3, 0, fun as M Q => ct_X6_in B as M Q (fun _ _ => False)),
  (133, 0, 6, 2, 0, fun as M Q => ct_X6_valueOf B as M Q (fun _ _ => False)),
  (36, 0, 6, 2, 0, fun as M Q => ct_X6_tells B as M Q (fun _ _ => False)),
  (108, 0, 6, 2, 0, fun as M Q => ct_X6_fails B as M Q (fun _ _ => False))]
def cal_X6_courier (B : Nat) : List fw_Cal := [(117, 0, 6, 2, 0, fun as M Q => ct_X6_isCourier B as M Q (fun _ _ => False)),
  (108, 0, 6, 2, 0, fun as M Q => ct_X6_fails B as M Q (fun _ _ => False)),
  (40, 1, 0, 3, 0, fun as M Q => ct_X6_in B as M Q (fun _ _ => False)),
  (136, 0, 6, 3, 0, fun as M Q => ct_X6_courierOf B as M Q (fun _ _ => False)),
  (36, 0, 6, 2, 0, fun as M Q => ct_X6_tells B as M Q (fun _ _ => False))]
def cal_X6_parcel (B : Nat) : List fw_Cal := [(139, 0, 6, 2, 0, fun as M Q => ct_X6_isParcel B as M Q (fun _ _ => False)),
  (108, 0, 6, 2, 0, fun as M Q => ct_X6_fails B as M Q (fun _ _ => False)),
  (40, 1, 0, 3, 0, fun as M Q => ct_X6_in B as M Q (fun _ _ => False)),
  (142, 0, 6, 3, 0, fun as M Q => ct_X6_parcelOf B as M Q (fun _ _ => False)),
  (36, 0, 6, 2, 0, fun as M Q => ct_X6_tells B as M Q (fun _ _ => False))]
def cal_X6_legs (B : Nat) : List fw_Cal := [(139, 0, 6, 2, 0, fun as M Q => ct_X6_isParcel B as M Q (fun _ _ => False)),
  (117, 0, 6, 2, 0, fun as M Q => ct_X6_isCourier B as M Q (fun _ _ => False)),
  (108, 0, 6, 2, 0, fun as M Q => ct_X6_fails B as M Q (fun _ _ => False)),
  (52, 0, 6, 3, 0, fun as M Q => ct_X6_its B as M Q (fun _ _ => False)),
  (36, 0, 6, 2, 0, fun as M Q => ct_X6_tells B as M Q (fun _ _ => False))]
def cal_X6_distance (B : Nat) : List fw_Cal := [(105, 1, 0, 1, 0, fun as M Q => ct_X6_isZone B as M Q (fun _ _ => False)),
  (108, 0, 6, 2, 0, fun as M Q => ct_X6_fails B as M Q (fun _ _ => False)),
  (145, 1, 0, 2, 0, fun as M Q => ct_X6_apart B as M Q (fun _ _ => False)),
  (36, 0, 6, 2, 0, fun as M Q => ct_X6_tells B as M Q (fun _ _ => False))]
def cal_X6_suited (B : Nat) : List fw_Cal := [(139, 0, 6, 2, 0, fun as M Q => ct_X6_isParcel B as M Q (fun _ _ => False)),
  (108, 0, 6, 2, 0, fun as M Q => ct_X6_fails B as M Q (fun _ _ => False)),
  (52, 0, 6, 3, 0, fun as M Q => ct_X6_its B as M Q (fun _ _ => False)),
  (79, 0, 6, 3, 0, fun as M Q => ct_X6_suits B as M Q (fun _ _ => False)),
  (36, 0, 6, 2, 0, fun as M Q => ct_X6_tells B as M Q (fun _ _ => False))]
def cal_X6_leastRelay (B : Nat) : List fw_Cal := [(139, 0, 6, 2, 0, fun as M Q => ct_X6_isParcel B as M Q (fun _ _ => False)),
  (152, 0, 6, 2, 0, fun as M Q => ct_X6_relays B as M Q (fun _ _ => False)),
  (36, 0, 6, 2, 0, fun as M Q => ct_X6_tells B as M Q (fun _ _ => False)),
  (108, 0, 6, 2, 0, fun as M Q => ct_X6_fails B as M Q (fun _ _ => False))]
def cal_X6_punctuality (B : Nat) : List fw_Cal := [(52, 0, 6, 3, 0, fun as M Q => ct_X6_its B as M Q (fun _ _ => False))]
def cal_X6_paidIn (B : Nat) : List fw_Cal := [(158, 1, 0, 1, 0, fun as M Q => ct_X6_isMany B as M Q (fun _ _ => False)),
  (161, 0, 6, 2, 0, fun as M Q => ct_X6_paidBy B as M Q (fun _ _ => False)),
  (36, 0, 6, 2, 0, fun as M Q => ct_X6_tells B as M Q (fun _ _ => False)),
  (108, 0, 6, 2, 0, fun as M Q => ct_X6_fails B as M Q (fun _ _ => False))]
def cal_X6_bestZone (B : Nat) : List fw_Cal := [(117, 0, 6, 2, 0, fun as M Q => ct_X6_isCourier B as M Q (fun _ _ => False)),
  (108, 0, 6, 2, 0, fun as M Q => ct_X6_fails B as M Q (fun _ _ => False)),
  (158, 1, 0, 1, 0, fun as M Q => ct_X6_isMany B as M Q (fun _ _ => False)),
  (161, 0, 6, 2, 0, fun as M Q => ct_X6_paidBy B as M Q (fun _ _ => False)),
  (55, 0, 6, 3, 0, fun as M Q => ct_X6_isIn B as M Q (fun _ _ => False)),
  (44, 0, 6, 3, 0, fun as M Q => ct_X6_of B as M Q (fun _ _ => False)),
  (48, 0, 6, 4, 0, fun as M Q => ct_X6_sets B as M Q (fun _ _ => False)),
  (155, 0, 6, 2, 0, fun as M Q => ct_X6_more B as M Q (fun _ _ => False)),
  (36, 0, 6, 2, 0, fun as M Q => ct_X6_tells B as M Q (fun _ _ => False))]
def cal_X6_worth (B : Nat) : List fw_Cal := [(117, 0, 6, 2, 0, fun as M Q => ct_X6_isCourier B as M Q (fun _ _ => False)),
  (108, 0, 6, 2, 0, fun as M Q => ct_X6_fails B as M Q (fun _ _ => False)),
  (158, 1, 0, 1, 0, fun as M Q => ct_X6_isMany B as M Q (fun _ _ => False)),
  (161, 0, 6, 2, 0, fun as M Q => ct_X6_paidBy B as M Q (fun _ _ => False)),
  (124, 0, 6, 2, 0, fun as M Q => ct_X6_drops B as M Q (fun _ _ => False)),
  (48, 0, 6, 4, 0, fun as M Q => ct_X6_sets B as M Q (fun _ _ => False)),
  (155, 0, 6, 2, 0, fun as M Q => ct_X6_more B as M Q (fun _ _ => False)),
  (36, 0, 6, 2, 0, fun as M Q => ct_X6_tells B as M Q (fun _ _ => False))]
def cal_X6_doneIn (B : Nat) : List fw_Cal := [(29, 1, 0, 2, 0, fun as M Q => ct_X6_copies B as M Q (fun _ _ => False)),
  (164, 0, 6, 1, 0, fun as M Q => ct_X6_isDone B as M Q (fun _ _ => False)),
  (97, 0, 6, 1, 0, fun as M Q => ct_X6_tick B as M Q (fun _ _ => False)),
  (36, 0, 6, 2, 0, fun as M Q => ct_X6_tells B as M Q (fun _ _ => False))]
def cal_X6_append (B : Nat) : List fw_Cal := [(40, 1, 0, 3, 0, fun as M Q => ct_X6_in B as M Q (fun _ _ => False)),
  (108, 0, 6, 2, 0, fun as M Q => ct_X6_fails B as M Q (fun _ _ => False)),
  (36, 0, 6, 2, 0, fun as M Q => ct_X6_tells B as M Q (fun _ _ => False))]
def cal_X6_clearText (B : Nat) : List fw_Cal := [(36, 0, 6, 2, 0, fun as M Q => ct_X6_tells B as M Q (fun _ _ => False))]
def cal_X6_undo (B : Nat) : List fw_Cal := [(108, 0, 6, 2, 0, fun as M Q => ct_X6_fails B as M Q (fun _ _ => False)),
  (36, 0, 6, 2, 0, fun as M Q => ct_X6_tells B as M Q (fun _ _ => False))]

/-! the callees of each method (printed by program) -/
def cal_X5_isZone (B : Nat) : List fw_Cal := []
def cal_X5_isArea (B : Nat) : List fw_Cal := []
def cal_X5_isCutOff (B : Nat) : List fw_Cal := []
def cal_X5_isTip (B : Nat) : List fw_Cal := []
def cal_X5_isTicks (B : Nat) : List fw_Cal := []
def cal_X5_holds (B : Nat) : List fw_Cal := []
def cal_X5_nextZone (B : Nat) : List fw_Cal := []
def cal_X5_at (B : Nat) : List fw_Cal := []
def cal_X5_sum (B : Nat) : List fw_Cal := []
def cal_X5_copyRow (B : Nat) : List fw_Cal := [(208, 1, 0, 2, 0, fw_ctMin),
  (211, 1, 0, 5, 0, fw_ctCopy B)]

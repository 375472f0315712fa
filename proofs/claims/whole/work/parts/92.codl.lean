/-! THE LAW: its methods as lists of decoded rows (printed by program) -/
def kL_addCourier : List fw_Ent := [
  (0, 1, .aload_n 3, 0, 0), (1, 1, .iconst 0, 0, 0), (2, 1, .aload_n 0, 0, 0), (3, 1, .iload_n 1, 0, 0),
  (4, 1, .iload_n 2, 0, 0), (5, 3, .invokevirtual 7, 0, 0), (8, 1, .i2l, 0, 0), (9, 1, .lastore, 0, 0),
  (10, 3, .goto 11, 0, 21), (13, 2, .astore 4, 0, 0), (15, 1, .iconst 1, 1, 0), (16, 1, .ireturn, 0, 0),
  (17, 2, .astore 4, 0, 0), (19, 1, .iconst 2, 2, 0), (20, 1, .ireturn, 0, 0), (21, 1, .iconst 0, 0, 0),
  (22, 1, .ireturn, 0, 0)]
theorem kL_addCourier_ok : fw_chk cL_addCourier 5 kL_addCourier = true := by decide +kernel
theorem kL_addCourier_cst : ∀ en ∈ kL_addCourier, fw_CstOK RL [] en := by
  have h : kL_addCourier.all (fw_cstq []) = true := by decide +kernel
  exact fun en he => fw_cstX (cp := []) (fun q hq => nomatch hq) (fun i v hq => nomatch hq) (List.all_eq_true.mp h en he)
abbrev hL_addCourier : List (Nat × Nat × Nat × Nat) := [(0, 10, 13, 13), (0, 10, 17, 15)]
theorem wc_L_addCourier : Cond.codeWith yL_addCourier cL_addCourier 5 (some .int) hL_addCourier ∈ fw_LW := fw_t2 188 (by decide +kernel) (by decide +kernel)
def kL_setArea : List fw_Ent := [
  (0, 1, .aload_n 3, 0, 0), (1, 1, .iconst 0, 0, 0), (2, 1, .aload_n 0, 0, 0), (3, 1, .iload_n 1, 0, 0),
  (4, 1, .iload_n 2, 0, 0), (5, 3, .invokevirtual 17, 0, 0), (8, 1, .i2l, 0, 0), (9, 1, .lastore, 0, 0),
  (10, 3, .goto 11, 0, 21), (13, 2, .astore 4, 0, 0), (15, 1, .iconst 1, 1, 0), (16, 1, .ireturn, 0, 0),
  (17, 2, .astore 4, 0, 0), (19, 1, .iconst 2, 2, 0), (20, 1, .ireturn, 0, 0), (21, 1, .iconst 0, 0, 0),
  (22, 1, .ireturn, 0, 0)]
theorem kL_setArea_ok : fw_chk cL_setArea 5 kL_setArea = true := by decide +kernel
theorem kL_setArea_cst : ∀ en ∈ kL_setArea, fw_CstOK RL [] en := by
  have h : kL_setArea.all (fw_cstq []) = true := by decide +kernel
  exact fun en he => fw_cstX (cp := []) (fun q hq => nomatch hq) (fun i v hq => nomatch hq) (List.all_eq_true.mp h en he)
abbrev hL_setArea : List (Nat × Nat × Nat × Nat) := [(0, 10, 13, 20), (0, 10, 17, 13)]
theorem wc_L_setArea : Cond.codeWith yL_setArea cL_setArea 5 (some .int) hL_setArea ∈ fw_LW := fw_t3 49 (by decide +kernel) (by decide +kernel)
def kL_give : List fw_Ent := [
  (0, 2, .aload 5, 0, 0), (2, 1, .iconst 0, 0, 0), (3, 1, .aload_n 0, 0, 0), (4, 1, .iload_n 1, 0, 0),
  (5, 1, .iload_n 2, 0, 0), (6, 1, .iload_n 3, 0, 0), (7, 2, .iload 4, 0, 0), (9, 3, .invokevirtual 22, 0, 0),
  (12, 1, .i2l, 0, 0), (13, 1, .lastore, 0, 0), (14, 3, .goto 11, 0, 25), (17, 2, .astore 6, 0, 0),
  (19, 1, .iconst 1, 1, 0), (20, 1, .ireturn, 0, 0), (21, 2, .astore 6, 0, 0), (23, 1, .iconst 2, 2, 0),
  (24, 1, .ireturn, 0, 0), (25, 1, .iconst 0, 0, 0), (26, 1, .ireturn, 0, 0)]
theorem kL_give_ok : fw_chk cL_give 7 kL_give = true := by decide +kernel
theorem kL_give_cst : ∀ en ∈ kL_give, fw_CstOK RL [] en := by
  have h : kL_give.all (fw_cstq []) = true := by decide +kernel
  exact fun en he => fw_cstX (cp := []) (fun q hq => nomatch hq) (fun i v hq => nomatch hq) (List.all_eq_true.mp h en he)
abbrev hL_give : List (Nat × Nat × Nat × Nat) := [(0, 14, 17, 13), (0, 14, 21, 15)]
theorem wc_L_give : Cond.codeWith yL_give cL_give 7 (some .int) hL_give ∈ fw_LW := fw_t3 73 (by decide +kernel) (by decide +kernel)
def kL_setGrace : List fw_Ent := [
  (0, 1, .aload_n 2, 0, 0), (1, 1, .iconst 0, 0, 0), (2, 1, .aload_n 0, 0, 0), (3, 1, .iload_n 1, 0, 0),
  (4, 3, .invokevirtual 26, 0, 0), (7, 1, .i2l, 0, 0), (8, 1, .lastore, 0, 0), (9, 3, .goto 6, 0, 15),
  (12, 1, .astore_n 3, 0, 0), (13, 1, .iconst 1, 1, 0), (14, 1, .ireturn, 0, 0), (15, 1, .iconst 0, 0, 0),
  (16, 1, .ireturn, 0, 0)]
theorem kL_setGrace_ok : fw_chk cL_setGrace 4 kL_setGrace = true := by decide +kernel
theorem kL_setGrace_cst : ∀ en ∈ kL_setGrace, fw_CstOK RL [] en := by
  have h : kL_setGrace.all (fw_cstq []) = true := by decide +kernel
  exact fun en he => fw_cstX (cp := []) (fun q hq => nomatch hq) (fun i v hq => nomatch hq) (List.all_eq_true.mp h en he)
abbrev hL_setGrace : List (Nat × Nat × Nat × Nat) := [(0, 9, 12, 13)]
theorem wc_L_setGrace : Cond.codeWith yL_setGrace cL_setGrace 4 (some .int) hL_setGrace ∈ fw_LW := fw_t3 82 (by decide +kernel) (by decide +kernel)
def kL_drop : List fw_Ent := [
  (0, 1, .aload_n 2, 0, 0), (1, 1, .iconst 0, 0, 0), (2, 1, .aload_n 0, 0, 0), (3, 1, .iload_n 1, 0, 0),
  (4, 3, .invokevirtual 30, 0, 0), (7, 1, .i2l, 0, 0), (8, 1, .lastore, 0, 0), (9, 3, .goto 6, 0, 15),
  (12, 1, .astore_n 3, 0, 0), (13, 1, .iconst 1, 1, 0), (14, 1, .ireturn, 0, 0), (15, 1, .iconst 0, 0, 0),
  (16, 1, .ireturn, 0, 0)]
theorem kL_drop_ok : fw_chk cL_drop 4 kL_drop = true := by decide +kernel
theorem kL_drop_cst : ∀ en ∈ kL_drop, fw_CstOK RL [] en := by
  have h : kL_drop.all (fw_cstq []) = true := by decide +kernel
  exact fun en he => fw_cstX (cp := []) (fun q hq => nomatch hq) (fun i v hq => nomatch hq) (List.all_eq_true.mp h en he)
abbrev hL_drop : List (Nat × Nat × Nat × Nat) := [(0, 9, 12, 20)]
theorem wc_L_drop : Cond.codeWith yL_drop cL_drop 4 (some .int) hL_drop ∈ fw_LW := fw_t3 89 (by decide +kernel) (by decide +kernel)
def kL_run : List fw_Ent := [
  (0, 1, .aload_n 2, 0, 0), (1, 1, .iconst 0, 0, 0), (2, 1, .aload_n 0, 0, 0), (3, 1, .iload_n 1, 0, 0),
  (4, 3, .invokevirtual 33, 0, 0), (7, 1, .i2l, 0, 0), (8, 1, .lastore, 0, 0), (9, 3, .goto 9, 0, 18),
  (12, 1, .astore_n 3, 0, 0), (13, 1, .iconst 1, 1, 0), (14, 1, .ireturn, 0, 0), (15, 1, .astore_n 3, 0, 0),
  (16, 1, .iconst 2, 2, 0), (17, 1, .ireturn, 0, 0), (18, 1, .iconst 0, 0, 0), (19, 1, .ireturn, 0, 0)]
theorem kL_run_ok : fw_chk cL_run 4 kL_run = true := by decide +kernel
theorem kL_run_cst : ∀ en ∈ kL_run, fw_CstOK RL [] en := by
  have h : kL_run.all (fw_cstq []) = true := by decide +kernel
  exact fun en he => fw_cstX (cp := []) (fun q hq => nomatch hq) (fun i v hq => nomatch hq) (List.all_eq_true.mp h en he)
abbrev hL_run : List (Nat × Nat × Nat × Nat) := [(0, 9, 12, 13), (0, 9, 15, 15)]
theorem wc_L_run : Cond.codeWith yL_run cL_run 4 (some .int) hL_run ∈ fw_LW := fw_t3 100 (by decide +kernel) (by decide +kernel)
def kL_value : List fw_Ent := [
  (0, 1, .aload_n 2, 0, 0), (1, 1, .iconst 0, 0, 0), (2, 1, .aload_n 0, 0, 0), (3, 1, .iload_n 1, 0, 0),
  (4, 3, .invokevirtual 36, 0, 0), (7, 1, .i2l, 0, 0), (8, 1, .lastore, 0, 0), (9, 3, .goto 6, 0, 15),
  (12, 1, .astore_n 3, 0, 0), (13, 1, .iconst 1, 1, 0), (14, 1, .ireturn, 0, 0), (15, 1, .iconst 0, 0, 0),
  (16, 1, .ireturn, 0, 0)]
theorem kL_value_ok : fw_chk cL_value 4 kL_value = true := by decide +kernel
theorem kL_value_cst : ∀ en ∈ kL_value, fw_CstOK RL [] en := by
  have h : kL_value.all (fw_cstq []) = true := by decide +kernel
  exact fun en he => fw_cstX (cp := []) (fun q hq => nomatch hq) (fun i v hq => nomatch hq) (List.all_eq_true.mp h en he)
abbrev hL_value : List (Nat × Nat × Nat × Nat) := [(0, 9, 12, 13)]
theorem wc_L_value : Cond.codeWith yL_value cL_value 4 (some .int) hL_value ∈ fw_LW := fw_t3 114 (by decide +kernel) (by decide +kernel)
def kL_courier : List fw_Ent := [
  (0, 1, .aload_n 3, 0, 0), (1, 1, .iconst 0, 0, 0), (2, 1, .aload_n 0, 0, 0), (3, 1, .iload_n 1, 0, 0),
  (4, 1, .iload_n 2, 0, 0), (5, 3, .invokevirtual 39, 0, 0), (8, 1, .i2l, 0, 0), (9, 1, .lastore, 0, 0),
  (10, 3, .goto 11, 0, 21), (13, 2, .astore 4, 0, 0), (15, 1, .iconst 1, 1, 0), (16, 1, .ireturn, 0, 0),
  (17, 2, .astore 4, 0, 0), (19, 1, .iconst 2, 2, 0), (20, 1, .ireturn, 0, 0), (21, 1, .iconst 0, 0, 0),
  (22, 1, .ireturn, 0, 0)]
theorem kL_courier_ok : fw_chk cL_courier 5 kL_courier = true := by decide +kernel
theorem kL_courier_cst : ∀ en ∈ kL_courier, fw_CstOK RL [] en := by
  have h : kL_courier.all (fw_cstq []) = true := by decide +kernel
  exact fun en he => fw_cstX (cp := []) (fun q hq => nomatch hq) (fun i v hq => nomatch hq) (List.all_eq_true.mp h en he)
abbrev hL_courier : List (Nat × Nat × Nat × Nat) := [(0, 10, 13, 20), (0, 10, 17, 13)]
theorem wc_L_courier : Cond.codeWith yL_courier cL_courier 5 (some .int) hL_courier ∈ fw_LW := fw_t3 121 (by decide +kernel) (by decide +kernel)
def kL_parcel : List fw_Ent := [
  (0, 1, .aload_n 3, 0, 0), (1, 1, .iconst 0, 0, 0), (2, 1, .aload_n 0, 0, 0), (3, 1, .iload_n 1, 0, 0),
  (4, 1, .iload_n 2, 0, 0), (5, 3, .invokevirtual 42, 0, 0), (8, 1, .i2l, 0, 0), (9, 1, .lastore, 0, 0),
  (10, 3, .goto 11, 0, 21), (13, 2, .astore 4, 0, 0), (15, 1, .iconst 1, 1, 0), (16, 1, .ireturn, 0, 0),
  (17, 2, .astore 4, 0, 0), (19, 1, .iconst 2, 2, 0), (20, 1, .ireturn, 0, 0), (21, 1, .iconst 0, 0, 0),
  (22, 1, .ireturn, 0, 0)]
theorem kL_parcel_ok : fw_chk cL_parcel 5 kL_parcel = true := by decide +kernel
theorem kL_parcel_cst : ∀ en ∈ kL_parcel, fw_CstOK RL [] en := by
  have h : kL_parcel.all (fw_cstq []) = true := by decide +kernel
  exact fun en he => fw_cstX (cp := []) (fun q hq => nomatch hq) (fun i v hq => nomatch hq) (List.all_eq_true.mp h en he)
abbrev hL_parcel : List (Nat × Nat × Nat × Nat) := [(0, 10, 13, 20), (0, 10, 17, 13)]
theorem wc_L_parcel : Cond.codeWith yL_parcel cL_parcel 5 (some .int) hL_parcel ∈ fw_LW := fw_t3 129 (by decide +kernel) (by decide +kernel)
def kL_legs : List fw_Ent := [
  (0, 2, .aload 4, 0, 0), (2, 1, .iconst 0, 0, 0), (3, 1, .aload_n 0, 0, 0), (4, 1, .iload_n 1, 0, 0),
  (5, 1, .iload_n 2, 0, 0), (6, 1, .iload_n 3, 0, 0), (7, 3, .invokevirtual 45, 0, 0), (10, 1, .i2l, 0, 0),
  (11, 1, .lastore, 0, 0), (12, 3, .goto 7, 0, 19), (15, 2, .astore 5, 0, 0), (17, 1, .iconst 1, 1, 0),
  (18, 1, .ireturn, 0, 0), (19, 1, .iconst 0, 0, 0), (20, 1, .ireturn, 0, 0)]
theorem kL_legs_ok : fw_chk cL_legs 6 kL_legs = true := by decide +kernel
theorem kL_legs_cst : ∀ en ∈ kL_legs, fw_CstOK RL [] en := by
  have h : kL_legs.all (fw_cstq []) = true := by decide +kernel
  exact fun en he => fw_cstX (cp := []) (fun q hq => nomatch hq) (fun i v hq => nomatch hq) (List.all_eq_true.mp h en he)
abbrev hL_legs : List (Nat × Nat × Nat × Nat) := [(0, 12, 15, 20)]
theorem wc_L_legs : Cond.codeWith yL_legs cL_legs 6 (some .int) hL_legs ∈ fw_LW := fw_t3 138 (by decide +kernel) (by decide +kernel)
def kL_distance : List fw_Ent := [
  (0, 1, .aload_n 3, 0, 0), (1, 1, .iconst 0, 0, 0), (2, 1, .aload_n 0, 0, 0), (3, 1, .iload_n 1, 0, 0),
  (4, 1, .iload_n 2, 0, 0), (5, 3, .invokevirtual 49, 0, 0), (8, 1, .i2l, 0, 0), (9, 1, .lastore, 0, 0),
  (10, 3, .goto 7, 0, 17), (13, 2, .astore 4, 0, 0), (15, 1, .iconst 1, 1, 0), (16, 1, .ireturn, 0, 0),
  (17, 1, .iconst 0, 0, 0), (18, 1, .ireturn, 0, 0)]
theorem kL_distance_ok : fw_chk cL_distance 5 kL_distance = true := by decide +kernel
theorem kL_distance_cst : ∀ en ∈ kL_distance, fw_CstOK RL [] en := by
  have h : kL_distance.all (fw_cstq []) = true := by decide +kernel
  exact fun en he => fw_cstX (cp := []) (fun q hq => nomatch hq) (fun i v hq => nomatch hq) (List.all_eq_true.mp h en he)
abbrev hL_distance : List (Nat × Nat × Nat × Nat) := [(0, 10, 13, 20)]
theorem wc_L_distance : Cond.codeWith yL_distance cL_distance 5 (some .int) hL_distance ∈ fw_LW := fw_t3 147 (by decide +kernel) (by decide +kernel)
def kL_suited : List fw_Ent := [
  (0, 1, .aload_n 2, 0, 0), (1, 1, .iconst 0, 0, 0), (2, 1, .aload_n 0, 0, 0), (3, 1, .iload_n 1, 0, 0),
  (4, 3, .invokevirtual 52, 0, 0), (7, 1, .i2l, 0, 0), (8, 1, .lastore, 0, 0), (9, 3, .goto 6, 0, 15),
  (12, 1, .astore_n 3, 0, 0), (13, 1, .iconst 1, 1, 0), (14, 1, .ireturn, 0, 0), (15, 1, .iconst 0, 0, 0),
  (16, 1, .ireturn, 0, 0)]
theorem kL_suited_ok : fw_chk cL_suited 4 kL_suited = true := by decide +kernel
theorem kL_suited_cst : ∀ en ∈ kL_suited, fw_CstOK RL [] en := by
  have h : kL_suited.all (fw_cstq []) = true := by decide +kernel
  exact fun en he => fw_cstX (cp := []) (fun q hq => nomatch hq) (fun i v hq => nomatch hq) (List.all_eq_true.mp h en he)
abbrev hL_suited : List (Nat × Nat × Nat × Nat) := [(0, 9, 12, 20)]
theorem wc_L_suited : Cond.codeWith yL_suited cL_suited 4 (some .int) hL_suited ∈ fw_LW := fw_t3 157 (by decide +kernel) (by decide +kernel)
def kL_leastRelay : List fw_Ent := [
  (0, 1, .aload_n 2, 0, 0), (1, 1, .iconst 0, 0, 0), (2, 1, .aload_n 0, 0, 0), (3, 1, .iload_n 1, 0, 0),
  (4, 3, .invokevirtual 55, 0, 0), (7, 1, .i2l, 0, 0), (8, 1, .lastore, 0, 0), (9, 3, .goto 6, 0, 15),
  (12, 1, .astore_n 3, 0, 0), (13, 1, .iconst 1, 1, 0), (14, 1, .ireturn, 0, 0), (15, 1, .iconst 0, 0, 0),
  (16, 1, .ireturn, 0, 0)]
theorem kL_leastRelay_ok : fw_chk cL_leastRelay 4 kL_leastRelay = true := by decide +kernel
theorem kL_leastRelay_cst : ∀ en ∈ kL_leastRelay, fw_CstOK RL [] en := by
  have h : kL_leastRelay.all (fw_cstq []) = true := by decide +kernel
  exact fun en he => fw_cstX (cp := []) (fun q hq => nomatch hq) (fun i v hq => nomatch hq) (List.all_eq_true.mp h en he)
abbrev hL_leastRelay : List (Nat × Nat × Nat × Nat) := [(0, 9, 12, 20)]
theorem wc_L_leastRelay : Cond.codeWith yL_leastRelay cL_leastRelay 4 (some .int) hL_leastRelay ∈ fw_LW := fw_t3 170 (by decide +kernel) (by decide +kernel)
def kL_paidIn : List fw_Ent := [
  (0, 1, .aload_n 2, 0, 0), (1, 1, .iconst 0, 0, 0), (2, 1, .aload_n 0, 0, 0), (3, 1, .iload_n 1, 0, 0),
  (4, 3, .invokevirtual 58, 0, 0), (7, 1, .i2l, 0, 0), (8, 1, .lastore, 0, 0), (9, 3, .goto 6, 0, 15),
  (12, 1, .astore_n 3, 0, 0), (13, 1, .iconst 1, 1, 0), (14, 1, .ireturn, 0, 0), (15, 1, .iconst 0, 0, 0),
  (16, 1, .ireturn, 0, 0)]
theorem kL_paidIn_ok : fw_chk cL_paidIn 4 kL_paidIn = true := by decide +kernel
theorem kL_paidIn_cst : ∀ en ∈ kL_paidIn, fw_CstOK RL [] en := by
  have h : kL_paidIn.all (fw_cstq []) = true := by decide +kernel
  exact fun en he => fw_cstX (cp := []) (fun q hq => nomatch hq) (fun i v hq => nomatch hq) (List.all_eq_true.mp h en he)
abbrev hL_paidIn : List (Nat × Nat × Nat × Nat) := [(0, 9, 12, 13)]
theorem wc_L_paidIn : Cond.codeWith yL_paidIn cL_paidIn 4 (some .int) hL_paidIn ∈ fw_LW := fw_t3 182 (by decide +kernel) (by decide +kernel)
def kL_bestZone : List fw_Ent := [
  (0, 1, .aload_n 3, 0, 0), (1, 1, .iconst 0, 0, 0), (2, 1, .aload_n 0, 0, 0), (3, 1, .iload_n 1, 0, 0),
  (4, 1, .iload_n 2, 0, 0), (5, 3, .invokevirtual 61, 0, 0), (8, 1, .i2l, 0, 0), (9, 1, .lastore, 0, 0),
  (10, 3, .goto 11, 0, 21), (13, 2, .astore 4, 0, 0), (15, 1, .iconst 1, 1, 0), (16, 1, .ireturn, 0, 0),
  (17, 2, .astore 4, 0, 0), (19, 1, .iconst 2, 2, 0), (20, 1, .ireturn, 0, 0), (21, 1, .iconst 0, 0, 0),
  (22, 1, .ireturn, 0, 0)]
theorem kL_bestZone_ok : fw_chk cL_bestZone 5 kL_bestZone = true := by decide +kernel
theorem kL_bestZone_cst : ∀ en ∈ kL_bestZone, fw_CstOK RL [] en := by
  have h : kL_bestZone.all (fw_cstq []) = true := by decide +kernel
  exact fun en he => fw_cstX (cp := []) (fun q hq => nomatch hq) (fun i v hq => nomatch hq) (List.all_eq_true.mp h en he)
abbrev hL_bestZone : List (Nat × Nat × Nat × Nat) := [(0, 10, 13, 20), (0, 10, 17, 13)]
theorem wc_L_bestZone : Cond.codeWith yL_bestZone cL_bestZone 5 (some .int) hL_bestZone ∈ fw_LW := fw_t3 189 (by decide +kernel) (by decide +kernel)
def kL_worth : List fw_Ent := [
  (0, 1, .aload_n 3, 0, 0), (1, 1, .iconst 0, 0, 0), (2, 1, .aload_n 0, 0, 0), (3, 1, .iload_n 1, 0, 0),
  (4, 1, .iload_n 2, 0, 0), (5, 3, .invokevirtual 64, 0, 0), (8, 1, .i2l, 0, 0), (9, 1, .lastore, 0, 0),
  (10, 3, .goto 11, 0, 21), (13, 2, .astore 4, 0, 0), (15, 1, .iconst 1, 1, 0), (16, 1, .ireturn, 0, 0),
  (17, 2, .astore 4, 0, 0), (19, 1, .iconst 2, 2, 0), (20, 1, .ireturn, 0, 0), (21, 1, .iconst 0, 0, 0),
  (22, 1, .ireturn, 0, 0)]
theorem kL_worth_ok : fw_chk cL_worth 5 kL_worth = true := by decide +kernel
theorem kL_worth_cst : ∀ en ∈ kL_worth, fw_CstOK RL [] en := by
  have h : kL_worth.all (fw_cstq []) = true := by decide +kernel
  exact fun en he => fw_cstX (cp := []) (fun q hq => nomatch hq) (fun i v hq => nomatch hq) (List.all_eq_true.mp h en he)
abbrev hL_worth : List (Nat × Nat × Nat × Nat) := [(0, 10, 13, 20), (0, 10, 17, 13)]
theorem wc_L_worth : Cond.codeWith yL_worth cL_worth 5 (some .int) hL_worth ∈ fw_LW := fw_t3 201 (by decide +kernel) (by decide +kernel)
def kL_append : List fw_Ent := [
  (0, 1, .aload_n 2, 0, 0), (1, 1, .iconst 0, 0, 0), (2, 1, .aload_n 0, 0, 0), (3, 1, .iload_n 1, 0, 0),
  (4, 3, .invokevirtual 67, 0, 0), (7, 1, .i2l, 0, 0), (8, 1, .lastore, 0, 0), (9, 3, .goto 9, 0, 18),
  (12, 1, .astore_n 3, 0, 0), (13, 1, .iconst 1, 1, 0), (14, 1, .ireturn, 0, 0), (15, 1, .astore_n 3, 0, 0),
  (16, 1, .iconst 2, 2, 0), (17, 1, .ireturn, 0, 0), (18, 1, .iconst 0, 0, 0), (19, 1, .ireturn, 0, 0)]
theorem kL_append_ok : fw_chk cL_append 4 kL_append = true := by decide +kernel
theorem kL_append_cst : ∀ en ∈ kL_append, fw_CstOK RL [] en := by
  have h : kL_append.all (fw_cstq []) = true := by decide +kernel
  exact fun en he => fw_cstX (cp := []) (fun q hq => nomatch hq) (fun i v hq => nomatch hq) (List.all_eq_true.mp h en he)
abbrev hL_append : List (Nat × Nat × Nat × Nat) := [(0, 9, 12, 13), (0, 9, 15, 15)]
theorem wc_L_append : Cond.codeWith yL_append cL_append 4 (some .int) hL_append ∈ fw_LW := fw_t3 213 (by decide +kernel) (by decide +kernel)
def kL_undo : List fw_Ent := [
  (0, 1, .aload_n 1, 0, 0), (1, 1, .iconst 0, 0, 0), (2, 1, .aload_n 0, 0, 0), (3, 3, .invokevirtual 70, 0, 0),
  (6, 1, .i2l, 0, 0), (7, 1, .lastore, 0, 0), (8, 3, .goto 6, 0, 14), (11, 1, .astore_n 2, 0, 0),
  (12, 1, .iconst 1, 1, 0), (13, 1, .ireturn, 0, 0), (14, 1, .iconst 0, 0, 0), (15, 1, .ireturn, 0, 0)]
theorem kL_undo_ok : fw_chk cL_undo 3 kL_undo = true := by decide +kernel
theorem kL_undo_cst : ∀ en ∈ kL_undo, fw_CstOK RL [] en := by
  have h : kL_undo.all (fw_cstq []) = true := by decide +kernel
  exact fun en he => fw_cstX (cp := []) (fun q hq => nomatch hq) (fun i v hq => nomatch hq) (List.all_eq_true.mp h en he)
abbrev hL_undo : List (Nat × Nat × Nat × Nat) := [(0, 8, 11, 15)]
theorem wc_L_undo : Cond.codeWith yL_undo cL_undo 3 (some .int) hL_undo ∈ fw_LW := fw_t3 224 (by decide +kernel) (by decide +kernel)
def kL_law : List fw_Ent := [
  (23, 2, .iload 4, 0, 0), (25, 1, .aload_n 0, 0, 0), (26, 1, .arraylength, 0, 0), (27, 1, .iconst 5, 5, 0),
  (28, 1, .isub, 0, 0), (29, 3, .if_icmp .gt 1371, 0, 1400), (32, 1, .aload_n 0, 0, 0), (33, 2, .iload 4, 0, 0),
  (35, 1, .iaload, 0, 0), (36, 2, .bipush 31, 31, 0), (38, 1, .iand, 0, 0), (39, 105, .tableswitch 1355 0 22 #[105, 173, 241, 333, 389, 445, 501, 557, 625, 693, 789, 857, 913, 969, 1010, 1066, 1134, 1202, 1215, 1271, 1284, 1297, 1341], 0, 0),
  (144, 1, .aload_n 1, 0, 0), (145, 1, .aload_n 0, 0, 0), (146, 2, .iload 4, 0, 0), (148, 1, .iconst 1, 1, 0),
  (149, 1, .iadd, 0, 0), (150, 1, .iaload, 0, 0), (151, 1, .aload_n 0, 0, 0), (152, 2, .iload 4, 0, 0),
  (154, 1, .iconst 2, 2, 0), (155, 1, .iadd, 0, 0), (156, 1, .iaload, 0, 0), (157, 1, .aload_n 3, 0, 0),
  (158, 3, .invokestatic 78, 0, 0), (161, 2, .istore 5, 0, 0), (163, 1, .aload_n 2, 0, 0), (164, 1, .aload_n 0, 0, 0),
  (165, 2, .iload 4, 0, 0), (167, 1, .iconst 1, 1, 0), (168, 1, .iadd, 0, 0), (169, 1, .iaload, 0, 0),
  (170, 1, .aload_n 0, 0, 0), (171, 2, .iload 4, 0, 0), (173, 1, .iconst 2, 2, 0), (174, 1, .iadd, 0, 0),
  (175, 1, .iaload, 0, 0), (176, 3, .invokevirtual 83, 0, 0), (179, 2, .istore 6, 0, 0), (181, 1, .aload_n 2, 0, 0),
  (182, 3, .invokevirtual 84, 0, 0), (185, 2, .iload 5, 0, 0), (187, 3, .if_icmp .eq 5, 0, 192), (190, 1, .iconst 0, 0, 0),
  (191, 1, .ireturn, 0, 0), (192, 2, .iload 5, 0, 0), (194, 3, .ifCond .ne 15, 0, 209), (197, 1, .aload_n 3, 0, 0),
  (198, 1, .iconst 0, 0, 0), (199, 1, .laload, 0, 0), (200, 2, .iload 6, 0, 0), (202, 1, .i2l, 0, 0),
  (203, 1, .lcmp, 0, 0), (204, 3, .ifCond .eq 5, 0, 209), (207, 1, .iconst 0, 0, 0), (208, 1, .ireturn, 0, 0),
  (209, 3, .goto 1185, 0, 1394), (212, 1, .aload_n 1, 0, 0), (213, 1, .aload_n 0, 0, 0), (214, 2, .iload 4, 0, 0),
  (216, 1, .iconst 1, 1, 0), (217, 1, .iadd, 0, 0), (218, 1, .iaload, 0, 0), (219, 1, .aload_n 0, 0, 0),
  (220, 2, .iload 4, 0, 0), (222, 1, .iconst 2, 2, 0), (223, 1, .iadd, 0, 0), (224, 1, .iaload, 0, 0),
  (225, 1, .aload_n 3, 0, 0), (226, 3, .invokestatic 87, 0, 0), (229, 2, .istore 5, 0, 0), (231, 1, .aload_n 2, 0, 0),
  (232, 1, .aload_n 0, 0, 0), (233, 2, .iload 4, 0, 0), (235, 1, .iconst 1, 1, 0), (236, 1, .iadd, 0, 0),
  (237, 1, .iaload, 0, 0), (238, 1, .aload_n 0, 0, 0), (239, 2, .iload 4, 0, 0), (241, 1, .iconst 2, 2, 0),
  (242, 1, .iadd, 0, 0), (243, 1, .iaload, 0, 0), (244, 3, .invokevirtual 89, 0, 0), (247, 2, .istore 6, 0, 0),
  (249, 1, .aload_n 2, 0, 0), (250, 3, .invokevirtual 84, 0, 0), (253, 2, .iload 5, 0, 0), (255, 3, .if_icmp .eq 5, 0, 260),
  (258, 1, .iconst 0, 0, 0), (259, 1, .ireturn, 0, 0), (260, 2, .iload 5, 0, 0), (262, 3, .ifCond .ne 15, 0, 277),
  (265, 1, .aload_n 3, 0, 0), (266, 1, .iconst 0, 0, 0), (267, 1, .laload, 0, 0), (268, 2, .iload 6, 0, 0),
  (270, 1, .i2l, 0, 0), (271, 1, .lcmp, 0, 0), (272, 3, .ifCond .eq 5, 0, 277), (275, 1, .iconst 0, 0, 0),
  (276, 1, .ireturn, 0, 0), (277, 3, .goto 1117, 0, 1394), (280, 1, .aload_n 1, 0, 0), (281, 1, .aload_n 0, 0, 0),
  (282, 2, .iload 4, 0, 0), (284, 1, .iconst 1, 1, 0), (285, 1, .iadd, 0, 0), (286, 1, .iaload, 0, 0),
  (287, 1, .aload_n 0, 0, 0), (288, 2, .iload 4, 0, 0), (290, 1, .iconst 2, 2, 0), (291, 1, .iadd, 0, 0),
  (292, 1, .iaload, 0, 0), (293, 1, .aload_n 0, 0, 0), (294, 2, .iload 4, 0, 0), (296, 1, .iconst 3, 3, 0),
  (297, 1, .iadd, 0, 0), (298, 1, .iaload, 0, 0), (299, 1, .aload_n 0, 0, 0), (300, 2, .iload 4, 0, 0),
  (302, 1, .iconst 4, 4, 0), (303, 1, .iadd, 0, 0), (304, 1, .iaload, 0, 0), (305, 1, .aload_n 3, 0, 0),
  (306, 3, .invokestatic 90, 0, 0), (309, 2, .istore 5, 0, 0), (311, 1, .aload_n 2, 0, 0), (312, 1, .aload_n 0, 0, 0),
  (313, 2, .iload 4, 0, 0), (315, 1, .iconst 1, 1, 0), (316, 1, .iadd, 0, 0), (317, 1, .iaload, 0, 0),
  (318, 1, .aload_n 0, 0, 0), (319, 2, .iload 4, 0, 0), (321, 1, .iconst 2, 2, 0), (322, 1, .iadd, 0, 0),
  (323, 1, .iaload, 0, 0), (324, 1, .aload_n 0, 0, 0), (325, 2, .iload 4, 0, 0), (327, 1, .iconst 3, 3, 0),
  (328, 1, .iadd, 0, 0), (329, 1, .iaload, 0, 0), (330, 1, .aload_n 0, 0, 0), (331, 2, .iload 4, 0, 0),
  (333, 1, .iconst 4, 4, 0), (334, 1, .iadd, 0, 0), (335, 1, .iaload, 0, 0), (336, 3, .invokevirtual 93, 0, 0),
  (339, 2, .istore 6, 0, 0), (341, 1, .aload_n 2, 0, 0), (342, 3, .invokevirtual 84, 0, 0), (345, 2, .iload 5, 0, 0),
  (347, 3, .if_icmp .eq 5, 0, 352), (350, 1, .iconst 0, 0, 0), (351, 1, .ireturn, 0, 0), (352, 2, .iload 5, 0, 0),
  (354, 3, .ifCond .ne 15, 0, 369), (357, 1, .aload_n 3, 0, 0), (358, 1, .iconst 0, 0, 0), (359, 1, .laload, 0, 0),
  (360, 2, .iload 6, 0, 0), (362, 1, .i2l, 0, 0), (363, 1, .lcmp, 0, 0), (364, 3, .ifCond .eq 5, 0, 369),
  (367, 1, .iconst 0, 0, 0), (368, 1, .ireturn, 0, 0), (369, 3, .goto 1025, 0, 1394), (372, 1, .aload_n 1, 0, 0),
  (373, 1, .aload_n 0, 0, 0), (374, 2, .iload 4, 0, 0), (376, 1, .iconst 1, 1, 0), (377, 1, .iadd, 0, 0),
  (378, 1, .iaload, 0, 0), (379, 1, .aload_n 3, 0, 0), (380, 3, .invokestatic 94, 0, 0), (383, 2, .istore 5, 0, 0),
  (385, 1, .aload_n 2, 0, 0), (386, 1, .aload_n 0, 0, 0), (387, 2, .iload 4, 0, 0), (389, 1, .iconst 1, 1, 0),
  (390, 1, .iadd, 0, 0), (391, 1, .iaload, 0, 0), (392, 3, .invokevirtual 97, 0, 0), (395, 2, .istore 6, 0, 0),
  (397, 1, .aload_n 2, 0, 0), (398, 3, .invokevirtual 84, 0, 0), (401, 2, .iload 5, 0, 0), (403, 3, .if_icmp .eq 5, 0, 408),
  (406, 1, .iconst 0, 0, 0), (407, 1, .ireturn, 0, 0), (408, 2, .iload 5, 0, 0), (410, 3, .ifCond .ne 15, 0, 425),
  (413, 1, .aload_n 3, 0, 0), (414, 1, .iconst 0, 0, 0), (415, 1, .laload, 0, 0), (416, 2, .iload 6, 0, 0),
  (418, 1, .i2l, 0, 0), (419, 1, .lcmp, 0, 0), (420, 3, .ifCond .eq 5, 0, 425), (423, 1, .iconst 0, 0, 0),
  (424, 1, .ireturn, 0, 0), (425, 3, .goto 969, 0, 1394), (428, 1, .aload_n 1, 0, 0), (429, 1, .aload_n 0, 0, 0),
  (430, 2, .iload 4, 0, 0), (432, 1, .iconst 1, 1, 0), (433, 1, .iadd, 0, 0), (434, 1, .iaload, 0, 0),
  (435, 1, .aload_n 3, 0, 0), (436, 3, .invokestatic 98, 0, 0), (439, 2, .istore 5, 0, 0), (441, 1, .aload_n 2, 0, 0),
  (442, 1, .aload_n 0, 0, 0), (443, 2, .iload 4, 0, 0), (445, 1, .iconst 1, 1, 0), (446, 1, .iadd, 0, 0),
  (447, 1, .iaload, 0, 0), (448, 3, .invokevirtual 100, 0, 0), (451, 2, .istore 6, 0, 0), (453, 1, .aload_n 2, 0, 0),
  (454, 3, .invokevirtual 84, 0, 0), (457, 2, .iload 5, 0, 0), (459, 3, .if_icmp .eq 5, 0, 464), (462, 1, .iconst 0, 0, 0),
  (463, 1, .ireturn, 0, 0), (464, 2, .iload 5, 0, 0), (466, 3, .ifCond .ne 15, 0, 481), (469, 1, .aload_n 3, 0, 0),
  (470, 1, .iconst 0, 0, 0), (471, 1, .laload, 0, 0), (472, 2, .iload 6, 0, 0), (474, 1, .i2l, 0, 0),
  (475, 1, .lcmp, 0, 0), (476, 3, .ifCond .eq 5, 0, 481), (479, 1, .iconst 0, 0, 0), (480, 1, .ireturn, 0, 0),
  (481, 3, .goto 913, 0, 1394), (484, 1, .aload_n 1, 0, 0), (485, 1, .aload_n 0, 0, 0), (486, 2, .iload 4, 0, 0),
  (488, 1, .iconst 1, 1, 0), (489, 1, .iadd, 0, 0), (490, 1, .iaload, 0, 0), (491, 1, .aload_n 3, 0, 0),
  (492, 3, .invokestatic 101, 0, 0), (495, 2, .istore 5, 0, 0), (497, 1, .aload_n 2, 0, 0), (498, 1, .aload_n 0, 0, 0),
  (499, 2, .iload 4, 0, 0), (501, 1, .iconst 1, 1, 0), (502, 1, .iadd, 0, 0), (503, 1, .iaload, 0, 0),
  (504, 3, .invokevirtual 103, 0, 0), (507, 2, .istore 6, 0, 0), (509, 1, .aload_n 2, 0, 0), (510, 3, .invokevirtual 84, 0, 0),
  (513, 2, .iload 5, 0, 0), (515, 3, .if_icmp .eq 5, 0, 520), (518, 1, .iconst 0, 0, 0), (519, 1, .ireturn, 0, 0),
  (520, 2, .iload 5, 0, 0), (522, 3, .ifCond .ne 15, 0, 537), (525, 1, .aload_n 3, 0, 0), (526, 1, .iconst 0, 0, 0),
  (527, 1, .laload, 0, 0), (528, 2, .iload 6, 0, 0), (530, 1, .i2l, 0, 0), (531, 1, .lcmp, 0, 0),
  (532, 3, .ifCond .eq 5, 0, 537), (535, 1, .iconst 0, 0, 0), (536, 1, .ireturn, 0, 0), (537, 3, .goto 857, 0, 1394),
  (540, 1, .aload_n 1, 0, 0), (541, 1, .aload_n 0, 0, 0), (542, 2, .iload 4, 0, 0), (544, 1, .iconst 1, 1, 0),
  (545, 1, .iadd, 0, 0), (546, 1, .iaload, 0, 0), (547, 1, .aload_n 3, 0, 0), (548, 3, .invokestatic 104, 0, 0),
  (551, 2, .istore 5, 0, 0), (553, 1, .aload_n 2, 0, 0), (554, 1, .aload_n 0, 0, 0), (555, 2, .iload 4, 0, 0),
  (557, 1, .iconst 1, 1, 0), (558, 1, .iadd, 0, 0), (559, 1, .iaload, 0, 0), (560, 3, .invokevirtual 106, 0, 0),
  (563, 2, .istore 6, 0, 0), (565, 1, .aload_n 2, 0, 0), (566, 3, .invokevirtual 84, 0, 0), (569, 2, .iload 5, 0, 0),
  (571, 3, .if_icmp .eq 5, 0, 576), (574, 1, .iconst 0, 0, 0), (575, 1, .ireturn, 0, 0), (576, 2, .iload 5, 0, 0),
  (578, 3, .ifCond .ne 15, 0, 593), (581, 1, .aload_n 3, 0, 0), (582, 1, .iconst 0, 0, 0), (583, 1, .laload, 0, 0),
  (584, 2, .iload 6, 0, 0), (586, 1, .i2l, 0, 0), (587, 1, .lcmp, 0, 0), (588, 3, .ifCond .eq 5, 0, 593),
  (591, 1, .iconst 0, 0, 0), (592, 1, .ireturn, 0, 0), (593, 3, .goto 801, 0, 1394), (596, 1, .aload_n 1, 0, 0),
  (597, 1, .aload_n 0, 0, 0), (598, 2, .iload 4, 0, 0), (600, 1, .iconst 1, 1, 0), (601, 1, .iadd, 0, 0),
  (602, 1, .iaload, 0, 0), (603, 1, .aload_n 0, 0, 0), (604, 2, .iload 4, 0, 0), (606, 1, .iconst 2, 2, 0),
  (607, 1, .iadd, 0, 0), (608, 1, .iaload, 0, 0), (609, 1, .aload_n 3, 0, 0), (610, 3, .invokestatic 107, 0, 0),
  (613, 2, .istore 5, 0, 0), (615, 1, .aload_n 2, 0, 0), (616, 1, .aload_n 0, 0, 0), (617, 2, .iload 4, 0, 0),
  (619, 1, .iconst 1, 1, 0), (620, 1, .iadd, 0, 0), (621, 1, .iaload, 0, 0), (622, 1, .aload_n 0, 0, 0),
  (623, 2, .iload 4, 0, 0), (625, 1, .iconst 2, 2, 0), (626, 1, .iadd, 0, 0), (627, 1, .iaload, 0, 0),
  (628, 3, .invokevirtual 109, 0, 0), (631, 2, .istore 6, 0, 0), (633, 1, .aload_n 2, 0, 0), (634, 3, .invokevirtual 84, 0, 0),
  (637, 2, .iload 5, 0, 0), (639, 3, .if_icmp .eq 5, 0, 644), (642, 1, .iconst 0, 0, 0), (643, 1, .ireturn, 0, 0),
  (644, 2, .iload 5, 0, 0), (646, 3, .ifCond .ne 15, 0, 661), (649, 1, .aload_n 3, 0, 0), (650, 1, .iconst 0, 0, 0),
  (651, 1, .laload, 0, 0), (652, 2, .iload 6, 0, 0), (654, 1, .i2l, 0, 0), (655, 1, .lcmp, 0, 0),
  (656, 3, .ifCond .eq 5, 0, 661), (659, 1, .iconst 0, 0, 0), (660, 1, .ireturn, 0, 0), (661, 3, .goto 733, 0, 1394),
  (664, 1, .aload_n 1, 0, 0), (665, 1, .aload_n 0, 0, 0), (666, 2, .iload 4, 0, 0), (668, 1, .iconst 1, 1, 0),
  (669, 1, .iadd, 0, 0), (670, 1, .iaload, 0, 0), (671, 1, .aload_n 0, 0, 0), (672, 2, .iload 4, 0, 0),
  (674, 1, .iconst 2, 2, 0), (675, 1, .iadd, 0, 0), (676, 1, .iaload, 0, 0), (677, 1, .aload_n 3, 0, 0),
  (678, 3, .invokestatic 110, 0, 0), (681, 2, .istore 5, 0, 0), (683, 1, .aload_n 2, 0, 0), (684, 1, .aload_n 0, 0, 0),
  (685, 2, .iload 4, 0, 0), (687, 1, .iconst 1, 1, 0), (688, 1, .iadd, 0, 0), (689, 1, .iaload, 0, 0),
  (690, 1, .aload_n 0, 0, 0), (691, 2, .iload 4, 0, 0), (693, 1, .iconst 2, 2, 0), (694, 1, .iadd, 0, 0),
  (695, 1, .iaload, 0, 0), (696, 3, .invokevirtual 112, 0, 0), (699, 2, .istore 6, 0, 0), (701, 1, .aload_n 2, 0, 0),
  (702, 3, .invokevirtual 84, 0, 0), (705, 2, .iload 5, 0, 0), (707, 3, .if_icmp .eq 5, 0, 712), (710, 1, .iconst 0, 0, 0),
  (711, 1, .ireturn, 0, 0), (712, 2, .iload 5, 0, 0), (714, 3, .ifCond .ne 15, 0, 729), (717, 1, .aload_n 3, 0, 0),
  (718, 1, .iconst 0, 0, 0), (719, 1, .laload, 0, 0), (720, 2, .iload 6, 0, 0), (722, 1, .i2l, 0, 0),
  (723, 1, .lcmp, 0, 0), (724, 3, .ifCond .eq 5, 0, 729), (727, 1, .iconst 0, 0, 0), (728, 1, .ireturn, 0, 0),
  (729, 3, .goto 665, 0, 1394), (732, 1, .aload_n 1, 0, 0), (733, 1, .aload_n 0, 0, 0), (734, 2, .iload 4, 0, 0),
  (736, 1, .iconst 1, 1, 0), (737, 1, .iadd, 0, 0), (738, 1, .iaload, 0, 0), (739, 1, .aload_n 0, 0, 0),
  (740, 2, .iload 4, 0, 0), (742, 1, .iconst 2, 2, 0), (743, 1, .iadd, 0, 0), (744, 1, .iaload, 0, 0),
  (745, 1, .aload_n 0, 0, 0), (746, 2, .iload 4, 0, 0), (748, 1, .iconst 3, 3, 0), (749, 1, .iadd, 0, 0),
  (750, 1, .iaload, 0, 0), (751, 3, .ifCond .eq 7, 0, 758), (754, 1, .iconst 1, 1, 0), (755, 3, .goto 4, 0, 759),
  (758, 1, .iconst 0, 0, 0), (759, 1, .aload_n 3, 0, 0), (760, 3, .invokestatic 113, 0, 0), (763, 2, .istore 5, 0, 0),
  (765, 1, .aload_n 2, 0, 0), (766, 1, .aload_n 0, 0, 0), (767, 2, .iload 4, 0, 0), (769, 1, .iconst 1, 1, 0),
  (770, 1, .iadd, 0, 0), (771, 1, .iaload, 0, 0), (772, 1, .aload_n 0, 0, 0), (773, 2, .iload 4, 0, 0),
  (775, 1, .iconst 2, 2, 0), (776, 1, .iadd, 0, 0), (777, 1, .iaload, 0, 0), (778, 1, .aload_n 0, 0, 0),
  (779, 2, .iload 4, 0, 0), (781, 1, .iconst 3, 3, 0), (782, 1, .iadd, 0, 0), (783, 1, .iaload, 0, 0),
  (784, 3, .ifCond .eq 7, 0, 791), (787, 1, .iconst 1, 1, 0), (788, 3, .goto 4, 0, 792), (791, 1, .iconst 0, 0, 0),
  (792, 3, .invokevirtual 116, 0, 0), (795, 2, .istore 6, 0, 0), (797, 1, .aload_n 2, 0, 0), (798, 3, .invokevirtual 84, 0, 0),
  (801, 2, .iload 5, 0, 0), (803, 3, .if_icmp .eq 5, 0, 808), (806, 1, .iconst 0, 0, 0), (807, 1, .ireturn, 0, 0),
  (808, 2, .iload 5, 0, 0), (810, 3, .ifCond .ne 15, 0, 825), (813, 1, .aload_n 3, 0, 0), (814, 1, .iconst 0, 0, 0),
  (815, 1, .laload, 0, 0), (816, 2, .iload 6, 0, 0), (818, 1, .i2l, 0, 0), (819, 1, .lcmp, 0, 0),
  (820, 3, .ifCond .eq 5, 0, 825), (823, 1, .iconst 0, 0, 0), (824, 1, .ireturn, 0, 0), (825, 3, .goto 569, 0, 1394),
  (828, 1, .aload_n 1, 0, 0), (829, 1, .aload_n 0, 0, 0), (830, 2, .iload 4, 0, 0), (832, 1, .iconst 1, 1, 0),
  (833, 1, .iadd, 0, 0), (834, 1, .iaload, 0, 0), (835, 1, .aload_n 0, 0, 0), (836, 2, .iload 4, 0, 0),
  (838, 1, .iconst 2, 2, 0), (839, 1, .iadd, 0, 0), (840, 1, .iaload, 0, 0), (841, 1, .aload_n 3, 0, 0),
  (842, 3, .invokestatic 117, 0, 0), (845, 2, .istore 5, 0, 0), (847, 1, .aload_n 2, 0, 0), (848, 1, .aload_n 0, 0, 0),
  (849, 2, .iload 4, 0, 0), (851, 1, .iconst 1, 1, 0), (852, 1, .iadd, 0, 0), (853, 1, .iaload, 0, 0),
  (854, 1, .aload_n 0, 0, 0), (855, 2, .iload 4, 0, 0), (857, 1, .iconst 2, 2, 0), (858, 1, .iadd, 0, 0),
  (859, 1, .iaload, 0, 0), (860, 3, .invokevirtual 119, 0, 0), (863, 2, .istore 6, 0, 0), (865, 1, .aload_n 2, 0, 0),
  (866, 3, .invokevirtual 84, 0, 0), (869, 2, .iload 5, 0, 0), (871, 3, .if_icmp .eq 5, 0, 876), (874, 1, .iconst 0, 0, 0),
  (875, 1, .ireturn, 0, 0), (876, 2, .iload 5, 0, 0), (878, 3, .ifCond .ne 15, 0, 893), (881, 1, .aload_n 3, 0, 0),
  (882, 1, .iconst 0, 0, 0), (883, 1, .laload, 0, 0), (884, 2, .iload 6, 0, 0), (886, 1, .i2l, 0, 0),
  (887, 1, .lcmp, 0, 0), (888, 3, .ifCond .eq 5, 0, 893), (891, 1, .iconst 0, 0, 0), (892, 1, .ireturn, 0, 0),
  (893, 3, .goto 501, 0, 1394), (896, 1, .aload_n 1, 0, 0), (897, 1, .aload_n 0, 0, 0), (898, 2, .iload 4, 0, 0),
  (900, 1, .iconst 1, 1, 0), (901, 1, .iadd, 0, 0), (902, 1, .iaload, 0, 0), (903, 1, .aload_n 3, 0, 0),
  (904, 3, .invokestatic 120, 0, 0), (907, 2, .istore 5, 0, 0), (909, 1, .aload_n 2, 0, 0), (910, 1, .aload_n 0, 0, 0),
  (911, 2, .iload 4, 0, 0), (913, 1, .iconst 1, 1, 0), (914, 1, .iadd, 0, 0), (915, 1, .iaload, 0, 0),
  (916, 3, .invokevirtual 122, 0, 0), (919, 2, .istore 6, 0, 0), (921, 1, .aload_n 2, 0, 0), (922, 3, .invokevirtual 84, 0, 0),
  (925, 2, .iload 5, 0, 0), (927, 3, .if_icmp .eq 5, 0, 932), (930, 1, .iconst 0, 0, 0), (931, 1, .ireturn, 0, 0),
  (932, 2, .iload 5, 0, 0), (934, 3, .ifCond .ne 15, 0, 949), (937, 1, .aload_n 3, 0, 0), (938, 1, .iconst 0, 0, 0),
  (939, 1, .laload, 0, 0), (940, 2, .iload 6, 0, 0), (942, 1, .i2l, 0, 0), (943, 1, .lcmp, 0, 0),
  (944, 3, .ifCond .eq 5, 0, 949), (947, 1, .iconst 0, 0, 0), (948, 1, .ireturn, 0, 0), (949, 3, .goto 445, 0, 1394),
  (952, 1, .aload_n 1, 0, 0), (953, 1, .aload_n 0, 0, 0), (954, 2, .iload 4, 0, 0), (956, 1, .iconst 1, 1, 0),
  (957, 1, .iadd, 0, 0), (958, 1, .iaload, 0, 0), (959, 1, .aload_n 3, 0, 0), (960, 3, .invokestatic 123, 0, 0),
  (963, 2, .istore 5, 0, 0), (965, 1, .aload_n 2, 0, 0), (966, 1, .aload_n 0, 0, 0), (967, 2, .iload 4, 0, 0),
  (969, 1, .iconst 1, 1, 0), (970, 1, .iadd, 0, 0), (971, 1, .iaload, 0, 0), (972, 3, .invokevirtual 125, 0, 0),
  (975, 2, .istore 6, 0, 0), (977, 1, .aload_n 2, 0, 0), (978, 3, .invokevirtual 84, 0, 0), (981, 2, .iload 5, 0, 0),
  (983, 3, .if_icmp .eq 5, 0, 988), (986, 1, .iconst 0, 0, 0), (987, 1, .ireturn, 0, 0), (988, 2, .iload 5, 0, 0),
  (990, 3, .ifCond .ne 15, 0, 1005), (993, 1, .aload_n 3, 0, 0), (994, 1, .iconst 0, 0, 0), (995, 1, .laload, 0, 0),
  (996, 2, .iload 6, 0, 0), (998, 1, .i2l, 0, 0), (999, 1, .lcmp, 0, 0), (1000, 3, .ifCond .eq 5, 0, 1005),
  (1003, 1, .iconst 0, 0, 0), (1004, 1, .ireturn, 0, 0), (1005, 3, .goto 389, 0, 1394), (1008, 1, .aload_n 1, 0, 0),
  (1009, 3, .invokevirtual 126, 0, 0), (1012, 2, .dstore 5, 0, 0), (1014, 1, .aload_n 2, 0, 0), (1015, 3, .invokevirtual 130, 0, 0),
  (1018, 2, .dstore 7, 0, 0), (1020, 2, .dload 5, 0, 0), (1022, 2, .dload 7, 0, 0), (1024, 1, .dcmp .l, 0, 0),
  (1025, 3, .ifCond .eq 21, 0, 1046), (1028, 2, .dload 5, 0, 0), (1030, 2, .dload 5, 0, 0), (1032, 1, .dcmp .l, 0, 0),
  (1033, 3, .ifCond .eq 11, 0, 1044), (1036, 2, .dload 7, 0, 0), (1038, 2, .dload 7, 0, 0), (1040, 1, .dcmp .l, 0, 0),
  (1041, 3, .ifCond .ne 5, 0, 1046), (1044, 1, .iconst 0, 0, 0), (1045, 1, .ireturn, 0, 0), (1046, 3, .goto 348, 0, 1394),
  (1049, 1, .aload_n 1, 0, 0), (1050, 1, .aload_n 0, 0, 0), (1051, 2, .iload 4, 0, 0), (1053, 1, .iconst 1, 1, 0),
  (1054, 1, .iadd, 0, 0), (1055, 1, .iaload, 0, 0), (1056, 1, .aload_n 3, 0, 0), (1057, 3, .invokestatic 131, 0, 0),
  (1060, 2, .istore 5, 0, 0), (1062, 1, .aload_n 2, 0, 0), (1063, 1, .aload_n 0, 0, 0), (1064, 2, .iload 4, 0, 0),
  (1066, 1, .iconst 1, 1, 0), (1067, 1, .iadd, 0, 0), (1068, 1, .iaload, 0, 0), (1069, 3, .invokevirtual 133, 0, 0),
  (1072, 2, .istore 6, 0, 0), (1074, 1, .aload_n 2, 0, 0), (1075, 3, .invokevirtual 84, 0, 0), (1078, 2, .iload 5, 0, 0),
  (1080, 3, .if_icmp .eq 5, 0, 1085), (1083, 1, .iconst 0, 0, 0), (1084, 1, .ireturn, 0, 0), (1085, 2, .iload 5, 0, 0),
  (1087, 3, .ifCond .ne 15, 0, 1102), (1090, 1, .aload_n 3, 0, 0), (1091, 1, .iconst 0, 0, 0), (1092, 1, .laload, 0, 0),
  (1093, 2, .iload 6, 0, 0), (1095, 1, .i2l, 0, 0), (1096, 1, .lcmp, 0, 0), (1097, 3, .ifCond .eq 5, 0, 1102),
  (1100, 1, .iconst 0, 0, 0), (1101, 1, .ireturn, 0, 0), (1102, 3, .goto 292, 0, 1394), (1105, 1, .aload_n 1, 0, 0),
  (1106, 1, .aload_n 0, 0, 0), (1107, 2, .iload 4, 0, 0), (1109, 1, .iconst 1, 1, 0), (1110, 1, .iadd, 0, 0),
  (1111, 1, .iaload, 0, 0), (1112, 1, .aload_n 0, 0, 0), (1113, 2, .iload 4, 0, 0), (1115, 1, .iconst 2, 2, 0),
  (1116, 1, .iadd, 0, 0), (1117, 1, .iaload, 0, 0), (1118, 1, .aload_n 3, 0, 0), (1119, 3, .invokestatic 134, 0, 0),
  (1122, 2, .istore 5, 0, 0), (1124, 1, .aload_n 2, 0, 0), (1125, 1, .aload_n 0, 0, 0), (1126, 2, .iload 4, 0, 0),
  (1128, 1, .iconst 1, 1, 0), (1129, 1, .iadd, 0, 0), (1130, 1, .iaload, 0, 0), (1131, 1, .aload_n 0, 0, 0),
  (1132, 2, .iload 4, 0, 0), (1134, 1, .iconst 2, 2, 0), (1135, 1, .iadd, 0, 0), (1136, 1, .iaload, 0, 0),
  (1137, 3, .invokevirtual 136, 0, 0), (1140, 2, .istore 6, 0, 0), (1142, 1, .aload_n 2, 0, 0), (1143, 3, .invokevirtual 84, 0, 0),
  (1146, 2, .iload 5, 0, 0), (1148, 3, .if_icmp .eq 5, 0, 1153), (1151, 1, .iconst 0, 0, 0), (1152, 1, .ireturn, 0, 0),
  (1153, 2, .iload 5, 0, 0), (1155, 3, .ifCond .ne 15, 0, 1170), (1158, 1, .aload_n 3, 0, 0), (1159, 1, .iconst 0, 0, 0),
  (1160, 1, .laload, 0, 0), (1161, 2, .iload 6, 0, 0), (1163, 1, .i2l, 0, 0), (1164, 1, .lcmp, 0, 0),
  (1165, 3, .ifCond .eq 5, 0, 1170), (1168, 1, .iconst 0, 0, 0), (1169, 1, .ireturn, 0, 0), (1170, 3, .goto 224, 0, 1394),
  (1173, 1, .aload_n 1, 0, 0), (1174, 1, .aload_n 0, 0, 0), (1175, 2, .iload 4, 0, 0), (1177, 1, .iconst 1, 1, 0),
  (1178, 1, .iadd, 0, 0), (1179, 1, .iaload, 0, 0), (1180, 1, .aload_n 0, 0, 0), (1181, 2, .iload 4, 0, 0),
  (1183, 1, .iconst 2, 2, 0), (1184, 1, .iadd, 0, 0), (1185, 1, .iaload, 0, 0), (1186, 1, .aload_n 3, 0, 0),
  (1187, 3, .invokestatic 137, 0, 0), (1190, 2, .istore 5, 0, 0), (1192, 1, .aload_n 2, 0, 0), (1193, 1, .aload_n 0, 0, 0),
  (1194, 2, .iload 4, 0, 0), (1196, 1, .iconst 1, 1, 0), (1197, 1, .iadd, 0, 0), (1198, 1, .iaload, 0, 0),
  (1199, 1, .aload_n 0, 0, 0), (1200, 2, .iload 4, 0, 0), (1202, 1, .iconst 2, 2, 0), (1203, 1, .iadd, 0, 0),
  (1204, 1, .iaload, 0, 0), (1205, 3, .invokevirtual 139, 0, 0), (1208, 2, .istore 6, 0, 0), (1210, 1, .aload_n 2, 0, 0),
  (1211, 3, .invokevirtual 84, 0, 0), (1214, 2, .iload 5, 0, 0), (1216, 3, .if_icmp .eq 5, 0, 1221), (1219, 1, .iconst 0, 0, 0),
  (1220, 1, .ireturn, 0, 0), (1221, 2, .iload 5, 0, 0), (1223, 3, .ifCond .ne 15, 0, 1238), (1226, 1, .aload_n 3, 0, 0),
  (1227, 1, .iconst 0, 0, 0), (1228, 1, .laload, 0, 0), (1229, 2, .iload 6, 0, 0), (1231, 1, .i2l, 0, 0),
  (1232, 1, .lcmp, 0, 0), (1233, 3, .ifCond .eq 5, 0, 1238), (1236, 1, .iconst 0, 0, 0), (1237, 1, .ireturn, 0, 0),
  (1238, 3, .goto 156, 0, 1394), (1241, 1, .aload_n 1, 0, 0), (1242, 3, .invokevirtual 140, 0, 0), (1245, 1, .aload_n 2, 0, 0),
  (1246, 3, .invokevirtual 143, 0, 0), (1249, 3, .if_icmp .eq 145, 0, 1394), (1252, 1, .iconst 0, 0, 0), (1253, 1, .ireturn, 0, 0),
  (1254, 1, .aload_n 1, 0, 0), (1255, 1, .aload_n 0, 0, 0), (1256, 2, .iload 4, 0, 0), (1258, 1, .iconst 1, 1, 0),
  (1259, 1, .iadd, 0, 0), (1260, 1, .iaload, 0, 0), (1261, 1, .aload_n 3, 0, 0), (1262, 3, .invokestatic 144, 0, 0),
  (1265, 2, .istore 5, 0, 0), (1267, 1, .aload_n 2, 0, 0), (1268, 1, .aload_n 0, 0, 0), (1269, 2, .iload 4, 0, 0),
  (1271, 1, .iconst 1, 1, 0), (1272, 1, .iadd, 0, 0), (1273, 1, .iaload, 0, 0), (1274, 3, .invokevirtual 146, 0, 0),
  (1277, 2, .istore 6, 0, 0), (1279, 1, .aload_n 2, 0, 0), (1280, 3, .invokevirtual 84, 0, 0), (1283, 2, .iload 5, 0, 0),
  (1285, 3, .if_icmp .eq 5, 0, 1290), (1288, 1, .iconst 0, 0, 0), (1289, 1, .ireturn, 0, 0), (1290, 2, .iload 5, 0, 0),
  (1292, 3, .ifCond .ne 15, 0, 1307), (1295, 1, .aload_n 3, 0, 0), (1296, 1, .iconst 0, 0, 0), (1297, 1, .laload, 0, 0),
  (1298, 2, .iload 6, 0, 0), (1300, 1, .i2l, 0, 0), (1301, 1, .lcmp, 0, 0), (1302, 3, .ifCond .eq 5, 0, 1307),
  (1305, 1, .iconst 0, 0, 0), (1306, 1, .ireturn, 0, 0), (1307, 3, .goto 87, 0, 1394), (1310, 1, .aload_n 1, 0, 0),
  (1311, 3, .invokevirtual 147, 0, 0), (1314, 1, .aload_n 2, 0, 0), (1315, 3, .invokevirtual 150, 0, 0), (1318, 3, .if_icmp .eq 76, 0, 1394),
  (1321, 1, .iconst 0, 0, 0), (1322, 1, .ireturn, 0, 0), (1323, 1, .aload_n 1, 0, 0), (1324, 3, .invokevirtual 151, 0, 0),
  (1327, 1, .aload_n 2, 0, 0), (1328, 3, .invokevirtual 154, 0, 0), (1331, 3, .if_icmp .eq 63, 0, 1394), (1334, 1, .iconst 0, 0, 0),
  (1335, 1, .ireturn, 0, 0), (1336, 1, .aload_n 1, 0, 0), (1337, 1, .aload_n 3, 0, 0), (1338, 3, .invokestatic 155, 0, 0),
  (1341, 2, .istore 5, 0, 0), (1343, 1, .aload_n 2, 0, 0), (1344, 3, .invokevirtual 158, 0, 0), (1347, 2, .istore 6, 0, 0),
  (1349, 1, .aload_n 2, 0, 0), (1350, 3, .invokevirtual 84, 0, 0), (1353, 2, .iload 5, 0, 0), (1355, 3, .if_icmp .eq 5, 0, 1360),
  (1358, 1, .iconst 0, 0, 0), (1359, 1, .ireturn, 0, 0), (1360, 2, .iload 5, 0, 0), (1362, 3, .ifCond .ne 15, 0, 1377),
  (1365, 1, .aload_n 3, 0, 0), (1366, 1, .iconst 0, 0, 0), (1367, 1, .laload, 0, 0), (1368, 2, .iload 6, 0, 0),
  (1370, 1, .i2l, 0, 0), (1371, 1, .lcmp, 0, 0), (1372, 3, .ifCond .eq 5, 0, 1377), (1375, 1, .iconst 0, 0, 0),
  (1376, 1, .ireturn, 0, 0), (1377, 3, .goto 17, 0, 1394), (1380, 1, .aload_n 1, 0, 0), (1381, 3, .invokevirtual 159, 0, 0),
  (1384, 1, .aload_n 2, 0, 0), (1385, 3, .invokevirtual 163, 0, 0), (1388, 1, .lcmp, 0, 0), (1389, 3, .ifCond .eq 5, 0, 1394),
  (1392, 1, .iconst 0, 0, 0), (1393, 1, .ireturn, 0, 0), (1394, 3, .iinc 4 5, 5, 0), (1397, 3, .goto (-1374), 0, 23),
  (1400, 1, .iconst 1, 1, 0), (1401, 1, .ireturn, 0, 0)]
abbrev fw_rowq (cc : ByteArray) (nL : Nat) (en : fw_Ent) : Bool := decide (decode cc en.1 = .ok (en.2.2.1, en.2.1)) && fw_lt nL en && fw_newq cc en
def kL_law_0 : List fw_Ent := [
  (23, 2, .iload 4, 0, 0), (25, 1, .aload_n 0, 0, 0), (26, 1, .arraylength, 0, 0), (27, 1, .iconst 5, 5, 0),
  (28, 1, .isub, 0, 0), (29, 3, .if_icmp .gt 1371, 0, 1400), (32, 1, .aload_n 0, 0, 0), (33, 2, .iload 4, 0, 0),
  (35, 1, .iaload, 0, 0), (36, 2, .bipush 31, 31, 0), (38, 1, .iand, 0, 0), (39, 105, .tableswitch 1355 0 22 #[105, 173, 241, 333, 389, 445, 501, 557, 625, 693, 789, 857, 913, 969, 1010, 1066, 1134, 1202, 1215, 1271, 1284, 1297, 1341], 0, 0),
  (144, 1, .aload_n 1, 0, 0), (145, 1, .aload_n 0, 0, 0), (146, 2, .iload 4, 0, 0), (148, 1, .iconst 1, 1, 0),
  (149, 1, .iadd, 0, 0), (150, 1, .iaload, 0, 0), (151, 1, .aload_n 0, 0, 0), (152, 2, .iload 4, 0, 0),
  (154, 1, .iconst 2, 2, 0), (155, 1, .iadd, 0, 0), (156, 1, .iaload, 0, 0), (157, 1, .aload_n 3, 0, 0),
  (158, 3, .invokestatic 78, 0, 0), (161, 2, .istore 5, 0, 0), (163, 1, .aload_n 2, 0, 0), (164, 1, .aload_n 0, 0, 0),
  (165, 2, .iload 4, 0, 0), (167, 1, .iconst 1, 1, 0), (168, 1, .iadd, 0, 0), (169, 1, .iaload, 0, 0),
  (170, 1, .aload_n 0, 0, 0), (171, 2, .iload 4, 0, 0), (173, 1, .iconst 2, 2, 0), (174, 1, .iadd, 0, 0),
  (175, 1, .iaload, 0, 0), (176, 3, .invokevirtual 83, 0, 0), (179, 2, .istore 6, 0, 0), (181, 1, .aload_n 2, 0, 0),
  (182, 3, .invokevirtual 84, 0, 0), (185, 2, .iload 5, 0, 0), (187, 3, .if_icmp .eq 5, 0, 192), (190, 1, .iconst 0, 0, 0),
  (191, 1, .ireturn, 0, 0), (192, 2, .iload 5, 0, 0), (194, 3, .ifCond .ne 15, 0, 209), (197, 1, .aload_n 3, 0, 0),
  (198, 1, .iconst 0, 0, 0), (199, 1, .laload, 0, 0)]
set_option maxRecDepth 100000 in
theorem kL_law_0_ok : kL_law_0.all (fw_rowq cL_law 9) = true := by decide +kernel
def kL_law_1 : List fw_Ent := [
  (200, 2, .iload 6, 0, 0), (202, 1, .i2l, 0, 0), (203, 1, .lcmp, 0, 0), (204, 3, .ifCond .eq 5, 0, 209),
  (207, 1, .iconst 0, 0, 0), (208, 1, .ireturn, 0, 0), (209, 3, .goto 1185, 0, 1394), (212, 1, .aload_n 1, 0, 0),
  (213, 1, .aload_n 0, 0, 0), (214, 2, .iload 4, 0, 0), (216, 1, .iconst 1, 1, 0), (217, 1, .iadd, 0, 0),
  (218, 1, .iaload, 0, 0), (219, 1, .aload_n 0, 0, 0), (220, 2, .iload 4, 0, 0), (222, 1, .iconst 2, 2, 0),
  (223, 1, .iadd, 0, 0), (224, 1, .iaload, 0, 0), (225, 1, .aload_n 3, 0, 0), (226, 3, .invokestatic 87, 0, 0),
  (229, 2, .istore 5, 0, 0), (231, 1, .aload_n 2, 0, 0), (232, 1, .aload_n 0, 0, 0), (233, 2, .iload 4, 0, 0),
  (235, 1, .iconst 1, 1, 0), (236, 1, .iadd, 0, 0), (237, 1, .iaload, 0, 0), (238, 1, .aload_n 0, 0, 0),
  (239, 2, .iload 4, 0, 0), (241, 1, .iconst 2, 2, 0), (242, 1, .iadd, 0, 0), (243, 1, .iaload, 0, 0),
  (244, 3, .invokevirtual 89, 0, 0), (247, 2, .istore 6, 0, 0), (249, 1, .aload_n 2, 0, 0), (250, 3, .invokevirtual 84, 0, 0),
  (253, 2, .iload 5, 0, 0), (255, 3, .if_icmp .eq 5, 0, 260), (258, 1, .iconst 0, 0, 0), (259, 1, .ireturn, 0, 0),
  (260, 2, .iload 5, 0, 0), (262, 3, .ifCond .ne 15, 0, 277), (265, 1, .aload_n 3, 0, 0), (266, 1, .iconst 0, 0, 0),
  (267, 1, .laload, 0, 0), (268, 2, .iload 6, 0, 0), (270, 1, .i2l, 0, 0), (271, 1, .lcmp, 0, 0),
  (272, 3, .ifCond .eq 5, 0, 277), (275, 1, .iconst 0, 0, 0)]
set_option maxRecDepth 100000 in
theorem kL_law_1_ok : kL_law_1.all (fw_rowq cL_law 9) = true := by decide +kernel
def kL_law_2 : List fw_Ent := [
  (276, 1, .ireturn, 0, 0), (277, 3, .goto 1117, 0, 1394), (280, 1, .aload_n 1, 0, 0), (281, 1, .aload_n 0, 0, 0),
  (282, 2, .iload 4, 0, 0), (284, 1, .iconst 1, 1, 0), (285, 1, .iadd, 0, 0), (286, 1, .iaload, 0, 0),
  (287, 1, .aload_n 0, 0, 0), (288, 2, .iload 4, 0, 0), (290, 1, .iconst 2, 2, 0), (291, 1, .iadd, 0, 0),
  (292, 1, .iaload, 0, 0), (293, 1, .aload_n 0, 0, 0), (294, 2, .iload 4, 0, 0), (296, 1, .iconst 3, 3, 0),
  (297, 1, .iadd, 0, 0), (298, 1, .iaload, 0, 0), (299, 1, .aload_n 0, 0, 0), (300, 2, .iload 4, 0, 0),
  (302, 1, .iconst 4, 4, 0), (303, 1, .iadd, 0, 0), (304, 1, .iaload, 0, 0), (305, 1, .aload_n 3, 0, 0),
  (306, 3, .invokestatic 90, 0, 0), (309, 2, .istore 5, 0, 0), (311, 1, .aload_n 2, 0, 0), (312, 1, .aload_n 0, 0, 0),
  (313, 2, .iload 4, 0, 0), (315, 1, .iconst 1, 1, 0), (316, 1, .iadd, 0, 0), (317, 1, .iaload, 0, 0),
  (318, 1, .aload_n 0, 0, 0), (319, 2, .iload 4, 0, 0), (321, 1, .iconst 2, 2, 0), (322, 1, .iadd, 0, 0),
  (323, 1, .iaload, 0, 0), (324, 1, .aload_n 0, 0, 0), (325, 2, .iload 4, 0, 0), (327, 1, .iconst 3, 3, 0),
  (328, 1, .iadd, 0, 0), (329, 1, .iaload, 0, 0), (330, 1, .aload_n 0, 0, 0), (331, 2, .iload 4, 0, 0),
  (333, 1, .iconst 4, 4, 0), (334, 1, .iadd, 0, 0), (335, 1, .iaload, 0, 0), (336, 3, .invokevirtual 93, 0, 0),
  (339, 2, .istore 6, 0, 0), (341, 1, .aload_n 2, 0, 0)]
set_option maxRecDepth 100000 in
theorem kL_law_2_ok : kL_law_2.all (fw_rowq cL_law 9) = true := by decide +kernel
def kL_law_3 : List fw_Ent := [
  (342, 3, .invokevirtual 84, 0, 0), (345, 2, .iload 5, 0, 0), (347, 3, .if_icmp .eq 5, 0, 352), (350, 1, .iconst 0, 0, 0),
  (351, 1, .ireturn, 0, 0), (352, 2, .iload 5, 0, 0), (354, 3, .ifCond .ne 15, 0, 369), (357, 1, .aload_n 3, 0, 0),
  (358, 1, .iconst 0, 0, 0), (359, 1, .laload, 0, 0), (360, 2, .iload 6, 0, 0), (362, 1, .i2l, 0, 0),
  (363, 1, .lcmp, 0, 0), (364, 3, .ifCond .eq 5, 0, 369), (367, 1, .iconst 0, 0, 0), (368, 1, .ireturn, 0, 0),
  (369, 3, .goto 1025, 0, 1394), (372, 1, .aload_n 1, 0, 0), (373, 1, .aload_n 0, 0, 0), (374, 2, .iload 4, 0, 0),
  (376, 1, .iconst 1, 1, 0), (377, 1, .iadd, 0, 0), (378, 1, .iaload, 0, 0), (379, 1, .aload_n 3, 0, 0),
  (380, 3, .invokestatic 94, 0, 0), (383, 2, .istore 5, 0, 0), (385, 1, .aload_n 2, 0, 0), (386, 1, .aload_n 0, 0, 0),
  (387, 2, .iload 4, 0, 0), (389, 1, .iconst 1, 1, 0), (390, 1, .iadd, 0, 0), (391, 1, .iaload, 0, 0),
  (392, 3, .invokevirtual 97, 0, 0), (395, 2, .istore 6, 0, 0), (397, 1, .aload_n 2, 0, 0), (398, 3, .invokevirtual 84, 0, 0),
  (401, 2, .iload 5, 0, 0), (403, 3, .if_icmp .eq 5, 0, 408), (406, 1, .iconst 0, 0, 0), (407, 1, .ireturn, 0, 0),
  (408, 2, .iload 5, 0, 0), (410, 3, .ifCond .ne 15, 0, 425), (413, 1, .aload_n 3, 0, 0), (414, 1, .iconst 0, 0, 0),
  (415, 1, .laload, 0, 0), (416, 2, .iload 6, 0, 0), (418, 1, .i2l, 0, 0), (419, 1, .lcmp, 0, 0),
  (420, 3, .ifCond .eq 5, 0, 425), (423, 1, .iconst 0, 0, 0)]
set_option maxRecDepth 100000 in
theorem kL_law_3_ok : kL_law_3.all (fw_rowq cL_law 9) = true := by decide +kernel
def kL_law_4 : List fw_Ent := [
  (424, 1, .ireturn, 0, 0), (425, 3, .goto 969, 0, 1394), (428, 1, .aload_n 1, 0, 0), (429, 1, .aload_n 0, 0, 0),
  (430, 2, .iload 4, 0, 0), (432, 1, .iconst 1, 1, 0), (433, 1, .iadd, 0, 0), (434, 1, .iaload, 0, 0),
  (435, 1, .aload_n 3, 0, 0), (436, 3, .invokestatic 98, 0, 0), (439, 2, .istore 5, 0, 0), (441, 1, .aload_n 2, 0, 0),
  (442, 1, .aload_n 0, 0, 0), (443, 2, .iload 4, 0, 0), (445, 1, .iconst 1, 1, 0), (446, 1, .iadd, 0, 0),
  (447, 1, .iaload, 0, 0), (448, 3, .invokevirtual 100, 0, 0), (451, 2, .istore 6, 0, 0), (453, 1, .aload_n 2, 0, 0),
  (454, 3, .invokevirtual 84, 0, 0), (457, 2, .iload 5, 0, 0), (459, 3, .if_icmp .eq 5, 0, 464), (462, 1, .iconst 0, 0, 0),
  (463, 1, .ireturn, 0, 0), (464, 2, .iload 5, 0, 0), (466, 3, .ifCond .ne 15, 0, 481), (469, 1, .aload_n 3, 0, 0),
  (470, 1, .iconst 0, 0, 0), (471, 1, .laload, 0, 0), (472, 2, .iload 6, 0, 0), (474, 1, .i2l, 0, 0),
  (475, 1, .lcmp, 0, 0), (476, 3, .ifCond .eq 5, 0, 481), (479, 1, .iconst 0, 0, 0), (480, 1, .ireturn, 0, 0),
  (481, 3, .goto 913, 0, 1394), (484, 1, .aload_n 1, 0, 0), (485, 1, .aload_n 0, 0, 0), (486, 2, .iload 4, 0, 0),
  (488, 1, .iconst 1, 1, 0), (489, 1, .iadd, 0, 0), (490, 1, .iaload, 0, 0), (491, 1, .aload_n 3, 0, 0),
  (492, 3, .invokestatic 101, 0, 0), (495, 2, .istore 5, 0, 0), (497, 1, .aload_n 2, 0, 0), (498, 1, .aload_n 0, 0, 0),
  (499, 2, .iload 4, 0, 0), (501, 1, .iconst 1, 1, 0)]
set_option maxRecDepth 100000 in
theorem kL_law_4_ok : kL_law_4.all (fw_rowq cL_law 9) = true := by decide +kernel
def kL_law_5 : List fw_Ent := [
  (502, 1, .iadd, 0, 0), (503, 1, .iaload, 0, 0), (504, 3, .invokevirtual 103, 0, 0), (507, 2, .istore 6, 0, 0),
  (509, 1, .aload_n 2, 0, 0), (510, 3, .invokevirtual 84, 0, 0), (513, 2, .iload 5, 0, 0), (515, 3, .if_icmp .eq 5, 0, 520),
  (518, 1, .iconst 0, 0, 0), (519, 1, .ireturn, 0, 0), (520, 2, .iload 5, 0, 0), (522, 3, .ifCond .ne 15, 0, 537),
  (525, 1, .aload_n 3, 0, 0), (526, 1, .iconst 0, 0, 0), (527, 1, .laload, 0, 0), (528, 2, .iload 6, 0, 0),
  (530, 1, .i2l, 0, 0), (531, 1, .lcmp, 0, 0), (532, 3, .ifCond .eq 5, 0, 537), (535, 1, .iconst 0, 0, 0),
  (536, 1, .ireturn, 0, 0), (537, 3, .goto 857, 0, 1394), (540, 1, .aload_n 1, 0, 0), (541, 1, .aload_n 0, 0, 0),
  (542, 2, .iload 4, 0, 0), (544, 1, .iconst 1, 1, 0), (545, 1, .iadd, 0, 0), (546, 1, .iaload, 0, 0),
  (547, 1, .aload_n 3, 0, 0), (548, 3, .invokestatic 104, 0, 0), (551, 2, .istore 5, 0, 0), (553, 1, .aload_n 2, 0, 0),
  (554, 1, .aload_n 0, 0, 0), (555, 2, .iload 4, 0, 0), (557, 1, .iconst 1, 1, 0), (558, 1, .iadd, 0, 0),
  (559, 1, .iaload, 0, 0), (560, 3, .invokevirtual 106, 0, 0), (563, 2, .istore 6, 0, 0), (565, 1, .aload_n 2, 0, 0),
  (566, 3, .invokevirtual 84, 0, 0), (569, 2, .iload 5, 0, 0), (571, 3, .if_icmp .eq 5, 0, 576), (574, 1, .iconst 0, 0, 0),
  (575, 1, .ireturn, 0, 0), (576, 2, .iload 5, 0, 0), (578, 3, .ifCond .ne 15, 0, 593), (581, 1, .aload_n 3, 0, 0),
  (582, 1, .iconst 0, 0, 0), (583, 1, .laload, 0, 0)]
set_option maxRecDepth 100000 in
theorem kL_law_5_ok : kL_law_5.all (fw_rowq cL_law 9) = true := by decide +kernel
def kL_law_6 : List fw_Ent := [
  (584, 2, .iload 6, 0, 0), (586, 1, .i2l, 0, 0), (587, 1, .lcmp, 0, 0), (588, 3, .ifCond .eq 5, 0, 593),
  (591, 1, .iconst 0, 0, 0), (592, 1, .ireturn, 0, 0), (593, 3, .goto 801, 0, 1394), (596, 1, .aload_n 1, 0, 0),
  (597, 1, .aload_n 0, 0, 0), (598, 2, .iload 4, 0, 0), (600, 1, .iconst 1, 1, 0), (601, 1, .iadd, 0, 0),
  (602, 1, .iaload, 0, 0), (603, 1, .aload_n 0, 0, 0), (604, 2, .iload 4, 0, 0), (606, 1, .iconst 2, 2, 0),
  (607, 1, .iadd, 0, 0), (608, 1, .iaload, 0, 0), (609, 1, .aload_n 3, 0, 0), (610, 3, .invokestatic 107, 0, 0),
  (613, 2, .istore 5, 0, 0), (615, 1, .aload_n 2, 0, 0), (616, 1, .aload_n 0, 0, 0), (617, 2, .iload 4, 0, 0),
  (619, 1, .iconst 1, 1, 0), (620, 1, .iadd, 0, 0), (621, 1, .iaload, 0, 0), (622, 1, .aload_n 0, 0, 0),
  (623, 2, .iload 4, 0, 0), (625, 1, .iconst 2, 2, 0), (626, 1, .iadd, 0, 0), (627, 1, .iaload, 0, 0),
  (628, 3, .invokevirtual 109, 0, 0), (631, 2, .istore 6, 0, 0), (633, 1, .aload_n 2, 0, 0), (634, 3, .invokevirtual 84, 0, 0),
  (637, 2, .iload 5, 0, 0), (639, 3, .if_icmp .eq 5, 0, 644), (642, 1, .iconst 0, 0, 0), (643, 1, .ireturn, 0, 0),
  (644, 2, .iload 5, 0, 0), (646, 3, .ifCond .ne 15, 0, 661), (649, 1, .aload_n 3, 0, 0), (650, 1, .iconst 0, 0, 0),
  (651, 1, .laload, 0, 0), (652, 2, .iload 6, 0, 0), (654, 1, .i2l, 0, 0), (655, 1, .lcmp, 0, 0),
  (656, 3, .ifCond .eq 5, 0, 661), (659, 1, .iconst 0, 0, 0)]
set_option maxRecDepth 100000 in
theorem kL_law_6_ok : kL_law_6.all (fw_rowq cL_law 9) = true := by decide +kernel
def kL_law_7 : List fw_Ent := [
  (660, 1, .ireturn, 0, 0), (661, 3, .goto 733, 0, 1394), (664, 1, .aload_n 1, 0, 0), (665, 1, .aload_n 0, 0, 0),
  (666, 2, .iload 4, 0, 0), (668, 1, .iconst 1, 1, 0), (669, 1, .iadd, 0, 0), (670, 1, .iaload, 0, 0),
  (671, 1, .aload_n 0, 0, 0), (672, 2, .iload 4, 0, 0), (674, 1, .iconst 2, 2, 0), (675, 1, .iadd, 0, 0),
  (676, 1, .iaload, 0, 0), (677, 1, .aload_n 3, 0, 0), (678, 3, .invokestatic 110, 0, 0), (681, 2, .istore 5, 0, 0),
  (683, 1, .aload_n 2, 0, 0), (684, 1, .aload_n 0, 0, 0), (685, 2, .iload 4, 0, 0), (687, 1, .iconst 1, 1, 0),
  (688, 1, .iadd, 0, 0), (689, 1, .iaload, 0, 0), (690, 1, .aload_n 0, 0, 0), (691, 2, .iload 4, 0, 0),
  (693, 1, .iconst 2, 2, 0), (694, 1, .iadd, 0, 0), (695, 1, .iaload, 0, 0), (696, 3, .invokevirtual 112, 0, 0),
  (699, 2, .istore 6, 0, 0), (701, 1, .aload_n 2, 0, 0), (702, 3, .invokevirtual 84, 0, 0), (705, 2, .iload 5, 0, 0),
  (707, 3, .if_icmp .eq 5, 0, 712), (710, 1, .iconst 0, 0, 0), (711, 1, .ireturn, 0, 0), (712, 2, .iload 5, 0, 0),
  (714, 3, .ifCond .ne 15, 0, 729), (717, 1, .aload_n 3, 0, 0), (718, 1, .iconst 0, 0, 0), (719, 1, .laload, 0, 0),
  (720, 2, .iload 6, 0, 0), (722, 1, .i2l, 0, 0), (723, 1, .lcmp, 0, 0), (724, 3, .ifCond .eq 5, 0, 729),
  (727, 1, .iconst 0, 0, 0), (728, 1, .ireturn, 0, 0), (729, 3, .goto 665, 0, 1394), (732, 1, .aload_n 1, 0, 0),
  (733, 1, .aload_n 0, 0, 0), (734, 2, .iload 4, 0, 0)]
set_option maxRecDepth 100000 in
theorem kL_law_7_ok : kL_law_7.all (fw_rowq cL_law 9) = true := by decide +kernel
def kL_law_8 : List fw_Ent := [
  (736, 1, .iconst 1, 1, 0), (737, 1, .iadd, 0, 0), (738, 1, .iaload, 0, 0), (739, 1, .aload_n 0, 0, 0),
  (740, 2, .iload 4, 0, 0), (742, 1, .iconst 2, 2, 0), (743, 1, .iadd, 0, 0), (744, 1, .iaload, 0, 0),
  (745, 1, .aload_n 0, 0, 0), (746, 2, .iload 4, 0, 0), (748, 1, .iconst 3, 3, 0), (749, 1, .iadd, 0, 0),
  (750, 1, .iaload, 0, 0), (751, 3, .ifCond .eq 7, 0, 758), (754, 1, .iconst 1, 1, 0), (755, 3, .goto 4, 0, 759),
  (758, 1, .iconst 0, 0, 0), (759, 1, .aload_n 3, 0, 0), (760, 3, .invokestatic 113, 0, 0), (763, 2, .istore 5, 0, 0),
  (765, 1, .aload_n 2, 0, 0), (766, 1, .aload_n 0, 0, 0), (767, 2, .iload 4, 0, 0), (769, 1, .iconst 1, 1, 0),
  (770, 1, .iadd, 0, 0), (771, 1, .iaload, 0, 0), (772, 1, .aload_n 0, 0, 0), (773, 2, .iload 4, 0, 0),
  (775, 1, .iconst 2, 2, 0), (776, 1, .iadd, 0, 0), (777, 1, .iaload, 0, 0), (778, 1, .aload_n 0, 0, 0),
  (779, 2, .iload 4, 0, 0), (781, 1, .iconst 3, 3, 0), (782, 1, .iadd, 0, 0), (783, 1, .iaload, 0, 0),
  (784, 3, .ifCond .eq 7, 0, 791), (787, 1, .iconst 1, 1, 0), (788, 3, .goto 4, 0, 792), (791, 1, .iconst 0, 0, 0),
  (792, 3, .invokevirtual 116, 0, 0), (795, 2, .istore 6, 0, 0), (797, 1, .aload_n 2, 0, 0), (798, 3, .invokevirtual 84, 0, 0),
  (801, 2, .iload 5, 0, 0), (803, 3, .if_icmp .eq 5, 0, 808), (806, 1, .iconst 0, 0, 0), (807, 1, .ireturn, 0, 0),
  (808, 2, .iload 5, 0, 0), (810, 3, .ifCond .ne 15, 0, 825)]
set_option maxRecDepth 100000 in
theorem kL_law_8_ok : kL_law_8.all (fw_rowq cL_law 9) = true := by decide +kernel
def kL_law_9 : List fw_Ent := [
  (813, 1, .aload_n 3, 0, 0), (814, 1, .iconst 0, 0, 0), (815, 1, .laload, 0, 0), (816, 2, .iload 6, 0, 0),
  (818, 1, .i2l, 0, 0), (819, 1, .lcmp, 0, 0), (820, 3, .ifCond .eq 5, 0, 825), (823, 1, .iconst 0, 0, 0),
  (824, 1, .ireturn, 0, 0), (825, 3, .goto 569, 0, 1394), (828, 1, .aload_n 1, 0, 0), (829, 1, .aload_n 0, 0, 0),
  (830, 2, .iload 4, 0, 0), (832, 1, .iconst 1, 1, 0), (833, 1, .iadd, 0, 0), (834, 1, .iaload, 0, 0),
  (835, 1, .aload_n 0, 0, 0), (836, 2, .iload 4, 0, 0), (838, 1, .iconst 2, 2, 0), (839, 1, .iadd, 0, 0),
  (840, 1, .iaload, 0, 0), (841, 1, .aload_n 3, 0, 0), (842, 3, .invokestatic 117, 0, 0), (845, 2, .istore 5, 0, 0),
  (847, 1, .aload_n 2, 0, 0), (848, 1, .aload_n 0, 0, 0), (849, 2, .iload 4, 0, 0), (851, 1, .iconst 1, 1, 0),
  (852, 1, .iadd, 0, 0), (853, 1, .iaload, 0, 0), (854, 1, .aload_n 0, 0, 0), (855, 2, .iload 4, 0, 0),
  (857, 1, .iconst 2, 2, 0), (858, 1, .iadd, 0, 0), (859, 1, .iaload, 0, 0), (860, 3, .invokevirtual 119, 0, 0),
  (863, 2, .istore 6, 0, 0), (865, 1, .aload_n 2, 0, 0), (866, 3, .invokevirtual 84, 0, 0), (869, 2, .iload 5, 0, 0),
  (871, 3, .if_icmp .eq 5, 0, 876), (874, 1, .iconst 0, 0, 0), (875, 1, .ireturn, 0, 0), (876, 2, .iload 5, 0, 0),
  (878, 3, .ifCond .ne 15, 0, 893), (881, 1, .aload_n 3, 0, 0), (882, 1, .iconst 0, 0, 0), (883, 1, .laload, 0, 0),
  (884, 2, .iload 6, 0, 0), (886, 1, .i2l, 0, 0)]
set_option maxRecDepth 100000 in
theorem kL_law_9_ok : kL_law_9.all (fw_rowq cL_law 9) = true := by decide +kernel
def kL_law_10 : List fw_Ent := [
  (887, 1, .lcmp, 0, 0), (888, 3, .ifCond .eq 5, 0, 893), (891, 1, .iconst 0, 0, 0), (892, 1, .ireturn, 0, 0),
  (893, 3, .goto 501, 0, 1394), (896, 1, .aload_n 1, 0, 0), (897, 1, .aload_n 0, 0, 0), (898, 2, .iload 4, 0, 0),
  (900, 1, .iconst 1, 1, 0), (901, 1, .iadd, 0, 0), (902, 1, .iaload, 0, 0), (903, 1, .aload_n 3, 0, 0),
  (904, 3, .invokestatic 120, 0, 0), (907, 2, .istore 5, 0, 0), (909, 1, .aload_n 2, 0, 0), (910, 1, .aload_n 0, 0, 0),
  (911, 2, .iload 4, 0, 0), (913, 1, .iconst 1, 1, 0), (914, 1, .iadd, 0, 0), (915, 1, .iaload, 0, 0),
  (916, 3, .invokevirtual 122, 0, 0), (919, 2, .istore 6, 0, 0), (921, 1, .aload_n 2, 0, 0), (922, 3, .invokevirtual 84, 0, 0),
  (925, 2, .iload 5, 0, 0), (927, 3, .if_icmp .eq 5, 0, 932), (930, 1, .iconst 0, 0, 0), (931, 1, .ireturn, 0, 0),
  (932, 2, .iload 5, 0, 0), (934, 3, .ifCond .ne 15, 0, 949), (937, 1, .aload_n 3, 0, 0), (938, 1, .iconst 0, 0, 0),
  (939, 1, .laload, 0, 0), (940, 2, .iload 6, 0, 0), (942, 1, .i2l, 0, 0), (943, 1, .lcmp, 0, 0),
  (944, 3, .ifCond .eq 5, 0, 949), (947, 1, .iconst 0, 0, 0), (948, 1, .ireturn, 0, 0), (949, 3, .goto 445, 0, 1394),
  (952, 1, .aload_n 1, 0, 0), (953, 1, .aload_n 0, 0, 0), (954, 2, .iload 4, 0, 0), (956, 1, .iconst 1, 1, 0),
  (957, 1, .iadd, 0, 0), (958, 1, .iaload, 0, 0), (959, 1, .aload_n 3, 0, 0), (960, 3, .invokestatic 123, 0, 0),
  (963, 2, .istore 5, 0, 0), (965, 1, .aload_n 2, 0, 0)]
set_option maxRecDepth 100000 in
theorem kL_law_10_ok : kL_law_10.all (fw_rowq cL_law 9) = true := by decide +kernel
def kL_law_11 : List fw_Ent := [
  (966, 1, .aload_n 0, 0, 0), (967, 2, .iload 4, 0, 0), (969, 1, .iconst 1, 1, 0), (970, 1, .iadd, 0, 0),
  (971, 1, .iaload, 0, 0), (972, 3, .invokevirtual 125, 0, 0), (975, 2, .istore 6, 0, 0), (977, 1, .aload_n 2, 0, 0),
  (978, 3, .invokevirtual 84, 0, 0), (981, 2, .iload 5, 0, 0), (983, 3, .if_icmp .eq 5, 0, 988), (986, 1, .iconst 0, 0, 0),
  (987, 1, .ireturn, 0, 0), (988, 2, .iload 5, 0, 0), (990, 3, .ifCond .ne 15, 0, 1005), (993, 1, .aload_n 3, 0, 0),
  (994, 1, .iconst 0, 0, 0), (995, 1, .laload, 0, 0), (996, 2, .iload 6, 0, 0), (998, 1, .i2l, 0, 0),
  (999, 1, .lcmp, 0, 0), (1000, 3, .ifCond .eq 5, 0, 1005), (1003, 1, .iconst 0, 0, 0), (1004, 1, .ireturn, 0, 0),
  (1005, 3, .goto 389, 0, 1394), (1008, 1, .aload_n 1, 0, 0), (1009, 3, .invokevirtual 126, 0, 0), (1012, 2, .dstore 5, 0, 0),
  (1014, 1, .aload_n 2, 0, 0), (1015, 3, .invokevirtual 130, 0, 0), (1018, 2, .dstore 7, 0, 0), (1020, 2, .dload 5, 0, 0),
  (1022, 2, .dload 7, 0, 0), (1024, 1, .dcmp .l, 0, 0), (1025, 3, .ifCond .eq 21, 0, 1046), (1028, 2, .dload 5, 0, 0),
  (1030, 2, .dload 5, 0, 0), (1032, 1, .dcmp .l, 0, 0), (1033, 3, .ifCond .eq 11, 0, 1044), (1036, 2, .dload 7, 0, 0),
  (1038, 2, .dload 7, 0, 0), (1040, 1, .dcmp .l, 0, 0), (1041, 3, .ifCond .ne 5, 0, 1046), (1044, 1, .iconst 0, 0, 0),
  (1045, 1, .ireturn, 0, 0), (1046, 3, .goto 348, 0, 1394), (1049, 1, .aload_n 1, 0, 0), (1050, 1, .aload_n 0, 0, 0),
  (1051, 2, .iload 4, 0, 0), (1053, 1, .iconst 1, 1, 0)]
set_option maxRecDepth 100000 in
theorem kL_law_11_ok : kL_law_11.all (fw_rowq cL_law 9) = true := by decide +kernel
def kL_law_12 : List fw_Ent := [
  (1054, 1, .iadd, 0, 0), (1055, 1, .iaload, 0, 0), (1056, 1, .aload_n 3, 0, 0), (1057, 3, .invokestatic 131, 0, 0),
  (1060, 2, .istore 5, 0, 0), (1062, 1, .aload_n 2, 0, 0), (1063, 1, .aload_n 0, 0, 0), (1064, 2, .iload 4, 0, 0),
  (1066, 1, .iconst 1, 1, 0), (1067, 1, .iadd, 0, 0), (1068, 1, .iaload, 0, 0), (1069, 3, .invokevirtual 133, 0, 0),
  (1072, 2, .istore 6, 0, 0), (1074, 1, .aload_n 2, 0, 0), (1075, 3, .invokevirtual 84, 0, 0), (1078, 2, .iload 5, 0, 0),
  (1080, 3, .if_icmp .eq 5, 0, 1085), (1083, 1, .iconst 0, 0, 0), (1084, 1, .ireturn, 0, 0), (1085, 2, .iload 5, 0, 0),
  (1087, 3, .ifCond .ne 15, 0, 1102), (1090, 1, .aload_n 3, 0, 0), (1091, 1, .iconst 0, 0, 0), (1092, 1, .laload, 0, 0),
  (1093, 2, .iload 6, 0, 0), (1095, 1, .i2l, 0, 0), (1096, 1, .lcmp, 0, 0), (1097, 3, .ifCond .eq 5, 0, 1102),
  (1100, 1, .iconst 0, 0, 0), (1101, 1, .ireturn, 0, 0), (1102, 3, .goto 292, 0, 1394), (1105, 1, .aload_n 1, 0, 0),
  (1106, 1, .aload_n 0, 0, 0), (1107, 2, .iload 4, 0, 0), (1109, 1, .iconst 1, 1, 0), (1110, 1, .iadd, 0, 0),
  (1111, 1, .iaload, 0, 0), (1112, 1, .aload_n 0, 0, 0), (1113, 2, .iload 4, 0, 0), (1115, 1, .iconst 2, 2, 0),
  (1116, 1, .iadd, 0, 0), (1117, 1, .iaload, 0, 0), (1118, 1, .aload_n 3, 0, 0), (1119, 3, .invokestatic 134, 0, 0),
  (1122, 2, .istore 5, 0, 0), (1124, 1, .aload_n 2, 0, 0), (1125, 1, .aload_n 0, 0, 0), (1126, 2, .iload 4, 0, 0),
  (1128, 1, .iconst 1, 1, 0), (1129, 1, .iadd, 0, 0)]
set_option maxRecDepth 100000 in
theorem kL_law_12_ok : kL_law_12.all (fw_rowq cL_law 9) = true := by decide +kernel
def kL_law_13 : List fw_Ent := [
  (1130, 1, .iaload, 0, 0), (1131, 1, .aload_n 0, 0, 0), (1132, 2, .iload 4, 0, 0), (1134, 1, .iconst 2, 2, 0),
  (1135, 1, .iadd, 0, 0), (1136, 1, .iaload, 0, 0), (1137, 3, .invokevirtual 136, 0, 0), (1140, 2, .istore 6, 0, 0),
  (1142, 1, .aload_n 2, 0, 0), (1143, 3, .invokevirtual 84, 0, 0), (1146, 2, .iload 5, 0, 0), (1148, 3, .if_icmp .eq 5, 0, 1153),
  (1151, 1, .iconst 0, 0, 0), (1152, 1, .ireturn, 0, 0), (1153, 2, .iload 5, 0, 0), (1155, 3, .ifCond .ne 15, 0, 1170),
  (1158, 1, .aload_n 3, 0, 0), (1159, 1, .iconst 0, 0, 0), (1160, 1, .laload, 0, 0), (1161, 2, .iload 6, 0, 0),
  (1163, 1, .i2l, 0, 0), (1164, 1, .lcmp, 0, 0), (1165, 3, .ifCond .eq 5, 0, 1170), (1168, 1, .iconst 0, 0, 0),
  (1169, 1, .ireturn, 0, 0), (1170, 3, .goto 224, 0, 1394), (1173, 1, .aload_n 1, 0, 0), (1174, 1, .aload_n 0, 0, 0),
  (1175, 2, .iload 4, 0, 0), (1177, 1, .iconst 1, 1, 0), (1178, 1, .iadd, 0, 0), (1179, 1, .iaload, 0, 0),
  (1180, 1, .aload_n 0, 0, 0), (1181, 2, .iload 4, 0, 0), (1183, 1, .iconst 2, 2, 0), (1184, 1, .iadd, 0, 0),
  (1185, 1, .iaload, 0, 0), (1186, 1, .aload_n 3, 0, 0), (1187, 3, .invokestatic 137, 0, 0), (1190, 2, .istore 5, 0, 0),
  (1192, 1, .aload_n 2, 0, 0), (1193, 1, .aload_n 0, 0, 0), (1194, 2, .iload 4, 0, 0), (1196, 1, .iconst 1, 1, 0),
  (1197, 1, .iadd, 0, 0), (1198, 1, .iaload, 0, 0), (1199, 1, .aload_n 0, 0, 0), (1200, 2, .iload 4, 0, 0),
  (1202, 1, .iconst 2, 2, 0), (1203, 1, .iadd, 0, 0)]
set_option maxRecDepth 100000 in
theorem kL_law_13_ok : kL_law_13.all (fw_rowq cL_law 9) = true := by decide +kernel
def kL_law_14 : List fw_Ent := [
  (1204, 1, .iaload, 0, 0), (1205, 3, .invokevirtual 139, 0, 0), (1208, 2, .istore 6, 0, 0), (1210, 1, .aload_n 2, 0, 0),
  (1211, 3, .invokevirtual 84, 0, 0), (1214, 2, .iload 5, 0, 0), (1216, 3, .if_icmp .eq 5, 0, 1221), (1219, 1, .iconst 0, 0, 0),
  (1220, 1, .ireturn, 0, 0), (1221, 2, .iload 5, 0, 0), (1223, 3, .ifCond .ne 15, 0, 1238), (1226, 1, .aload_n 3, 0, 0),
  (1227, 1, .iconst 0, 0, 0), (1228, 1, .laload, 0, 0), (1229, 2, .iload 6, 0, 0), (1231, 1, .i2l, 0, 0),
  (1232, 1, .lcmp, 0, 0), (1233, 3, .ifCond .eq 5, 0, 1238), (1236, 1, .iconst 0, 0, 0), (1237, 1, .ireturn, 0, 0),
  (1238, 3, .goto 156, 0, 1394), (1241, 1, .aload_n 1, 0, 0), (1242, 3, .invokevirtual 140, 0, 0), (1245, 1, .aload_n 2, 0, 0),
  (1246, 3, .invokevirtual 143, 0, 0), (1249, 3, .if_icmp .eq 145, 0, 1394), (1252, 1, .iconst 0, 0, 0), (1253, 1, .ireturn, 0, 0),
  (1254, 1, .aload_n 1, 0, 0), (1255, 1, .aload_n 0, 0, 0), (1256, 2, .iload 4, 0, 0), (1258, 1, .iconst 1, 1, 0),
  (1259, 1, .iadd, 0, 0), (1260, 1, .iaload, 0, 0), (1261, 1, .aload_n 3, 0, 0), (1262, 3, .invokestatic 144, 0, 0),
  (1265, 2, .istore 5, 0, 0), (1267, 1, .aload_n 2, 0, 0), (1268, 1, .aload_n 0, 0, 0), (1269, 2, .iload 4, 0, 0),
  (1271, 1, .iconst 1, 1, 0), (1272, 1, .iadd, 0, 0), (1273, 1, .iaload, 0, 0), (1274, 3, .invokevirtual 146, 0, 0),
  (1277, 2, .istore 6, 0, 0), (1279, 1, .aload_n 2, 0, 0), (1280, 3, .invokevirtual 84, 0, 0), (1283, 2, .iload 5, 0, 0),
  (1285, 3, .if_icmp .eq 5, 0, 1290), (1288, 1, .iconst 0, 0, 0)]
set_option maxRecDepth 100000 in
theorem kL_law_14_ok : kL_law_14.all (fw_rowq cL_law 9) = true := by decide +kernel
def kL_law_15 : List fw_Ent := [
  (1289, 1, .ireturn, 0, 0), (1290, 2, .iload 5, 0, 0), (1292, 3, .ifCond .ne 15, 0, 1307), (1295, 1, .aload_n 3, 0, 0),
  (1296, 1, .iconst 0, 0, 0), (1297, 1, .laload, 0, 0), (1298, 2, .iload 6, 0, 0), (1300, 1, .i2l, 0, 0),
  (1301, 1, .lcmp, 0, 0), (1302, 3, .ifCond .eq 5, 0, 1307), (1305, 1, .iconst 0, 0, 0), (1306, 1, .ireturn, 0, 0),
  (1307, 3, .goto 87, 0, 1394), (1310, 1, .aload_n 1, 0, 0), (1311, 3, .invokevirtual 147, 0, 0), (1314, 1, .aload_n 2, 0, 0),
  (1315, 3, .invokevirtual 150, 0, 0), (1318, 3, .if_icmp .eq 76, 0, 1394), (1321, 1, .iconst 0, 0, 0), (1322, 1, .ireturn, 0, 0),
  (1323, 1, .aload_n 1, 0, 0), (1324, 3, .invokevirtual 151, 0, 0), (1327, 1, .aload_n 2, 0, 0), (1328, 3, .invokevirtual 154, 0, 0),
  (1331, 3, .if_icmp .eq 63, 0, 1394), (1334, 1, .iconst 0, 0, 0), (1335, 1, .ireturn, 0, 0), (1336, 1, .aload_n 1, 0, 0),
  (1337, 1, .aload_n 3, 0, 0), (1338, 3, .invokestatic 155, 0, 0), (1341, 2, .istore 5, 0, 0), (1343, 1, .aload_n 2, 0, 0),
  (1344, 3, .invokevirtual 158, 0, 0), (1347, 2, .istore 6, 0, 0), (1349, 1, .aload_n 2, 0, 0), (1350, 3, .invokevirtual 84, 0, 0),
  (1353, 2, .iload 5, 0, 0), (1355, 3, .if_icmp .eq 5, 0, 1360), (1358, 1, .iconst 0, 0, 0), (1359, 1, .ireturn, 0, 0),
  (1360, 2, .iload 5, 0, 0), (1362, 3, .ifCond .ne 15, 0, 1377), (1365, 1, .aload_n 3, 0, 0), (1366, 1, .iconst 0, 0, 0),
  (1367, 1, .laload, 0, 0), (1368, 2, .iload 6, 0, 0), (1370, 1, .i2l, 0, 0), (1371, 1, .lcmp, 0, 0),
  (1372, 3, .ifCond .eq 5, 0, 1377), (1375, 1, .iconst 0, 0, 0)]
set_option maxRecDepth 100000 in
theorem kL_law_15_ok : kL_law_15.all (fw_rowq cL_law 9) = true := by decide +kernel
def kL_law_16 : List fw_Ent := [
  (1376, 1, .ireturn, 0, 0), (1377, 3, .goto 17, 0, 1394), (1380, 1, .aload_n 1, 0, 0), (1381, 3, .invokevirtual 159, 0, 0),
  (1384, 1, .aload_n 2, 0, 0), (1385, 3, .invokevirtual 163, 0, 0), (1388, 1, .lcmp, 0, 0), (1389, 3, .ifCond .eq 5, 0, 1394),
  (1392, 1, .iconst 0, 0, 0), (1393, 1, .ireturn, 0, 0), (1394, 3, .iinc 4 5, 5, 0), (1397, 3, .goto (-1374), 0, 23),
  (1400, 1, .iconst 1, 1, 0), (1401, 1, .ireturn, 0, 0)]
set_option maxRecDepth 100000 in
theorem kL_law_16_ok : kL_law_16.all (fw_rowq cL_law 9) = true := by decide +kernel
set_option maxRecDepth 100000 in
theorem kL_law_eq : kL_law = kL_law_0 ++ (kL_law_1 ++ (kL_law_2 ++ (kL_law_3 ++ (kL_law_4 ++ (kL_law_5 ++ (kL_law_6 ++ (kL_law_7 ++ (kL_law_8 ++ (kL_law_9 ++ (kL_law_10 ++ (kL_law_11 ++ (kL_law_12 ++ (kL_law_13 ++ (kL_law_14 ++ (kL_law_15 ++ (kL_law_16)))))))))))))))) := rfl
theorem kL_law_all : kL_law.all (fw_rowq cL_law 9) = true := by
  rw [kL_law_eq]
  simp only [List.all_append, Bool.and_eq_true]
  exact ⟨kL_law_0_ok, ⟨kL_law_1_ok, ⟨kL_law_2_ok, ⟨kL_law_3_ok, ⟨kL_law_4_ok, ⟨kL_law_5_ok, ⟨kL_law_6_ok, ⟨kL_law_7_ok, ⟨kL_law_8_ok, ⟨kL_law_9_ok, ⟨kL_law_10_ok, ⟨kL_law_11_ok, ⟨kL_law_12_ok, ⟨kL_law_13_ok, ⟨kL_law_14_ok, ⟨kL_law_15_ok, kL_law_16_ok⟩⟩⟩⟩⟩⟩⟩⟩⟩⟩⟩⟩⟩⟩⟩⟩
set_option maxRecDepth 100000 in
theorem kL_law_chain : fw_chain kL_law = true := by decide +kernel
theorem kL_law_ok : fw_chk cL_law 9 kL_law = true := by
  show (kL_law.all (fw_rowq cL_law 9) && fw_chain kL_law) = true
  rw [kL_law_all, kL_law_chain]
  rfl
set_option maxRecDepth 100000 in
theorem kL_law_cst : ∀ en ∈ kL_law, fw_CstOK RL [] en := by
  have h : kL_law.all (fw_cstq []) = true := by decide +kernel
  exact fun en he => fw_cstX (cp := []) (fun q hq => nomatch hq) (fun i v hq => nomatch hq) (List.all_eq_true.mp h en he)

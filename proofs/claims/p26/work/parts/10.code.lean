def fw_cstq (cp : List (Nat × Int32)) (en : fw_Ent) : Bool := match en.2.2.1 with
  | .ldc i => decide ((i, en.2.2.2.1) ∈ cp)
  | .ldc_w i => decide ((i, en.2.2.2.1) ∈ cp)
  | _ => true
theorem fw_cstX {own : String} {cst : List (Nat × Value)} {cp : List (Nat × Int32)} {en : fw_Ent} (hcp : ∀ q ∈ cp, Cond.constant own q.1 q.2 ∈ fw_LW) (hcst : ∀ i v, (i, Value.long v) ∈ cst → Cond.constantLong own i v ∈ fw_LW) (h : fw_cstq cp en = true) : fw_CstOK own cst en := by
  obtain ⟨pc, len, i, num, tgt⟩ := en
  unfold fw_CstOK
  dsimp only
  cases i with
  | ldc i => exact hcp (i, num) (of_decide_eq_true h)
  | ldc_w i => exact hcp (i, num) (of_decide_eq_true h)
  | ldc2_w i => exact fun v hv => hcst i v (fw_find_mem hv)
  | _ => trivial
def cst_X0 : List (Nat × Value) := []
def cp_X0 : List (Nat × Int32) := []
theorem cp_X0_ok : ∀ q ∈ cp_X0, Cond.constant RX0 q.1 q.2 ∈ fw_LW := by
  intro q hq
  simp only [cp_X0, List.mem_cons, List.not_mem_nil, or_false] at hq
theorem cst_X0_ok : ∀ i v, (i, Value.long v) ∈ cst_X0 → Cond.constantLong RX0 i v ∈ fw_LW := by
  intro i v hq
  simp only [cst_X0, List.mem_cons, List.not_mem_nil, or_false, Prod.mk.injEq, Value.long.injEq] at hq
def cst_X1 : List (Nat × Value) := []
def cp_X1 : List (Nat × Int32) := []
theorem cp_X1_ok : ∀ q ∈ cp_X1, Cond.constant RX1 q.1 q.2 ∈ fw_LW := by
  intro q hq
  simp only [cp_X1, List.mem_cons, List.not_mem_nil, or_false] at hq
theorem cst_X1_ok : ∀ i v, (i, Value.long v) ∈ cst_X1 → Cond.constantLong RX1 i v ∈ fw_LW := by
  intro i v hq
  simp only [cst_X1, List.mem_cons, List.not_mem_nil, or_false, Prod.mk.injEq, Value.long.injEq] at hq
def cst_X2 : List (Nat × Value) := []
def cp_X2 : List (Nat × Int32) := []
theorem cp_X2_ok : ∀ q ∈ cp_X2, Cond.constant RX2 q.1 q.2 ∈ fw_LW := by
  intro q hq
  simp only [cp_X2, List.mem_cons, List.not_mem_nil, or_false] at hq
theorem cst_X2_ok : ∀ i v, (i, Value.long v) ∈ cst_X2 → Cond.constantLong RX2 i v ∈ fw_LW := by
  intro i v hq
  simp only [cst_X2, List.mem_cons, List.not_mem_nil, or_false, Prod.mk.injEq, Value.long.injEq] at hq
def cst_X3 : List (Nat × Value) := []
def cp_X3 : List (Nat × Int32) := []
theorem cp_X3_ok : ∀ q ∈ cp_X3, Cond.constant RX3 q.1 q.2 ∈ fw_LW := by
  intro q hq
  simp only [cp_X3, List.mem_cons, List.not_mem_nil, or_false] at hq
theorem cst_X3_ok : ∀ i v, (i, Value.long v) ∈ cst_X3 → Cond.constantLong RX3 i v ∈ fw_LW := by
  intro i v hq
  simp only [cst_X3, List.mem_cons, List.not_mem_nil, or_false, Prod.mk.injEq, Value.long.injEq] at hq
def cst_X4 : List (Nat × Value) := []
def cp_X4 : List (Nat × Int32) := []
theorem cp_X4_ok : ∀ q ∈ cp_X4, Cond.constant RX4 q.1 q.2 ∈ fw_LW := by
  intro q hq
  simp only [cp_X4, List.mem_cons, List.not_mem_nil, or_false] at hq
theorem cst_X4_ok : ∀ i v, (i, Value.long v) ∈ cst_X4 → Cond.constantLong RX4 i v ∈ fw_LW := by
  intro i v hq
  simp only [cst_X4, List.mem_cons, List.not_mem_nil, or_false, Prod.mk.injEq, Value.long.injEq] at hq
def cst_X5 : List (Nat × Value) := []
def cp_X5 : List (Nat × Int32) := [(207, 65535)]
theorem cp_X5_ok : ∀ q ∈ cp_X5, Cond.constant RX5 q.1 q.2 ∈ fw_LW := by
  intro q hq
  simp only [cp_X5, List.mem_cons, List.not_mem_nil, or_false] at hq
  rcases hq with rfl
  · exact wk_X5_207
theorem cst_X5_ok : ∀ i v, (i, Value.long v) ∈ cst_X5 → Cond.constantLong RX5 i v ∈ fw_LW := by
  intro i v hq
  simp only [cst_X5, List.mem_cons, List.not_mem_nil, or_false, Prod.mk.injEq, Value.long.injEq] at hq
def cst_L : List (Nat × Value) := []
def cp_L : List (Nat × Int32) := [(7, 40503), (8, 2147483647), (34, 65535), (35, 100000), (47, -100003), (51, -100001), (56, -100002)]
theorem cp_L_ok : ∀ q ∈ cp_L, Cond.constant RL q.1 q.2 ∈ fw_LW := by
  intro q hq
  simp only [cp_L, List.mem_cons, List.not_mem_nil, or_false] at hq
  rcases hq with rfl | rfl | rfl | rfl | rfl | rfl | rfl
  · exact wk_L_7
  · exact wk_L_8
  · exact wk_L_34
  · exact wk_L_35
  · exact wk_L_47
  · exact wk_L_51
  · exact wk_L_56
theorem cst_L_ok : ∀ i v, (i, Value.long v) ∈ cst_L → Cond.constantLong RL i v ∈ fw_LW := by
  intro i v hq
  simp only [cst_L, List.mem_cons, List.not_mem_nil, or_false, Prod.mk.injEq, Value.long.injEq] at hq
/-! CODE: every method of the class and of the reference as a list of decoded rows (printed by program) -/
def fl_X5 : List (Nat × Nat × Nat) := [(10, 5, 0), (16, 5, 1), (22, 5, 2), (29, 5, 3), (43, 1, 2), (65, 0, 0), (76, 1, 3), (83, 1, 1), (86, 0, 4), (96, 1, 0)]
theorem fl_X5_ok : fw_Fld RX5 fl_X5 := by
  intro q hq
  simp only [fl_X5, List.mem_cons, List.not_mem_nil, or_false] at hq
  rcases hq with rfl | rfl | rfl | rfl | rfl | rfl | rfl | rfl | rfl | rfl
  · exact ⟨by decide, by decide, rfl, wf_X5_10⟩
  · exact ⟨by decide, by decide, rfl, wf_X5_16⟩
  · exact ⟨by decide, by decide, rfl, wf_X5_22⟩
  · exact ⟨by decide, by decide, rfl, wf_X5_29⟩
  · exact ⟨by decide, by decide, rfl, wf_X5_43⟩
  · exact ⟨by decide, by decide, rfl, wf_X5_65⟩
  · exact ⟨by decide, by decide, rfl, wf_X5_76⟩
  · exact ⟨by decide, by decide, rfl, wf_X5_83⟩
  · exact ⟨by decide, by decide, rfl, wf_X5_86⟩
  · exact ⟨by decide, by decide, rfl, wf_X5_96⟩
def fl_X0 : List (Nat × Nat × Nat) := [(9, 0, 4), (15, 0, 0), (18, 0, 1), (21, 0, 2), (27, 0, 3)]
theorem fl_X0_ok : fw_Fld RX0 fl_X0 := by
  intro q hq
  simp only [fl_X0, List.mem_cons, List.not_mem_nil, or_false] at hq
  rcases hq with rfl | rfl | rfl | rfl | rfl
  · exact ⟨by decide, by decide, rfl, wf_X0_9⟩
  · exact ⟨by decide, by decide, rfl, wf_X0_15⟩
  · exact ⟨by decide, by decide, rfl, wf_X0_18⟩
  · exact ⟨by decide, by decide, rfl, wf_X0_21⟩
  · exact ⟨by decide, by decide, rfl, wf_X0_27⟩
def fl_X1 : List (Nat × Nat × Nat) := [(11, 1, 7), (19, 1, 8), (23, 1, 1), (29, 1, 0), (32, 1, 2), (35, 1, 3), (38, 1, 4), (41, 1, 5), (44, 1, 6), (69, 0, 4), (72, 3, 4), (78, 0, 0), (92, 0, 3), (109, 0, 1), (112, 3, 1), (123, 3, 5), (131, 3, 6), (134, 3, 2), (137, 3, 3), (140, 3, 7), (144, 0, 2)]
theorem fl_X1_ok : fw_Fld RX1 fl_X1 := by
  intro q hq
  simp only [fl_X1, List.mem_cons, List.not_mem_nil, or_false] at hq
  rcases hq with rfl | rfl | rfl | rfl | rfl | rfl | rfl | rfl | rfl | rfl | rfl | rfl | rfl | rfl | rfl | rfl | rfl | rfl | rfl | rfl | rfl
  · exact ⟨by decide, by decide, rfl, wf_X1_11⟩
  · exact ⟨by decide, by decide, rfl, wf_X1_19⟩
  · exact ⟨by decide, by decide, rfl, wf_X1_23⟩
  · exact ⟨by decide, by decide, rfl, wf_X1_29⟩
  · exact ⟨by decide, by decide, rfl, wf_X1_32⟩
  · exact ⟨by decide, by decide, rfl, wf_X1_35⟩
  · exact ⟨by decide, by decide, rfl, wf_X1_38⟩
  · exact ⟨by decide, by decide, rfl, wf_X1_41⟩
  · exact ⟨by decide, by decide, rfl, wf_X1_44⟩
  · exact ⟨by decide, by decide, rfl, wf_X1_69⟩
  · exact ⟨by decide, by decide, rfl, wf_X1_72⟩
  · exact ⟨by decide, by decide, rfl, wf_X1_78⟩
  · exact ⟨by decide, by decide, rfl, wf_X1_92⟩
  · exact ⟨by decide, by decide, rfl, wf_X1_109⟩
  · exact ⟨by decide, by decide, rfl, wf_X1_112⟩
  · exact ⟨by decide, by decide, rfl, wf_X1_123⟩
  · exact ⟨by decide, by decide, rfl, wf_X1_131⟩
  · exact ⟨by decide, by decide, rfl, wf_X1_134⟩
  · exact ⟨by decide, by decide, rfl, wf_X1_137⟩
  · exact ⟨by decide, by decide, rfl, wf_X1_140⟩
  · exact ⟨by decide, by decide, rfl, wf_X1_144⟩
def fl_X2 : List (Nat × Nat × Nat) := [(11, 2, 0), (18, 2, 1), (22, 2, 2)]
theorem fl_X2_ok : fw_Fld RX2 fl_X2 := by
  intro q hq
  simp only [fl_X2, List.mem_cons, List.not_mem_nil, or_false] at hq
  rcases hq with rfl | rfl | rfl
  · exact ⟨by decide, by decide, rfl, wf_X2_11⟩
  · exact ⟨by decide, by decide, rfl, wf_X2_18⟩
  · exact ⟨by decide, by decide, rfl, wf_X2_22⟩
def fl_X3 : List (Nat × Nat × Nat) := [(9, 3, 8), (15, 3, 9), (18, 3, 0), (22, 3, 1), (25, 3, 2), (28, 3, 3), (31, 3, 4), (34, 3, 5), (37, 3, 6), (40, 3, 7)]
theorem fl_X3_ok : fw_Fld RX3 fl_X3 := by
  intro q hq
  simp only [fl_X3, List.mem_cons, List.not_mem_nil, or_false] at hq
  rcases hq with rfl | rfl | rfl | rfl | rfl | rfl | rfl | rfl | rfl | rfl
  · exact ⟨by decide, by decide, rfl, wf_X3_9⟩
  · exact ⟨by decide, by decide, rfl, wf_X3_15⟩
  · exact ⟨by decide, by decide, rfl, wf_X3_18⟩
  · exact ⟨by decide, by decide, rfl, wf_X3_22⟩
  · exact ⟨by decide, by decide, rfl, wf_X3_25⟩
  · exact ⟨by decide, by decide, rfl, wf_X3_28⟩
  · exact ⟨by decide, by decide, rfl, wf_X3_31⟩
  · exact ⟨by decide, by decide, rfl, wf_X3_34⟩
  · exact ⟨by decide, by decide, rfl, wf_X3_37⟩
  · exact ⟨by decide, by decide, rfl, wf_X3_40⟩
def fl_X4 : List (Nat × Nat × Nat) := [(9, 4, 0), (15, 4, 1)]
theorem fl_X4_ok : fw_Fld RX4 fl_X4 := by
  intro q hq
  simp only [fl_X4, List.mem_cons, List.not_mem_nil, or_false] at hq
  rcases hq with rfl | rfl
  · exact ⟨by decide, by decide, rfl, wf_X4_9⟩
  · exact ⟨by decide, by decide, rfl, wf_X4_15⟩
def fl_X6 : List (Nat × Nat × Nat) := []
theorem fl_X6_ok : fw_Fld RX6 fl_X6 := by
  intro q hq
  simp only [fl_X6, List.mem_cons, List.not_mem_nil, or_false] at hq
def kX0_begin : List fw_Ent := [
  (0, 1, .aload_n 0, 0, 0), (1, 1, .iload_n 1, 0, 0), (2, 3, .putfield 15, 0, 0), (5, 1, .aload_n 0, 0, 0),
  (6, 1, .iload_n 2, 0, 0), (7, 3, .putfield 18, 0, 0), (10, 1, .aload_n 0, 0, 0), (11, 1, .iconst 0, 0, 0),
  (12, 3, .putfield 21, 0, 0), (15, 1, .aload_n 0, 0, 0), (16, 3, .invokevirtual 24, 0, 0), (19, 1, .return_, 0, 0)]
theorem kX0_begin_ok : fw_chk cX0_begin 3 kX0_begin = true := by decide +kernel
theorem kX0_begin_cst : ∀ en ∈ kX0_begin, fw_CstOK RX0 cst_X0 en := by
  have h : kX0_begin.all (fw_cstq cp_X0) = true := by decide +kernel
  exact fun en he => fw_cstX cp_X0_ok cst_X0_ok (List.all_eq_true.mp h en he)
def kX0_become : List fw_Ent := [
  (0, 1, .aload_n 0, 0, 0), (1, 1, .aload_n 1, 0, 0), (2, 3, .getfield 15, 0, 0), (5, 3, .putfield 15, 0, 0),
  (8, 1, .aload_n 0, 0, 0), (9, 1, .aload_n 1, 0, 0), (10, 3, .getfield 18, 0, 0), (13, 3, .putfield 18, 0, 0),
  (16, 1, .aload_n 0, 0, 0), (17, 1, .aload_n 1, 0, 0), (18, 3, .getfield 21, 0, 0), (21, 3, .putfield 21, 0, 0),
  (24, 1, .aload_n 0, 0, 0), (25, 1, .aload_n 1, 0, 0), (26, 3, .getfield 27, 0, 0), (29, 3, .putfield 27, 0, 0),
  (32, 1, .aload_n 0, 0, 0), (33, 1, .aload_n 1, 0, 0), (34, 3, .getfield 9, 0, 0), (37, 3, .putfield 9, 0, 0),
  (40, 1, .return_, 0, 0)]
theorem kX0_become_ok : fw_chk cX0_become 2 kX0_become = true := by decide +kernel
theorem kX0_become_cst : ∀ en ∈ kX0_become, fw_CstOK RX0 cst_X0 en := by
  have h : kX0_become.all (fw_cstq cp_X0) = true := by decide +kernel
  exact fun en he => fw_cstX cp_X0_ok cst_X0_ok (List.all_eq_true.mp h en he)
def kX0_setFree : List fw_Ent := [
  (0, 1, .aload_n 0, 0, 0), (1, 1, .iconst 0, 0, 0), (2, 3, .putfield 27, 0, 0), (5, 1, .aload_n 0, 0, 0),
  (6, 1, .iconst (-1), (-1), 0), (7, 3, .putfield 9, 0, 0), (10, 1, .return_, 0, 0)]
theorem kX0_setFree_ok : fw_chk cX0_setFree 1 kX0_setFree = true := by decide +kernel
theorem kX0_setFree_cst : ∀ en ∈ kX0_setFree, fw_CstOK RX0 cst_X0 en := by
  have h : kX0_setFree.all (fw_cstq cp_X0) = true := by decide +kernel
  exact fun en he => fw_cstX cp_X0_ok cst_X0_ok (List.all_eq_true.mp h en he)
def kX1_become : List fw_Ent := [
  (0, 1, .aload_n 0, 0, 0), (1, 1, .aload_n 1, 0, 0), (2, 3, .getfield 29, 0, 0), (5, 3, .putfield 29, 0, 0),
  (8, 1, .aload_n 0, 0, 0), (9, 1, .aload_n 1, 0, 0), (10, 3, .getfield 23, 0, 0), (13, 3, .putfield 23, 0, 0),
  (16, 1, .aload_n 0, 0, 0), (17, 1, .aload_n 1, 0, 0), (18, 3, .getfield 32, 0, 0), (21, 3, .putfield 32, 0, 0),
  (24, 1, .aload_n 0, 0, 0), (25, 1, .aload_n 1, 0, 0), (26, 3, .getfield 35, 0, 0), (29, 3, .putfield 35, 0, 0),
  (32, 1, .aload_n 0, 0, 0), (33, 1, .aload_n 1, 0, 0), (34, 3, .getfield 38, 0, 0), (37, 3, .putfield 38, 0, 0),
  (40, 1, .aload_n 0, 0, 0), (41, 1, .aload_n 1, 0, 0), (42, 3, .getfield 41, 0, 0), (45, 3, .putfield 41, 0, 0),
  (48, 1, .aload_n 0, 0, 0), (49, 1, .aload_n 1, 0, 0), (50, 3, .getfield 44, 0, 0), (53, 3, .putfield 44, 0, 0),
  (56, 1, .iconst 0, 0, 0), (57, 1, .istore_n 2, 0, 0), (58, 1, .iload_n 2, 0, 0), (59, 1, .aload_n 0, 0, 0),
  (60, 3, .getfield 32, 0, 0), (63, 3, .if_icmp .ge 37, 0, 100), (66, 1, .aload_n 0, 0, 0), (67, 1, .iload_n 2, 0, 0),
  (68, 3, .invokevirtual 47, 0, 0), (71, 1, .astore_n 3, 0, 0), (72, 1, .aload_n 1, 0, 0), (73, 1, .iload_n 2, 0, 0),
  (74, 3, .invokevirtual 47, 0, 0), (77, 2, .astore 4, 0, 0), (79, 1, .aload_n 3, 0, 0), (80, 3, .ifnull 14, 0, 94),
  (83, 2, .aload 4, 0, 0), (85, 3, .ifnull 9, 0, 94), (88, 1, .aload_n 3, 0, 0), (89, 2, .aload 4, 0, 0),
  (91, 3, .invokevirtual 51, 0, 0), (94, 3, .iinc 2 1, 1, 0), (97, 3, .goto (-39), 0, 58), (100, 1, .iconst 0, 0, 0),
  (101, 1, .istore_n 2, 0, 0), (102, 1, .iload_n 2, 0, 0), (103, 1, .aload_n 0, 0, 0), (104, 3, .getfield 35, 0, 0),
  (107, 3, .if_icmp .ge 37, 0, 144), (110, 1, .aload_n 0, 0, 0), (111, 1, .iload_n 2, 0, 0), (112, 3, .invokevirtual 55, 0, 0),
  (115, 1, .astore_n 3, 0, 0), (116, 1, .aload_n 1, 0, 0), (117, 1, .iload_n 2, 0, 0), (118, 3, .invokevirtual 55, 0, 0),
  (121, 2, .astore 4, 0, 0), (123, 1, .aload_n 3, 0, 0), (124, 3, .ifnull 14, 0, 138), (127, 2, .aload 4, 0, 0),
  (129, 3, .ifnull 9, 0, 138), (132, 1, .aload_n 3, 0, 0), (133, 2, .aload 4, 0, 0), (135, 3, .invokevirtual 59, 0, 0),
  (138, 3, .iinc 2 1, 1, 0), (141, 3, .goto (-39), 0, 102), (144, 1, .return_, 0, 0)]
theorem kX1_become_ok : fw_chk cX1_become 5 kX1_become = true := by decide +kernel
theorem kX1_become_cst : ∀ en ∈ kX1_become, fw_CstOK RX1 cst_X1 en := by
  have h : kX1_become.all (fw_cstq cp_X1) = true := by decide +kernel
  exact fun en he => fw_cstX cp_X1_ok cst_X1_ok (List.all_eq_true.mp h en he)
def kX1_courierAt : List fw_Ent := [
  (0, 1, .iload_n 1, 0, 0), (1, 3, .ifCond .lt 20, 0, 21), (4, 1, .iload_n 1, 0, 0), (5, 1, .aload_n 0, 0, 0),
  (6, 3, .getfield 32, 0, 0), (9, 3, .if_icmp .ge 12, 0, 21), (12, 1, .iload_n 1, 0, 0), (13, 1, .aload_n 0, 0, 0),
  (14, 3, .getfield 11, 0, 0), (17, 1, .arraylength, 0, 0), (18, 3, .if_icmp .lt 5, 0, 23), (21, 1, .aconst_null, 0, 0),
  (22, 1, .areturn, 0, 0), (23, 1, .aload_n 0, 0, 0), (24, 3, .getfield 11, 0, 0), (27, 1, .iload_n 1, 0, 0),
  (28, 1, .aaload, 0, 0), (29, 1, .areturn, 0, 0)]
theorem kX1_courierAt_ok : fw_chk cX1_courierAt 2 kX1_courierAt = true := by decide +kernel
theorem kX1_courierAt_cst : ∀ en ∈ kX1_courierAt, fw_CstOK RX1 cst_X1 en := by
  have h : kX1_courierAt.all (fw_cstq cp_X1) = true := by decide +kernel
  exact fun en he => fw_cstX cp_X1_ok cst_X1_ok (List.all_eq_true.mp h en he)
def kX1_parcelAt : List fw_Ent := [
  (0, 1, .iload_n 1, 0, 0), (1, 3, .ifCond .lt 20, 0, 21), (4, 1, .iload_n 1, 0, 0), (5, 1, .aload_n 0, 0, 0),
  (6, 3, .getfield 35, 0, 0), (9, 3, .if_icmp .ge 12, 0, 21), (12, 1, .iload_n 1, 0, 0), (13, 1, .aload_n 0, 0, 0),
  (14, 3, .getfield 19, 0, 0), (17, 1, .arraylength, 0, 0), (18, 3, .if_icmp .lt 5, 0, 23), (21, 1, .aconst_null, 0, 0),
  (22, 1, .areturn, 0, 0), (23, 1, .aload_n 0, 0, 0), (24, 3, .getfield 19, 0, 0), (27, 1, .iload_n 1, 0, 0),
  (28, 1, .aaload, 0, 0), (29, 1, .areturn, 0, 0)]
theorem kX1_parcelAt_ok : fw_chk cX1_parcelAt 2 kX1_parcelAt = true := by decide +kernel
theorem kX1_parcelAt_cst : ∀ en ∈ kX1_parcelAt, fw_CstOK RX1 cst_X1 en := by
  have h : kX1_parcelAt.all (fw_cstq cp_X1) = true := by decide +kernel
  exact fun en he => fw_cstX cp_X1_ok cst_X1_ok (List.all_eq_true.mp h en he)
def kX1_join : List fw_Ent := [
  (0, 1, .aload_n 0, 0, 0), (1, 3, .getfield 32, 0, 0), (4, 1, .istore_n 3, 0, 0), (5, 1, .aload_n 0, 0, 0),
  (6, 1, .dup, 0, 0), (7, 3, .getfield 32, 0, 0), (10, 1, .iconst 1, 1, 0), (11, 1, .iadd, 0, 0),
  (12, 3, .putfield 32, 0, 0), (15, 1, .aload_n 0, 0, 0), (16, 1, .iload_n 3, 0, 0), (17, 3, .invokevirtual 47, 0, 0),
  (20, 2, .astore 4, 0, 0), (22, 2, .aload 4, 0, 0), (24, 3, .ifnull 10, 0, 34), (27, 2, .aload 4, 0, 0),
  (29, 1, .iload_n 1, 0, 0), (30, 1, .iload_n 2, 0, 0), (31, 3, .invokevirtual 62, 0, 0), (34, 1, .iload_n 3, 0, 0),
  (35, 1, .ireturn, 0, 0)]
theorem kX1_join_ok : fw_chk cX1_join 5 kX1_join = true := by decide +kernel
theorem kX1_join_cst : ∀ en ∈ kX1_join, fw_CstOK RX1 cst_X1 en := by
  have h : kX1_join.all (fw_cstq cp_X1) = true := by decide +kernel
  exact fun en he => fw_cstX cp_X1_ok cst_X1_ok (List.all_eq_true.mp h en he)
def kX1_accept : List fw_Ent := [
  (0, 1, .aload_n 0, 0, 0), (1, 3, .getfield 35, 0, 0), (4, 2, .istore 5, 0, 0), (6, 1, .aload_n 0, 0, 0),
  (7, 1, .dup, 0, 0), (8, 3, .getfield 35, 0, 0), (11, 1, .iconst 1, 1, 0), (12, 1, .iadd, 0, 0),
  (13, 3, .putfield 35, 0, 0), (16, 1, .aload_n 0, 0, 0), (17, 2, .iload 5, 0, 0), (19, 3, .invokevirtual 55, 0, 0),
  (22, 2, .astore 6, 0, 0), (24, 2, .aload 6, 0, 0), (26, 3, .ifnull 13, 0, 39), (29, 2, .aload 6, 0, 0),
  (31, 1, .iload_n 1, 0, 0), (32, 1, .iload_n 2, 0, 0), (33, 1, .iload_n 3, 0, 0), (34, 2, .iload 4, 0, 0),
  (36, 3, .invokevirtual 66, 0, 0), (39, 2, .iload 5, 0, 0), (41, 1, .ireturn, 0, 0)]
theorem kX1_accept_ok : fw_chk cX1_accept 7 kX1_accept = true := by decide +kernel
theorem kX1_accept_cst : ∀ en ∈ kX1_accept, fw_CstOK RX1 cst_X1 en := by
  have h : kX1_accept.all (fw_cstq cp_X1) = true := by decide +kernel
  exact fun en he => fw_cstX cp_X1_ok cst_X1_ok (List.all_eq_true.mp h en he)
def kX1_release : List fw_Ent := [
  (0, 1, .aload_n 0, 0, 0), (1, 1, .aload_n 1, 0, 0), (2, 3, .getfield 69, 0, 0), (5, 3, .invokevirtual 55, 0, 0),
  (8, 1, .astore_n 2, 0, 0), (9, 1, .aload_n 2, 0, 0), (10, 3, .ifnull 16, 0, 26), (13, 1, .aload_n 2, 0, 0),
  (14, 3, .getfield 72, 0, 0), (17, 1, .iconst 1, 1, 0), (18, 3, .if_icmp .ne 8, 0, 26), (21, 1, .aload_n 2, 0, 0),
  (22, 1, .iconst 0, 0, 0), (23, 3, .putfield 72, 0, 0), (26, 1, .aload_n 1, 0, 0), (27, 3, .invokevirtual 75, 0, 0),
  (30, 1, .return_, 0, 0)]
theorem kX1_release_ok : fw_chk cX1_release 3 kX1_release = true := by decide +kernel
theorem kX1_release_cst : ∀ en ∈ kX1_release, fw_CstOK RX1 cst_X1 en := by
  have h : kX1_release.all (fw_cstq cp_X1) = true := by decide +kernel
  exact fun en he => fw_cstX cp_X1_ok cst_X1_ok (List.all_eq_true.mp h en he)
def kX1_pass : List fw_Ent := [
  (0, 1, .aload_n 0, 0, 0), (1, 3, .getfield 38, 0, 0), (4, 1, .istore_n 2, 0, 0), (5, 1, .iconst 1, 1, 0),
  (6, 1, .istore_n 3, 0, 0), (7, 1, .iconst 0, 0, 0), (8, 2, .istore 4, 0, 0), (10, 2, .iload 4, 0, 0),
  (12, 1, .iload_n 1, 0, 0), (13, 3, .if_icmp .ge 15, 0, 28), (16, 1, .aload_n 0, 0, 0), (17, 1, .iload_n 3, 0, 0),
  (18, 3, .invokevirtual 84, 0, 0), (21, 1, .istore_n 3, 0, 0), (22, 3, .iinc 4 1, 1, 0), (25, 3, .goto (-15), 0, 10),
  (28, 1, .aload_n 0, 0, 0), (29, 3, .getfield 38, 0, 0), (32, 1, .iload_n 2, 0, 0), (33, 1, .isub, 0, 0),
  (34, 1, .ireturn, 0, 0)]
theorem kX1_pass_ok : fw_chk cX1_pass 5 kX1_pass = true := by decide +kernel
theorem kX1_pass_cst : ∀ en ∈ kX1_pass, fw_CstOK RX1 cst_X1 en := by
  have h : kX1_pass.all (fw_cstq cp_X1) = true := by decide +kernel
  exact fun en he => fw_cstX cp_X1_ok cst_X1_ok (List.all_eq_true.mp h en he)
def kX1_tick : List fw_Ent := [
  (0, 1, .iconst 0, 0, 0), (1, 1, .istore_n 2, 0, 0), (2, 1, .aload_n 0, 0, 0), (3, 1, .dup, 0, 0),
  (4, 3, .getfield 29, 0, 0), (7, 1, .iconst 1, 1, 0), (8, 1, .iadd, 0, 0), (9, 3, .putfield 29, 0, 0),
  (12, 1, .iconst 0, 0, 0), (13, 1, .istore_n 3, 0, 0), (14, 1, .iload_n 1, 0, 0), (15, 3, .ifCond .eq 143, 0, 158),
  (18, 1, .iload_n 3, 0, 0), (19, 1, .aload_n 0, 0, 0), (20, 3, .getfield 32, 0, 0), (23, 3, .if_icmp .ge 135, 0, 158),
  (26, 1, .aload_n 0, 0, 0), (27, 1, .iload_n 3, 0, 0), (28, 3, .invokevirtual 47, 0, 0), (31, 2, .astore 4, 0, 0),
  (33, 2, .aload 4, 0, 0), (35, 3, .ifnull 117, 0, 152), (38, 2, .aload 4, 0, 0), (40, 3, .getfield 92, 0, 0),
  (43, 3, .ifCond .ne 7, 0, 50), (46, 1, .iconst 1, 1, 0), (47, 3, .goto 4, 0, 51), (50, 1, .iconst 0, 0, 0),
  (51, 2, .istore 5, 0, 0), (53, 1, .aload_n 0, 0, 0), (54, 2, .aload 4, 0, 0), (56, 3, .getfield 69, 0, 0),
  (59, 3, .invokevirtual 55, 0, 0), (62, 2, .astore 6, 0, 0), (64, 2, .aload 6, 0, 0), (66, 3, .ifnull 24, 0, 90),
  (69, 2, .aload 4, 0, 0), (71, 3, .getfield 92, 0, 0), (74, 1, .iconst 2, 2, 0), (75, 3, .if_icmp .ne 15, 0, 90),
  (78, 1, .aload_n 0, 0, 0), (79, 2, .aload 4, 0, 0), (81, 1, .iload_n 3, 0, 0), (82, 2, .aload 6, 0, 0),
  (84, 3, .invokevirtual 95, 0, 0), (87, 3, .goto 42, 0, 129), (90, 2, .aload 6, 0, 0), (92, 3, .ifnull 31, 0, 123),
  (95, 2, .aload 4, 0, 0), (97, 3, .getfield 92, 0, 0), (100, 1, .iconst 1, 1, 0), (101, 3, .if_icmp .ne 22, 0, 123),
  (104, 2, .aload 6, 0, 0), (106, 3, .getfield 72, 0, 0), (109, 3, .ifCond .ne 14, 0, 123), (112, 1, .aload_n 0, 0, 0),
  (113, 2, .aload 4, 0, 0), (115, 2, .aload 6, 0, 0), (117, 3, .invokevirtual 99, 0, 0), (120, 3, .goto 9, 0, 129),
  (123, 1, .aload_n 0, 0, 0), (124, 2, .aload 4, 0, 0), (126, 3, .invokevirtual 103, 0, 0), (129, 1, .iload_n 2, 0, 0),
  (130, 3, .ifCond .ne 16, 0, 146), (133, 2, .iload 5, 0, 0), (135, 3, .ifCond .eq 11, 0, 146), (138, 2, .aload 4, 0, 0),
  (140, 3, .getfield 92, 0, 0), (143, 3, .ifCond .eq 7, 0, 150), (146, 1, .iconst 1, 1, 0), (147, 3, .goto 4, 0, 151),
  (150, 1, .iconst 0, 0, 0), (151, 1, .istore_n 2, 0, 0), (152, 3, .iinc 3 1, 1, 0), (155, 3, .goto (-141), 0, 14),
  (158, 1, .aload_n 0, 0, 0), (159, 3, .invokevirtual 106, 0, 0), (162, 1, .iload_n 2, 0, 0), (163, 1, .ireturn, 0, 0)]
theorem kX1_tick_ok : fw_chk cX1_tick 7 kX1_tick = true := by decide +kernel
theorem kX1_tick_cst : ∀ en ∈ kX1_tick, fw_CstOK RX1 cst_X1 en := by
  have h : kX1_tick.all (fw_cstq cp_X1) = true := by decide +kernel
  exact fun en he => fw_cstX cp_X1_ok cst_X1_ok (List.all_eq_true.mp h en he)
def kX1_carry : List fw_Ent := [
  (0, 1, .aload_n 1, 0, 0), (1, 3, .getfield 109, 0, 0), (4, 1, .aload_n 3, 0, 0), (5, 3, .getfield 112, 0, 0),
  (8, 3, .invokestatic 115, 0, 0), (11, 2, .istore 4, 0, 0), (13, 1, .aload_n 1, 0, 0), (14, 3, .getfield 78, 0, 0),
  (17, 2, .iload 4, 0, 0), (19, 3, .invokestatic 119, 0, 0), (22, 3, .ifCond .ne 23, 0, 45), (25, 1, .aload_n 3, 0, 0),
  (26, 1, .iconst 0, 0, 0), (27, 3, .putfield 72, 0, 0), (30, 1, .aload_n 0, 0, 0), (31, 1, .dup, 0, 0),
  (32, 3, .getfield 41, 0, 0), (35, 1, .iconst 1, 1, 0), (36, 1, .iadd, 0, 0), (37, 3, .putfield 41, 0, 0),
  (40, 1, .aload_n 1, 0, 0), (41, 3, .invokevirtual 75, 0, 0), (44, 1, .return_, 0, 0), (45, 1, .aload_n 1, 0, 0),
  (46, 2, .iload 4, 0, 0), (48, 3, .putfield 109, 0, 0), (51, 1, .aload_n 0, 0, 0), (52, 1, .dup, 0, 0),
  (53, 3, .getfield 44, 0, 0), (56, 1, .iconst 1, 1, 0), (57, 1, .iadd, 0, 0), (58, 3, .putfield 44, 0, 0),
  (61, 1, .aload_n 3, 0, 0), (62, 2, .iload 4, 0, 0), (64, 3, .putfield 123, 0, 0), (67, 1, .aload_n 3, 0, 0),
  (68, 1, .iload_n 2, 0, 0), (69, 3, .invokevirtual 124, 0, 0), (72, 2, .iload 4, 0, 0), (74, 1, .aload_n 3, 0, 0),
  (75, 3, .getfield 112, 0, 0), (78, 3, .if_icmp .ne 12, 0, 90), (81, 1, .aload_n 0, 0, 0), (82, 1, .aload_n 3, 0, 0),
  (83, 3, .invokevirtual 128, 0, 0), (86, 1, .aload_n 1, 0, 0), (87, 3, .invokevirtual 75, 0, 0), (90, 1, .return_, 0, 0)]
theorem kX1_carry_ok : fw_chk cX1_carry 5 kX1_carry = true := by decide +kernel
theorem kX1_carry_cst : ∀ en ∈ kX1_carry, fw_CstOK RX1 cst_X1 en := by
  have h : kX1_carry.all (fw_cstq cp_X1) = true := by decide +kernel
  exact fun en he => fw_cstX cp_X1_ok cst_X1_ok (List.all_eq_true.mp h en he)
def kX1_deliver : List fw_Ent := [
  (0, 1, .aload_n 1, 0, 0), (1, 1, .iconst 2, 2, 0), (2, 3, .putfield 72, 0, 0), (5, 1, .aload_n 1, 0, 0),
  (6, 1, .aload_n 0, 0, 0), (7, 3, .getfield 29, 0, 0), (10, 3, .putfield 131, 0, 0), (13, 1, .aload_n 1, 0, 0),
  (14, 1, .aload_n 0, 0, 0), (15, 3, .getfield 29, 0, 0), (18, 1, .aload_n 1, 0, 0), (19, 3, .getfield 134, 0, 0),
  (22, 3, .if_icmp .gt 10, 0, 32), (25, 1, .aload_n 1, 0, 0), (26, 3, .getfield 137, 0, 0), (29, 3, .goto 9, 0, 38),
  (32, 1, .aload_n 1, 0, 0), (33, 3, .getfield 137, 0, 0), (36, 1, .iconst 2, 2, 0), (37, 1, .idiv, 0, 0),
  (38, 3, .putfield 140, 0, 0), (41, 1, .aload_n 0, 0, 0), (42, 1, .dup, 0, 0), (43, 3, .getfield 38, 0, 0),
  (46, 1, .aload_n 1, 0, 0), (47, 3, .getfield 140, 0, 0), (50, 1, .iadd, 0, 0), (51, 3, .putfield 38, 0, 0),
  (54, 1, .aload_n 1, 0, 0), (55, 3, .invokevirtual 141, 0, 0), (58, 1, .iconst 0, 0, 0), (59, 1, .istore_n 2, 0, 0),
  (60, 1, .iload_n 2, 0, 0), (61, 1, .aload_n 0, 0, 0), (62, 3, .getfield 32, 0, 0), (65, 3, .if_icmp .ge 33, 0, 98),
  (68, 1, .aload_n 0, 0, 0), (69, 1, .iload_n 2, 0, 0), (70, 3, .invokevirtual 47, 0, 0), (73, 1, .astore_n 3, 0, 0),
  (74, 1, .aload_n 3, 0, 0), (75, 3, .ifnull 17, 0, 92), (78, 1, .aload_n 3, 0, 0), (79, 1, .dup, 0, 0),
  (80, 3, .getfield 144, 0, 0), (83, 1, .aload_n 1, 0, 0), (84, 1, .iload_n 2, 0, 0), (85, 3, .invokevirtual 147, 0, 0),
  (88, 1, .iadd, 0, 0), (89, 3, .putfield 144, 0, 0), (92, 3, .iinc 2 1, 1, 0), (95, 3, .goto (-35), 0, 60),
  (98, 1, .return_, 0, 0)]
theorem kX1_deliver_ok : fw_chk cX1_deliver 4 kX1_deliver = true := by decide +kernel
theorem kX1_deliver_cst : ∀ en ∈ kX1_deliver, fw_CstOK RX1 cst_X1 en := by
  have h : kX1_deliver.all (fw_cstq cp_X1) = true := by decide +kernel
  exact fun en he => fw_cstX cp_X1_ok cst_X1_ok (List.all_eq_true.mp h en he)
def kX1_approach : List fw_Ent := [
  (0, 1, .aload_n 1, 0, 0), (1, 3, .getfield 109, 0, 0), (4, 1, .aload_n 2, 0, 0), (5, 3, .getfield 123, 0, 0),
  (8, 3, .if_icmp .ne 16, 0, 24), (11, 1, .aload_n 1, 0, 0), (12, 1, .iconst 2, 2, 0), (13, 3, .putfield 92, 0, 0),
  (16, 1, .aload_n 2, 0, 0), (17, 1, .iconst 1, 1, 0), (18, 3, .putfield 72, 0, 0), (21, 3, .goto 28, 0, 49),
  (24, 1, .aload_n 1, 0, 0), (25, 1, .aload_n 1, 0, 0), (26, 3, .getfield 109, 0, 0), (29, 1, .aload_n 2, 0, 0),
  (30, 3, .getfield 123, 0, 0), (33, 3, .invokestatic 115, 0, 0), (36, 3, .putfield 109, 0, 0), (39, 1, .aload_n 0, 0, 0),
  (40, 1, .dup, 0, 0), (41, 3, .getfield 44, 0, 0), (44, 1, .iconst 1, 1, 0), (45, 1, .iadd, 0, 0),
  (46, 3, .putfield 44, 0, 0), (49, 1, .return_, 0, 0)]
theorem kX1_approach_ok : fw_chk cX1_approach 3 kX1_approach = true := by decide +kernel
theorem kX1_approach_cst : ∀ en ∈ kX1_approach, fw_CstOK RX1 cst_X1 en := by
  have h : kX1_approach.all (fw_cstq cp_X1) = true := by decide +kernel
  exact fun en he => fw_cstX cp_X1_ok cst_X1_ok (List.all_eq_true.mp h en he)
def kX1_choose : List fw_Ent := [
  (0, 1, .aload_n 1, 0, 0), (1, 3, .invokevirtual 75, 0, 0), (4, 1, .iconst (-1), (-1), 0), (5, 1, .istore_n 2, 0, 0),
  (6, 3, .sipush 1000, 1000, 0), (9, 1, .istore_n 3, 0, 0), (10, 1, .iconst 0, 0, 0), (11, 2, .istore 4, 0, 0),
  (13, 2, .iload 4, 0, 0), (15, 1, .aload_n 0, 0, 0), (16, 3, .getfield 35, 0, 0), (19, 3, .if_icmp .ge 69, 0, 88),
  (22, 1, .aload_n 0, 0, 0), (23, 2, .iload 4, 0, 0), (25, 3, .invokevirtual 55, 0, 0), (28, 2, .astore 5, 0, 0),
  (30, 2, .aload 5, 0, 0), (32, 3, .ifnull 50, 0, 82), (35, 2, .aload 5, 0, 0), (37, 3, .getfield 72, 0, 0),
  (40, 3, .ifCond .ne 42, 0, 82), (43, 2, .aload 5, 0, 0), (45, 3, .getfield 134, 0, 0), (48, 1, .iload_n 3, 0, 0),
  (49, 3, .if_icmp .ge 33, 0, 82), (52, 2, .aload 5, 0, 0), (54, 1, .aload_n 1, 0, 0), (55, 3, .getfield 78, 0, 0),
  (58, 3, .invokevirtual 150, 0, 0), (61, 3, .ifCond .eq 21, 0, 82), (64, 1, .aload_n 0, 0, 0), (65, 2, .iload 4, 0, 0),
  (67, 3, .invokevirtual 154, 0, 0), (70, 3, .ifCond .ne 12, 0, 82), (73, 2, .iload 4, 0, 0), (75, 1, .istore_n 2, 0, 0),
  (76, 2, .aload 5, 0, 0), (78, 3, .getfield 134, 0, 0), (81, 1, .istore_n 3, 0, 0), (82, 3, .iinc 4 1, 1, 0),
  (85, 3, .goto (-72), 0, 13), (88, 1, .iload_n 2, 0, 0), (89, 1, .iconst (-1), (-1), 0), (90, 3, .if_icmp .eq 13, 0, 103),
  (93, 1, .aload_n 1, 0, 0), (94, 1, .iconst 1, 1, 0), (95, 3, .putfield 92, 0, 0), (98, 1, .aload_n 1, 0, 0),
  (99, 1, .iload_n 2, 0, 0), (100, 3, .putfield 69, 0, 0), (103, 1, .return_, 0, 0)]
theorem kX1_choose_ok : fw_chk cX1_choose 6 kX1_choose = true := by decide +kernel
theorem kX1_choose_cst : ∀ en ∈ kX1_choose, fw_CstOK RX1 cst_X1 en := by
  have h : kX1_choose.all (fw_cstq cp_X1) = true := by decide +kernel
  exact fun en he => fw_cstX cp_X1_ok cst_X1_ok (List.all_eq_true.mp h en he)
def kX1_isSought : List fw_Ent := [
  (0, 1, .iconst 0, 0, 0), (1, 1, .istore_n 2, 0, 0), (2, 1, .iload_n 2, 0, 0), (3, 1, .aload_n 0, 0, 0),
  (4, 3, .getfield 32, 0, 0), (7, 3, .if_icmp .ge 29, 0, 36), (10, 1, .aload_n 0, 0, 0), (11, 1, .iload_n 2, 0, 0),
  (12, 3, .invokevirtual 47, 0, 0), (15, 1, .astore_n 3, 0, 0), (16, 1, .aload_n 3, 0, 0), (17, 3, .ifnull 13, 0, 30),
  (20, 1, .aload_n 3, 0, 0), (21, 3, .getfield 69, 0, 0), (24, 1, .iload_n 1, 0, 0), (25, 3, .if_icmp .ne 5, 0, 30),
  (28, 1, .iconst 1, 1, 0), (29, 1, .ireturn, 0, 0), (30, 3, .iinc 2 1, 1, 0), (33, 3, .goto (-31), 0, 2),
  (36, 1, .iconst 0, 0, 0), (37, 1, .ireturn, 0, 0)]
theorem kX1_isSought_ok : fw_chk cX1_isSought 4 kX1_isSought = true := by decide +kernel
theorem kX1_isSought_cst : ∀ en ∈ kX1_isSought, fw_CstOK RX1 cst_X1 en := by
  have h : kX1_isSought.all (fw_cstq cp_X1) = true := by decide +kernel
  exact fun en he => fw_cstX cp_X1_ok cst_X1_ok (List.all_eq_true.mp h en he)
def kX1_failLateParcels : List fw_Ent := [
  (0, 1, .iconst 0, 0, 0), (1, 1, .istore_n 1, 0, 0), (2, 1, .iload_n 1, 0, 0), (3, 1, .aload_n 0, 0, 0),
  (4, 3, .getfield 35, 0, 0), (7, 3, .if_icmp .ge 52, 0, 59), (10, 1, .aload_n 0, 0, 0), (11, 1, .iload_n 1, 0, 0),
  (12, 3, .invokevirtual 55, 0, 0), (15, 1, .astore_n 2, 0, 0), (16, 1, .aload_n 2, 0, 0), (17, 3, .ifnull 36, 0, 53),
  (20, 1, .aload_n 2, 0, 0), (21, 3, .invokevirtual 157, 0, 0), (24, 3, .ifCond .eq 29, 0, 53), (27, 1, .aload_n 2, 0, 0),
  (28, 3, .getfield 134, 0, 0), (31, 1, .aload_n 0, 0, 0), (32, 3, .getfield 23, 0, 0), (35, 1, .iadd, 0, 0),
  (36, 1, .aload_n 0, 0, 0), (37, 3, .getfield 29, 0, 0), (40, 3, .if_icmp .ge 13, 0, 53), (43, 1, .aload_n 2, 0, 0),
  (44, 1, .iconst 3, 3, 0), (45, 3, .putfield 72, 0, 0), (48, 1, .aload_n 0, 0, 0), (49, 1, .iload_n 1, 0, 0),
  (50, 3, .invokevirtual 161, 0, 0), (53, 3, .iinc 1 1, 1, 0), (56, 3, .goto (-54), 0, 2), (59, 1, .return_, 0, 0)]
theorem kX1_failLateParcels_ok : fw_chk cX1_failLateParcels 3 kX1_failLateParcels = true := by decide +kernel
theorem kX1_failLateParcels_cst : ∀ en ∈ kX1_failLateParcels, fw_CstOK RX1 cst_X1 en := by
  have h : kX1_failLateParcels.all (fw_cstq cp_X1) = true := by decide +kernel
  exact fun en he => fw_cstX cp_X1_ok cst_X1_ok (List.all_eq_true.mp h en he)
def kX1_freeCouriersOf : List fw_Ent := [
  (0, 1, .iconst 0, 0, 0), (1, 1, .istore_n 2, 0, 0), (2, 1, .iload_n 2, 0, 0), (3, 1, .aload_n 0, 0, 0),
  (4, 3, .getfield 32, 0, 0), (7, 3, .if_icmp .ge 31, 0, 38), (10, 1, .aload_n 0, 0, 0), (11, 1, .iload_n 2, 0, 0),
  (12, 3, .invokevirtual 47, 0, 0), (15, 1, .astore_n 3, 0, 0), (16, 1, .aload_n 3, 0, 0), (17, 3, .ifnull 15, 0, 32),
  (20, 1, .aload_n 3, 0, 0), (21, 3, .getfield 69, 0, 0), (24, 1, .iload_n 1, 0, 0), (25, 3, .if_icmp .ne 7, 0, 32),
  (28, 1, .aload_n 3, 0, 0), (29, 3, .invokevirtual 75, 0, 0), (32, 3, .iinc 2 1, 1, 0), (35, 3, .goto (-33), 0, 2),
  (38, 1, .return_, 0, 0)]
theorem kX1_freeCouriersOf_ok : fw_chk cX1_freeCouriersOf 4 kX1_freeCouriersOf = true := by decide +kernel
theorem kX1_freeCouriersOf_cst : ∀ en ∈ kX1_freeCouriersOf, fw_CstOK RX1 cst_X1 en := by
  have h : kX1_freeCouriersOf.all (fw_cstq cp_X1) = true := by decide +kernel
  exact fun en he => fw_cstX cp_X1_ok cst_X1_ok (List.all_eq_true.mp h en he)
def kX1_parcelsIn : List fw_Ent := [
  (0, 1, .iconst 0, 0, 0), (1, 1, .istore_n 2, 0, 0), (2, 1, .iconst 0, 0, 0), (3, 1, .istore_n 3, 0, 0),
  (4, 1, .iload_n 3, 0, 0), (5, 1, .aload_n 0, 0, 0), (6, 3, .getfield 35, 0, 0), (9, 3, .if_icmp .ge 33, 0, 42),
  (12, 1, .aload_n 0, 0, 0), (13, 1, .iload_n 3, 0, 0), (14, 3, .invokevirtual 55, 0, 0), (17, 2, .astore 4, 0, 0),
  (19, 2, .aload 4, 0, 0), (21, 3, .ifnull 15, 0, 36), (24, 2, .aload 4, 0, 0), (26, 3, .getfield 72, 0, 0),
  (29, 1, .iload_n 1, 0, 0), (30, 3, .if_icmp .ne 6, 0, 36), (33, 3, .iinc 2 1, 1, 0), (36, 3, .iinc 3 1, 1, 0),
  (39, 3, .goto (-35), 0, 4), (42, 1, .iload_n 2, 0, 0), (43, 1, .ireturn, 0, 0)]
theorem kX1_parcelsIn_ok : fw_chk cX1_parcelsIn 5 kX1_parcelsIn = true := by decide +kernel
theorem kX1_parcelsIn_cst : ∀ en ∈ kX1_parcelsIn, fw_CstOK RX1 cst_X1 en := by
  have h : kX1_parcelsIn.all (fw_cstq cp_X1) = true := by decide +kernel
  exact fun en he => fw_cstX cp_X1_ok cst_X1_ok (List.all_eq_true.mp h en he)
def kX1_legsBy : List fw_Ent := [
  (0, 1, .iconst 0, 0, 0), (1, 1, .istore_n 2, 0, 0), (2, 1, .iconst 0, 0, 0), (3, 1, .istore_n 3, 0, 0),
  (4, 1, .iload_n 3, 0, 0), (5, 1, .aload_n 0, 0, 0), (6, 3, .getfield 35, 0, 0), (9, 3, .if_icmp .ge 30, 0, 39),
  (12, 1, .aload_n 0, 0, 0), (13, 1, .iload_n 3, 0, 0), (14, 3, .invokevirtual 55, 0, 0), (17, 2, .astore 4, 0, 0),
  (19, 2, .aload 4, 0, 0), (21, 3, .ifnull 12, 0, 33), (24, 1, .iload_n 2, 0, 0), (25, 2, .aload 4, 0, 0),
  (27, 1, .iload_n 1, 0, 0), (28, 3, .invokevirtual 167, 0, 0), (31, 1, .iadd, 0, 0), (32, 1, .istore_n 2, 0, 0),
  (33, 3, .iinc 3 1, 1, 0), (36, 3, .goto (-32), 0, 4), (39, 1, .iload_n 2, 0, 0), (40, 1, .ireturn, 0, 0)]
theorem kX1_legsBy_ok : fw_chk cX1_legsBy 5 kX1_legsBy = true := by decide +kernel
theorem kX1_legsBy_cst : ∀ en ∈ kX1_legsBy, fw_CstOK RX1 cst_X1 en := by
  have h : kX1_legsBy.all (fw_cstq cp_X1) = true := by decide +kernel
  exact fun en he => fw_cstX cp_X1_ok cst_X1_ok (List.all_eq_true.mp h en he)
def kX1_figure : List fw_Ent := [
  (0, 1, .iload_n 1, 0, 0), (1, 59, .tableswitch 94 0 10 #[59, 64, 69, 74, 94, 94, 94, 94, 79, 84, 89], 0, 0), (60, 1, .aload_n 0, 0, 0), (61, 3, .getfield 29, 0, 0),
  (64, 1, .ireturn, 0, 0), (65, 1, .aload_n 0, 0, 0), (66, 3, .getfield 32, 0, 0), (69, 1, .ireturn, 0, 0),
  (70, 1, .aload_n 0, 0, 0), (71, 3, .getfield 35, 0, 0), (74, 1, .ireturn, 0, 0), (75, 1, .aload_n 0, 0, 0),
  (76, 3, .getfield 23, 0, 0), (79, 1, .ireturn, 0, 0), (80, 1, .aload_n 0, 0, 0), (81, 3, .getfield 38, 0, 0),
  (84, 1, .ireturn, 0, 0), (85, 1, .aload_n 0, 0, 0), (86, 3, .getfield 41, 0, 0), (89, 1, .ireturn, 0, 0),
  (90, 1, .aload_n 0, 0, 0), (91, 3, .getfield 44, 0, 0), (94, 1, .ireturn, 0, 0), (95, 1, .aload_n 0, 0, 0),
  (96, 1, .iload_n 1, 0, 0), (97, 1, .iconst 4, 4, 0), (98, 1, .isub, 0, 0), (99, 3, .invokevirtual 88, 0, 0),
  (102, 1, .ireturn, 0, 0)]
theorem kX1_figure_ok : fw_chk cX1_figure 2 kX1_figure = true := by decide +kernel
theorem kX1_figure_cst : ∀ en ∈ kX1_figure, fw_CstOK RX1 cst_X1 en := by
  have h : kX1_figure.all (fw_cstq cp_X1) = true := by decide +kernel
  exact fun en he => fw_cstX cp_X1_ok cst_X1_ok (List.all_eq_true.mp h en he)
def kX1_courierFigure : List fw_Ent := [
  (0, 1, .iload_n 3, 0, 0), (1, 35, .tableswitch 60 0 4 #[35, 40, 45, 50, 55], 0, 0), (36, 1, .aload_n 1, 0, 0), (37, 3, .getfield 78, 0, 0),
  (40, 1, .ireturn, 0, 0), (41, 1, .aload_n 1, 0, 0), (42, 3, .getfield 109, 0, 0), (45, 1, .ireturn, 0, 0),
  (46, 1, .aload_n 1, 0, 0), (47, 3, .getfield 144, 0, 0), (50, 1, .ireturn, 0, 0), (51, 1, .aload_n 1, 0, 0),
  (52, 3, .getfield 92, 0, 0), (55, 1, .ireturn, 0, 0), (56, 1, .aload_n 1, 0, 0), (57, 3, .getfield 69, 0, 0),
  (60, 1, .ireturn, 0, 0), (61, 1, .aload_n 0, 0, 0), (62, 1, .iload_n 2, 0, 0), (63, 3, .invokevirtual 170, 0, 0),
  (66, 1, .ireturn, 0, 0)]
theorem kX1_courierFigure_ok : fw_chk cX1_courierFigure 4 kX1_courierFigure = true := by decide +kernel
theorem kX1_courierFigure_cst : ∀ en ∈ kX1_courierFigure, fw_CstOK RX1 cst_X1 en := by
  have h : kX1_courierFigure.all (fw_cstq cp_X1) = true := by decide +kernel
  exact fun en he => fw_cstX cp_X1_ok cst_X1_ok (List.all_eq_true.mp h en he)
def kX2_stateAt : List fw_Ent := [
  (0, 1, .aload_n 0, 0, 0), (1, 3, .getfield 18, 0, 0), (4, 1, .iload_n 1, 0, 0), (5, 1, .iadd, 0, 0),
  (6, 1, .iconst 4, 4, 0), (7, 1, .irem, 0, 0), (8, 1, .istore_n 2, 0, 0), (9, 1, .iload_n 2, 0, 0),
  (10, 3, .ifCond .lt 12, 0, 22), (13, 1, .iload_n 2, 0, 0), (14, 1, .aload_n 0, 0, 0), (15, 3, .getfield 11, 0, 0),
  (18, 1, .arraylength, 0, 0), (19, 3, .if_icmp .lt 5, 0, 24), (22, 1, .aconst_null, 0, 0), (23, 1, .areturn, 0, 0),
  (24, 1, .aload_n 0, 0, 0), (25, 3, .getfield 11, 0, 0), (28, 1, .iload_n 2, 0, 0), (29, 1, .aaload, 0, 0),
  (30, 1, .areturn, 0, 0)]
theorem kX2_stateAt_ok : fw_chk cX2_stateAt 3 kX2_stateAt = true := by decide +kernel
theorem kX2_stateAt_cst : ∀ en ∈ kX2_stateAt, fw_CstOK RX2 cst_X2 en := by
  have h : kX2_stateAt.all (fw_cstq cp_X2) = true := by decide +kernel
  exact fun en he => fw_cstX cp_X2_ok cst_X2_ok (List.all_eq_true.mp h en he)
def kX2_save : List fw_Ent := [
  (0, 1, .aload_n 0, 0, 0), (1, 3, .getfield 22, 0, 0), (4, 1, .iconst 4, 4, 0), (5, 3, .if_icmp .lt 25, 0, 30),
  (8, 1, .aload_n 0, 0, 0), (9, 1, .aload_n 0, 0, 0), (10, 3, .getfield 18, 0, 0), (13, 1, .iconst 1, 1, 0),
  (14, 1, .iadd, 0, 0), (15, 1, .iconst 4, 4, 0), (16, 1, .irem, 0, 0), (17, 3, .putfield 18, 0, 0),
  (20, 1, .aload_n 0, 0, 0), (21, 1, .dup, 0, 0), (22, 3, .getfield 22, 0, 0), (25, 1, .iconst 1, 1, 0),
  (26, 1, .isub, 0, 0), (27, 3, .putfield 22, 0, 0), (30, 1, .aload_n 0, 0, 0), (31, 1, .aload_n 0, 0, 0),
  (32, 3, .getfield 22, 0, 0), (35, 3, .invokevirtual 25, 0, 0), (38, 1, .astore_n 2, 0, 0), (39, 1, .aload_n 2, 0, 0),
  (40, 3, .ifnull 8, 0, 48), (43, 1, .aload_n 2, 0, 0), (44, 1, .aload_n 1, 0, 0), (45, 3, .invokevirtual 29, 0, 0),
  (48, 1, .aload_n 0, 0, 0), (49, 1, .dup, 0, 0), (50, 3, .getfield 22, 0, 0), (53, 1, .iconst 1, 1, 0),
  (54, 1, .iadd, 0, 0), (55, 3, .putfield 22, 0, 0), (58, 1, .return_, 0, 0)]
theorem kX2_save_ok : fw_chk cX2_save 3 kX2_save = true := by decide +kernel
theorem kX2_save_cst : ∀ en ∈ kX2_save, fw_CstOK RX2 cst_X2 en := by
  have h : kX2_save.all (fw_cstq cp_X2) = true := by decide +kernel
  exact fun en he => fw_cstX cp_X2_ok cst_X2_ok (List.all_eq_true.mp h en he)
def kX3_begin : List fw_Ent := [
  (0, 1, .aload_n 0, 0, 0), (1, 1, .iload_n 1, 0, 0), (2, 3, .putfield 18, 0, 0), (5, 1, .aload_n 0, 0, 0),
  (6, 1, .iload_n 2, 0, 0), (7, 3, .putfield 22, 0, 0), (10, 1, .aload_n 0, 0, 0), (11, 1, .iload_n 3, 0, 0),
  (12, 3, .putfield 25, 0, 0), (15, 1, .aload_n 0, 0, 0), (16, 2, .iload 4, 0, 0), (18, 3, .putfield 28, 0, 0),
  (21, 1, .aload_n 0, 0, 0), (22, 1, .iconst 0, 0, 0), (23, 3, .putfield 31, 0, 0), (26, 1, .aload_n 0, 0, 0),
  (27, 1, .iload_n 1, 0, 0), (28, 3, .putfield 34, 0, 0), (31, 1, .aload_n 0, 0, 0), (32, 1, .iconst (-1), (-1), 0),
  (33, 3, .putfield 37, 0, 0), (36, 1, .aload_n 0, 0, 0), (37, 1, .iconst 0, 0, 0), (38, 3, .putfield 40, 0, 0),
  (41, 1, .iconst 0, 0, 0), (42, 2, .istore 5, 0, 0), (44, 2, .iload 5, 0, 0), (46, 1, .aload_n 0, 0, 0),
  (47, 3, .getfield 9, 0, 0), (50, 1, .arraylength, 0, 0), (51, 3, .if_icmp .ge 17, 0, 68), (54, 1, .aload_n 0, 0, 0),
  (55, 3, .getfield 9, 0, 0), (58, 2, .iload 5, 0, 0), (60, 1, .iconst 0, 0, 0), (61, 1, .iastore, 0, 0),
  (62, 3, .iinc 5 1, 1, 0), (65, 3, .goto (-21), 0, 44), (68, 1, .iconst 0, 0, 0), (69, 2, .istore 5, 0, 0),
  (71, 2, .iload 5, 0, 0), (73, 1, .aload_n 0, 0, 0), (74, 3, .getfield 15, 0, 0), (77, 1, .arraylength, 0, 0),
  (78, 3, .if_icmp .ge 17, 0, 95), (81, 1, .aload_n 0, 0, 0), (82, 3, .getfield 15, 0, 0), (85, 2, .iload 5, 0, 0),
  (87, 1, .iconst 0, 0, 0), (88, 1, .iastore, 0, 0), (89, 3, .iinc 5 1, 1, 0), (92, 3, .goto (-21), 0, 71),
  (95, 1, .return_, 0, 0)]
theorem kX3_begin_ok : fw_chk cX3_begin 6 kX3_begin = true := by decide +kernel
theorem kX3_begin_cst : ∀ en ∈ kX3_begin, fw_CstOK RX3 cst_X3 en := by
  have h : kX3_begin.all (fw_cstq cp_X3) = true := by decide +kernel
  exact fun en he => fw_cstX cp_X3_ok cst_X3_ok (List.all_eq_true.mp h en he)
def kX3_become : List fw_Ent := [
  (0, 1, .aload_n 0, 0, 0), (1, 1, .aload_n 1, 0, 0), (2, 3, .getfield 18, 0, 0), (5, 3, .putfield 18, 0, 0),
  (8, 1, .aload_n 0, 0, 0), (9, 1, .aload_n 1, 0, 0), (10, 3, .getfield 22, 0, 0), (13, 3, .putfield 22, 0, 0),
  (16, 1, .aload_n 0, 0, 0), (17, 1, .aload_n 1, 0, 0), (18, 3, .getfield 25, 0, 0), (21, 3, .putfield 25, 0, 0),
  (24, 1, .aload_n 0, 0, 0), (25, 1, .aload_n 1, 0, 0), (26, 3, .getfield 28, 0, 0), (29, 3, .putfield 28, 0, 0),
  (32, 1, .aload_n 0, 0, 0), (33, 1, .aload_n 1, 0, 0), (34, 3, .getfield 31, 0, 0), (37, 3, .putfield 31, 0, 0),
  (40, 1, .aload_n 0, 0, 0), (41, 1, .aload_n 1, 0, 0), (42, 3, .getfield 34, 0, 0), (45, 3, .putfield 34, 0, 0),
  (48, 1, .aload_n 0, 0, 0), (49, 1, .aload_n 1, 0, 0), (50, 3, .getfield 37, 0, 0), (53, 3, .putfield 37, 0, 0),
  (56, 1, .aload_n 0, 0, 0), (57, 1, .aload_n 1, 0, 0), (58, 3, .getfield 40, 0, 0), (61, 3, .putfield 40, 0, 0),
  (64, 1, .aload_n 1, 0, 0), (65, 3, .getfield 9, 0, 0), (68, 1, .aload_n 0, 0, 0), (69, 3, .getfield 9, 0, 0),
  (72, 3, .invokestatic 43, 0, 0), (75, 1, .aload_n 1, 0, 0), (76, 3, .getfield 15, 0, 0), (79, 1, .aload_n 0, 0, 0),
  (80, 3, .getfield 15, 0, 0), (83, 3, .invokestatic 43, 0, 0), (86, 1, .return_, 0, 0)]
theorem kX3_become_ok : fw_chk cX3_become 2 kX3_become = true := by decide +kernel
theorem kX3_become_cst : ∀ en ∈ kX3_become, fw_CstOK RX3 cst_X3 en := by
  have h : kX3_become.all (fw_cstq cp_X3) = true := by decide +kernel
  exact fun en he => fw_cstX cp_X3_ok cst_X3_ok (List.all_eq_true.mp h en he)
def kX3_isOpen : List fw_Ent := [
  (0, 1, .aload_n 0, 0, 0), (1, 3, .getfield 31, 0, 0), (4, 3, .ifCond .eq 11, 0, 15), (7, 1, .aload_n 0, 0, 0),
  (8, 3, .getfield 31, 0, 0), (11, 1, .iconst 1, 1, 0), (12, 3, .if_icmp .ne 7, 0, 19), (15, 1, .iconst 1, 1, 0),
  (16, 3, .goto 4, 0, 20), (19, 1, .iconst 0, 0, 0), (20, 1, .ireturn, 0, 0)]
theorem kX3_isOpen_ok : fw_chk cX3_isOpen 1 kX3_isOpen = true := by decide +kernel
theorem kX3_isOpen_cst : ∀ en ∈ kX3_isOpen, fw_CstOK RX3 cst_X3 en := by
  have h : kX3_isOpen.all (fw_cstq cp_X3) = true := by decide +kernel
  exact fun en he => fw_cstX cp_X3_ok cst_X3_ok (List.all_eq_true.mp h en he)
def kX3_suits : List fw_Ent := [
  (0, 1, .iload_n 1, 0, 0), (1, 1, .aload_n 0, 0, 0), (2, 3, .getfield 34, 0, 0), (5, 3, .invokestatic 47, 0, 0),
  (8, 3, .ifCond .eq 25, 0, 33), (11, 1, .iload_n 1, 0, 0), (12, 1, .aload_n 0, 0, 0), (13, 3, .getfield 34, 0, 0),
  (16, 1, .aload_n 0, 0, 0), (17, 3, .getfield 22, 0, 0), (20, 3, .invokestatic 51, 0, 0), (23, 3, .invokestatic 47, 0, 0),
  (26, 3, .ifCond .eq 7, 0, 33), (29, 1, .iconst 1, 1, 0), (30, 3, .goto 4, 0, 34), (33, 1, .iconst 0, 0, 0),
  (34, 1, .ireturn, 0, 0)]
theorem kX3_suits_ok : fw_chk cX3_suits 2 kX3_suits = true := by decide +kernel
theorem kX3_suits_cst : ∀ en ∈ kX3_suits, fw_CstOK RX3 cst_X3 en := by
  have h : kX3_suits.all (fw_cstq cp_X3) = true := by decide +kernel
  exact fun en he => fw_cstX cp_X3_ok cst_X3_ok (List.all_eq_true.mp h en he)
def kX3_legsOf : List fw_Ent := [
  (0, 1, .aload_n 0, 0, 0), (1, 3, .getfield 9, 0, 0), (4, 1, .iload_n 1, 0, 0), (5, 3, .invokestatic 55, 0, 0),
  (8, 1, .ireturn, 0, 0)]
theorem kX3_legsOf_ok : fw_chk cX3_legsOf 2 kX3_legsOf = true := by decide +kernel
theorem kX3_legsOf_cst : ∀ en ∈ kX3_legsOf, fw_CstOK RX3 cst_X3 en := by
  have h : kX3_legsOf.all (fw_cstq cp_X3) = true := by decide +kernel
  exact fun en he => fw_cstX cp_X3_ok cst_X3_ok (List.all_eq_true.mp h en he)
def kX3_shareOf : List fw_Ent := [
  (0, 1, .aload_n 0, 0, 0), (1, 3, .getfield 15, 0, 0), (4, 1, .iload_n 1, 0, 0), (5, 3, .invokestatic 55, 0, 0),
  (8, 1, .ireturn, 0, 0)]
theorem kX3_shareOf_ok : fw_chk cX3_shareOf 2 kX3_shareOf = true := by decide +kernel
theorem kX3_shareOf_cst : ∀ en ∈ kX3_shareOf, fw_CstOK RX3 cst_X3 en := by
  have h : kX3_shareOf.all (fw_cstq cp_X3) = true := by decide +kernel
  exact fun en he => fw_cstX cp_X3_ok cst_X3_ok (List.all_eq_true.mp h en he)
def kX3_addLeg : List fw_Ent := [
  (0, 1, .iload_n 1, 0, 0), (1, 3, .ifCond .lt 22, 0, 23), (4, 1, .iload_n 1, 0, 0), (5, 1, .aload_n 0, 0, 0),
  (6, 3, .getfield 9, 0, 0), (9, 1, .arraylength, 0, 0), (10, 3, .if_icmp .ge 13, 0, 23), (13, 1, .aload_n 0, 0, 0),
  (14, 3, .getfield 9, 0, 0), (17, 1, .iload_n 1, 0, 0), (18, 1, .dup2, 0, 0), (19, 1, .iaload, 0, 0),
  (20, 1, .iconst 1, 1, 0), (21, 1, .iadd, 0, 0), (22, 1, .iastore, 0, 0), (23, 1, .return_, 0, 0)]
theorem kX3_addLeg_ok : fw_chk cX3_addLeg 2 kX3_addLeg = true := by decide +kernel
theorem kX3_addLeg_cst : ∀ en ∈ kX3_addLeg, fw_CstOK RX3 cst_X3 en := by
  have h : kX3_addLeg.all (fw_cstq cp_X3) = true := by decide +kernel
  exact fun en he => fw_cstX cp_X3_ok cst_X3_ok (List.all_eq_true.mp h en he)
def kX3_sharePaid : List fw_Ent := [
  (0, 1, .aload_n 0, 0, 0), (1, 3, .getfield 9, 0, 0), (4, 3, .invokestatic 59, 0, 0), (7, 1, .istore_n 1, 0, 0),
  (8, 1, .iload_n 1, 0, 0), (9, 3, .ifCond .gt 4, 0, 13), (12, 1, .return_, 0, 0), (13, 1, .aload_n 0, 0, 0),
  (14, 3, .getfield 40, 0, 0), (17, 1, .istore_n 2, 0, 0), (18, 1, .iconst 0, 0, 0), (19, 1, .istore_n 3, 0, 0),
  (20, 1, .iload_n 3, 0, 0), (21, 1, .aload_n 0, 0, 0), (22, 3, .getfield 9, 0, 0), (25, 1, .arraylength, 0, 0),
  (26, 3, .if_icmp .ge 46, 0, 72), (29, 1, .iload_n 3, 0, 0), (30, 1, .aload_n 0, 0, 0), (31, 3, .getfield 15, 0, 0),
  (34, 1, .arraylength, 0, 0), (35, 3, .if_icmp .ge 37, 0, 72), (38, 1, .aload_n 0, 0, 0), (39, 3, .getfield 15, 0, 0),
  (42, 1, .iload_n 3, 0, 0), (43, 1, .aload_n 0, 0, 0), (44, 3, .getfield 40, 0, 0), (47, 1, .aload_n 0, 0, 0),
  (48, 3, .getfield 9, 0, 0), (51, 1, .iload_n 3, 0, 0), (52, 1, .iaload, 0, 0), (53, 1, .imul, 0, 0),
  (54, 1, .iload_n 1, 0, 0), (55, 1, .idiv, 0, 0), (56, 1, .iastore, 0, 0), (57, 1, .iload_n 2, 0, 0),
  (58, 1, .aload_n 0, 0, 0), (59, 3, .getfield 15, 0, 0), (62, 1, .iload_n 3, 0, 0), (63, 1, .iaload, 0, 0),
  (64, 1, .isub, 0, 0), (65, 1, .istore_n 2, 0, 0), (66, 3, .iinc 3 1, 1, 0), (69, 3, .goto (-49), 0, 20),
  (72, 1, .iconst 0, 0, 0), (73, 1, .istore_n 3, 0, 0), (74, 1, .iload_n 3, 0, 0), (75, 1, .aload_n 0, 0, 0),
  (76, 3, .getfield 9, 0, 0), (79, 1, .arraylength, 0, 0), (80, 3, .if_icmp .ge 51, 0, 131), (83, 1, .iload_n 3, 0, 0),
  (84, 1, .aload_n 0, 0, 0), (85, 3, .getfield 15, 0, 0), (88, 1, .arraylength, 0, 0), (89, 3, .if_icmp .ge 42, 0, 131),
  (92, 1, .aload_n 0, 0, 0), (93, 1, .iload_n 3, 0, 0), (94, 1, .aload_n 0, 0, 0), (95, 3, .getfield 40, 0, 0),
  (98, 1, .aload_n 0, 0, 0), (99, 3, .getfield 9, 0, 0), (102, 1, .iload_n 3, 0, 0), (103, 1, .iaload, 0, 0),
  (104, 1, .imul, 0, 0), (105, 1, .iload_n 1, 0, 0), (106, 1, .irem, 0, 0), (107, 1, .iload_n 1, 0, 0),
  (108, 3, .invokevirtual 63, 0, 0), (111, 1, .iload_n 2, 0, 0), (112, 3, .if_icmp .ge 13, 0, 125), (115, 1, .aload_n 0, 0, 0),
  (116, 3, .getfield 15, 0, 0), (119, 1, .iload_n 3, 0, 0), (120, 1, .dup2, 0, 0), (121, 1, .iaload, 0, 0),
  (122, 1, .iconst 1, 1, 0), (123, 1, .iadd, 0, 0), (124, 1, .iastore, 0, 0), (125, 3, .iinc 3 1, 1, 0),
  (128, 3, .goto (-54), 0, 74), (131, 1, .return_, 0, 0)]
theorem kX3_sharePaid_ok : fw_chk cX3_sharePaid 4 kX3_sharePaid = true := by decide +kernel
theorem kX3_sharePaid_cst : ∀ en ∈ kX3_sharePaid, fw_CstOK RX3 cst_X3 en := by
  have h : kX3_sharePaid.all (fw_cstq cp_X3) = true := by decide +kernel
  exact fun en he => fw_cstX cp_X3_ok cst_X3_ok (List.all_eq_true.mp h en he)
def kX3_rankOf : List fw_Ent := [
  (0, 1, .iconst 0, 0, 0), (1, 2, .istore 4, 0, 0), (3, 1, .iconst 0, 0, 0), (4, 2, .istore 5, 0, 0),
  (6, 2, .iload 5, 0, 0), (8, 1, .aload_n 0, 0, 0), (9, 3, .getfield 9, 0, 0), (12, 1, .arraylength, 0, 0),
  (13, 3, .if_icmp .ge 50, 0, 63), (16, 1, .iload_n 3, 0, 0), (17, 3, .ifCond .le 46, 0, 63), (20, 1, .aload_n 0, 0, 0),
  (21, 3, .getfield 40, 0, 0), (24, 1, .aload_n 0, 0, 0), (25, 3, .getfield 9, 0, 0), (28, 2, .iload 5, 0, 0),
  (30, 1, .iaload, 0, 0), (31, 1, .imul, 0, 0), (32, 1, .iload_n 3, 0, 0), (33, 1, .irem, 0, 0),
  (34, 2, .istore 6, 0, 0), (36, 2, .iload 6, 0, 0), (38, 1, .iload_n 2, 0, 0), (39, 3, .if_icmp .gt 15, 0, 54),
  (42, 2, .iload 6, 0, 0), (44, 1, .iload_n 2, 0, 0), (45, 3, .if_icmp .ne 12, 0, 57), (48, 2, .iload 5, 0, 0),
  (50, 1, .iload_n 1, 0, 0), (51, 3, .if_icmp .ge 6, 0, 57), (54, 3, .iinc 4 1, 1, 0), (57, 3, .iinc 5 1, 1, 0),
  (60, 3, .goto (-54), 0, 6), (63, 2, .iload 4, 0, 0), (65, 1, .ireturn, 0, 0)]
theorem kX3_rankOf_ok : fw_chk cX3_rankOf 7 kX3_rankOf = true := by decide +kernel
theorem kX3_rankOf_cst : ∀ en ∈ kX3_rankOf, fw_CstOK RX3 cst_X3 en := by
  have h : kX3_rankOf.all (fw_cstq cp_X3) = true := by decide +kernel
  exact fun en he => fw_cstX cp_X3_ok cst_X3_ok (List.all_eq_true.mp h en he)
def kX3_figure : List fw_Ent := [
  (0, 1, .iload_n 1, 0, 0), (1, 47, .tableswitch 87 0 7 #[47, 52, 57, 62, 67, 72, 77, 82], 0, 0), (48, 1, .aload_n 0, 0, 0), (49, 3, .getfield 18, 0, 0),
  (52, 1, .ireturn, 0, 0), (53, 1, .aload_n 0, 0, 0), (54, 3, .getfield 22, 0, 0), (57, 1, .ireturn, 0, 0),
  (58, 1, .aload_n 0, 0, 0), (59, 3, .getfield 25, 0, 0), (62, 1, .ireturn, 0, 0), (63, 1, .aload_n 0, 0, 0),
  (64, 3, .getfield 28, 0, 0), (67, 1, .ireturn, 0, 0), (68, 1, .aload_n 0, 0, 0), (69, 3, .getfield 31, 0, 0),
  (72, 1, .ireturn, 0, 0), (73, 1, .aload_n 0, 0, 0), (74, 3, .getfield 34, 0, 0), (77, 1, .ireturn, 0, 0),
  (78, 1, .aload_n 0, 0, 0), (79, 3, .getfield 37, 0, 0), (82, 1, .ireturn, 0, 0), (83, 1, .aload_n 0, 0, 0),
  (84, 3, .getfield 40, 0, 0), (87, 1, .ireturn, 0, 0), (88, 1, .aload_n 0, 0, 0), (89, 3, .getfield 9, 0, 0),
  (92, 3, .invokestatic 59, 0, 0), (95, 1, .ireturn, 0, 0)]
theorem kX3_figure_ok : fw_chk cX3_figure 2 kX3_figure = true := by decide +kernel
theorem kX3_figure_cst : ∀ en ∈ kX3_figure, fw_CstOK RX3 cst_X3 en := by
  have h : kX3_figure.all (fw_cstq cp_X3) = true := by decide +kernel
  exact fun en he => fw_cstX cp_X3_ok cst_X3_ok (List.all_eq_true.mp h en he)
def kX5_addCourier : List fw_Ent := [
  (0, 1, .iload_n 1, 0, 0), (1, 3, .invokestatic 33, 0, 0), (4, 3, .ifCond .eq 10, 0, 14), (7, 1, .iload_n 2, 0, 0),
  (8, 3, .invokestatic 37, 0, 0), (11, 3, .ifCond .ne 11, 0, 22), (14, 3, .new 40, 0, 0), (17, 1, .dup, 0, 0),
  (18, 3, .invokespecial 42, 0, 0), (21, 1, .athrow, 0, 0), (22, 1, .aload_n 0, 0, 0), (23, 3, .getfield 10, 0, 0),
  (26, 3, .getfield 43, 0, 0), (29, 2, .bipush 6, 6, 0), (31, 3, .if_icmp .lt 11, 0, 42), (34, 3, .new 47, 0, 0),
  (37, 1, .dup, 0, 0), (38, 3, .invokespecial 49, 0, 0), (41, 1, .athrow, 0, 0), (42, 1, .aload_n 0, 0, 0),
  (43, 3, .getfield 22, 0, 0), (46, 1, .aload_n 0, 0, 0), (47, 3, .getfield 10, 0, 0), (50, 3, .invokevirtual 50, 0, 0),
  (53, 1, .aload_n 0, 0, 0), (54, 3, .getfield 10, 0, 0), (57, 1, .iload_n 1, 0, 0), (58, 1, .iload_n 2, 0, 0),
  (59, 3, .invokevirtual 54, 0, 0), (62, 1, .ireturn, 0, 0)]
theorem kX5_addCourier_ok : fw_chk cX5_addCourier 3 kX5_addCourier = true := by decide +kernel
theorem kX5_addCourier_cst : ∀ en ∈ kX5_addCourier, fw_CstOK RX5 cst_X5 en := by
  have h : kX5_addCourier.all (fw_cstq cp_X5) = true := by decide +kernel
  exact fun en he => fw_cstX cp_X5_ok cst_X5_ok (List.all_eq_true.mp h en he)
def kX5_setArea : List fw_Ent := [
  (0, 1, .aload_n 0, 0, 0), (1, 3, .getfield 10, 0, 0), (4, 1, .iload_n 1, 0, 0), (5, 3, .invokevirtual 58, 0, 0),
  (8, 1, .astore_n 3, 0, 0), (9, 1, .aload_n 3, 0, 0), (10, 3, .ifnonnull 11, 0, 21), (13, 3, .new 62, 0, 0),
  (16, 1, .dup, 0, 0), (17, 3, .invokespecial 64, 0, 0), (20, 1, .athrow, 0, 0), (21, 1, .iload_n 2, 0, 0),
  (22, 3, .invokestatic 33, 0, 0), (25, 3, .ifCond .ne 11, 0, 36), (28, 3, .new 40, 0, 0), (31, 1, .dup, 0, 0),
  (32, 3, .invokespecial 42, 0, 0), (35, 1, .athrow, 0, 0), (36, 1, .aload_n 0, 0, 0), (37, 3, .getfield 22, 0, 0),
  (40, 1, .aload_n 0, 0, 0), (41, 3, .getfield 10, 0, 0), (44, 3, .invokevirtual 50, 0, 0), (47, 1, .aload_n 3, 0, 0),
  (48, 3, .getfield 65, 0, 0), (51, 2, .istore 4, 0, 0), (53, 1, .aload_n 3, 0, 0), (54, 1, .iload_n 2, 0, 0),
  (55, 3, .putfield 65, 0, 0), (58, 2, .iload 4, 0, 0), (60, 1, .ireturn, 0, 0)]
theorem kX5_setArea_ok : fw_chk cX5_setArea 5 kX5_setArea = true := by decide +kernel
theorem kX5_setArea_cst : ∀ en ∈ kX5_setArea, fw_CstOK RX5 cst_X5 en := by
  have h : kX5_setArea.all (fw_cstq cp_X5) = true := by decide +kernel
  exact fun en he => fw_cstX cp_X5_ok cst_X5_ok (List.all_eq_true.mp h en he)
def kX5_give : List fw_Ent := [
  (0, 1, .iload_n 1, 0, 0), (1, 3, .invokestatic 37, 0, 0), (4, 3, .ifCond .eq 30, 0, 34), (7, 1, .iload_n 2, 0, 0),
  (8, 3, .invokestatic 37, 0, 0), (11, 3, .ifCond .eq 23, 0, 34), (14, 1, .iload_n 1, 0, 0), (15, 1, .iload_n 2, 0, 0),
  (16, 3, .if_icmp .eq 18, 0, 34), (19, 1, .iload_n 3, 0, 0), (20, 3, .invokestatic 70, 0, 0), (23, 3, .ifCond .eq 11, 0, 34),
  (26, 2, .iload 4, 0, 0), (28, 3, .invokestatic 73, 0, 0), (31, 3, .ifCond .ne 11, 0, 42), (34, 3, .new 40, 0, 0),
  (37, 1, .dup, 0, 0), (38, 3, .invokespecial 42, 0, 0), (41, 1, .athrow, 0, 0), (42, 1, .aload_n 0, 0, 0),
  (43, 3, .getfield 10, 0, 0), (46, 3, .getfield 76, 0, 0), (49, 2, .bipush 24, 24, 0), (51, 3, .if_icmp .lt 11, 0, 62),
  (54, 3, .new 47, 0, 0), (57, 1, .dup, 0, 0), (58, 3, .invokespecial 49, 0, 0), (61, 1, .athrow, 0, 0),
  (62, 1, .aload_n 0, 0, 0), (63, 3, .getfield 22, 0, 0), (66, 1, .aload_n 0, 0, 0), (67, 3, .getfield 10, 0, 0),
  (70, 3, .invokevirtual 50, 0, 0), (73, 1, .aload_n 0, 0, 0), (74, 3, .getfield 10, 0, 0), (77, 1, .iload_n 1, 0, 0),
  (78, 1, .iload_n 2, 0, 0), (79, 1, .iload_n 3, 0, 0), (80, 2, .iload 4, 0, 0), (82, 3, .invokevirtual 79, 0, 0),
  (85, 1, .ireturn, 0, 0)]
theorem kX5_give_ok : fw_chk cX5_give 5 kX5_give = true := by decide +kernel
theorem kX5_give_cst : ∀ en ∈ kX5_give, fw_CstOK RX5 cst_X5 en := by
  have h : kX5_give.all (fw_cstq cp_X5) = true := by decide +kernel
  exact fun en he => fw_cstX cp_X5_ok cst_X5_ok (List.all_eq_true.mp h en he)
def kX5_setGrace : List fw_Ent := [
  (0, 1, .iload_n 1, 0, 0), (1, 3, .ifCond .lt 9, 0, 10), (4, 1, .iload_n 1, 0, 0), (5, 2, .bipush 100, 100, 0),
  (7, 3, .if_icmp .le 11, 0, 18), (10, 3, .new 40, 0, 0), (13, 1, .dup, 0, 0), (14, 3, .invokespecial 42, 0, 0),
  (17, 1, .athrow, 0, 0), (18, 1, .aload_n 0, 0, 0), (19, 3, .getfield 22, 0, 0), (22, 1, .aload_n 0, 0, 0),
  (23, 3, .getfield 10, 0, 0), (26, 3, .invokevirtual 50, 0, 0), (29, 1, .aload_n 0, 0, 0), (30, 3, .getfield 10, 0, 0),
  (33, 3, .getfield 83, 0, 0), (36, 1, .istore_n 2, 0, 0), (37, 1, .aload_n 0, 0, 0), (38, 3, .getfield 10, 0, 0),
  (41, 1, .iload_n 1, 0, 0), (42, 3, .putfield 83, 0, 0), (45, 1, .iload_n 2, 0, 0), (46, 1, .ireturn, 0, 0)]
theorem kX5_setGrace_ok : fw_chk cX5_setGrace 3 kX5_setGrace = true := by decide +kernel
theorem kX5_setGrace_cst : ∀ en ∈ kX5_setGrace, fw_CstOK RX5 cst_X5 en := by
  have h : kX5_setGrace.all (fw_cstq cp_X5) = true := by decide +kernel
  exact fun en he => fw_cstX cp_X5_ok cst_X5_ok (List.all_eq_true.mp h en he)
def kX5_drop : List fw_Ent := [
  (0, 1, .aload_n 0, 0, 0), (1, 3, .getfield 10, 0, 0), (4, 1, .iload_n 1, 0, 0), (5, 3, .invokevirtual 58, 0, 0),
  (8, 1, .astore_n 2, 0, 0), (9, 1, .aload_n 2, 0, 0), (10, 3, .ifnonnull 11, 0, 21), (13, 3, .new 62, 0, 0),
  (16, 1, .dup, 0, 0), (17, 3, .invokespecial 64, 0, 0), (20, 1, .athrow, 0, 0), (21, 1, .aload_n 0, 0, 0),
  (22, 3, .getfield 22, 0, 0), (25, 1, .aload_n 0, 0, 0), (26, 3, .getfield 10, 0, 0), (29, 3, .invokevirtual 50, 0, 0),
  (32, 1, .aload_n 2, 0, 0), (33, 3, .getfield 86, 0, 0), (36, 1, .istore_n 3, 0, 0), (37, 1, .aload_n 0, 0, 0),
  (38, 3, .getfield 10, 0, 0), (41, 1, .aload_n 2, 0, 0), (42, 3, .invokevirtual 89, 0, 0), (45, 1, .iload_n 3, 0, 0),
  (46, 1, .ireturn, 0, 0)]
theorem kX5_drop_ok : fw_chk cX5_drop 4 kX5_drop = true := by decide +kernel
theorem kX5_drop_cst : ∀ en ∈ kX5_drop, fw_CstOK RX5 cst_X5 en := by
  have h : kX5_drop.all (fw_cstq cp_X5) = true := by decide +kernel
  exact fun en he => fw_cstX cp_X5_ok cst_X5_ok (List.all_eq_true.mp h en he)
def kX5_run : List fw_Ent := [
  (0, 1, .iload_n 1, 0, 0), (1, 3, .invokestatic 93, 0, 0), (4, 3, .ifCond .ne 11, 0, 15), (7, 3, .new 40, 0, 0),
  (10, 1, .dup, 0, 0), (11, 3, .invokespecial 42, 0, 0), (14, 1, .athrow, 0, 0), (15, 1, .aload_n 0, 0, 0),
  (16, 3, .getfield 10, 0, 0), (19, 3, .getfield 96, 0, 0), (22, 1, .iload_n 1, 0, 0), (23, 1, .iadd, 0, 0),
  (24, 3, .sipush 2000, 2000, 0), (27, 3, .if_icmp .le 11, 0, 38), (30, 3, .new 47, 0, 0), (33, 1, .dup, 0, 0),
  (34, 3, .invokespecial 49, 0, 0), (37, 1, .athrow, 0, 0), (38, 1, .aload_n 0, 0, 0), (39, 3, .getfield 22, 0, 0),
  (42, 1, .aload_n 0, 0, 0), (43, 3, .getfield 10, 0, 0), (46, 3, .invokevirtual 50, 0, 0), (49, 1, .aload_n 0, 0, 0),
  (50, 3, .getfield 10, 0, 0), (53, 1, .iconst 2, 2, 0), (54, 3, .invokevirtual 99, 0, 0), (57, 1, .istore_n 2, 0, 0),
  (58, 1, .aload_n 0, 0, 0), (59, 3, .getfield 10, 0, 0), (62, 1, .iload_n 1, 0, 0), (63, 3, .invokevirtual 103, 0, 0),
  (66, 1, .pop, 0, 0), (67, 1, .aload_n 0, 0, 0), (68, 3, .getfield 10, 0, 0), (71, 1, .iconst 2, 2, 0),
  (72, 3, .invokevirtual 99, 0, 0), (75, 1, .iload_n 2, 0, 0), (76, 1, .isub, 0, 0), (77, 1, .ireturn, 0, 0)]
theorem kX5_run_ok : fw_chk cX5_run 3 kX5_run = true := by decide +kernel
theorem kX5_run_cst : ∀ en ∈ kX5_run, fw_CstOK RX5 cst_X5 en := by
  have h : kX5_run.all (fw_cstq cp_X5) = true := by decide +kernel
  exact fun en he => fw_cstX cp_X5_ok cst_X5_ok (List.all_eq_true.mp h en he)
def kX5_value : List fw_Ent := [
  (0, 1, .iload_n 1, 0, 0), (1, 3, .ifCond .lt 9, 0, 10), (4, 1, .iload_n 1, 0, 0), (5, 2, .bipush 10, 10, 0),
  (7, 3, .if_icmp .le 11, 0, 18), (10, 3, .new 40, 0, 0), (13, 1, .dup, 0, 0), (14, 3, .invokespecial 42, 0, 0),
  (17, 1, .athrow, 0, 0), (18, 1, .aload_n 0, 0, 0), (19, 3, .getfield 10, 0, 0), (22, 1, .iload_n 1, 0, 0),
  (23, 3, .invokevirtual 106, 0, 0), (26, 1, .ireturn, 0, 0)]
theorem kX5_value_ok : fw_chk cX5_value 2 kX5_value = true := by decide +kernel
theorem kX5_value_cst : ∀ en ∈ kX5_value, fw_CstOK RX5 cst_X5 en := by
  have h : kX5_value.all (fw_cstq cp_X5) = true := by decide +kernel
  exact fun en he => fw_cstX cp_X5_ok cst_X5_ok (List.all_eq_true.mp h en he)
def kX5_courier : List fw_Ent := [
  (0, 1, .aload_n 0, 0, 0), (1, 3, .getfield 10, 0, 0), (4, 1, .iload_n 1, 0, 0), (5, 3, .invokevirtual 58, 0, 0),
  (8, 1, .astore_n 3, 0, 0), (9, 1, .aload_n 3, 0, 0), (10, 3, .ifnonnull 11, 0, 21), (13, 3, .new 62, 0, 0),
  (16, 1, .dup, 0, 0), (17, 3, .invokespecial 64, 0, 0), (20, 1, .athrow, 0, 0), (21, 1, .iload_n 2, 0, 0),
  (22, 3, .ifCond .lt 8, 0, 30), (25, 1, .iload_n 2, 0, 0), (26, 1, .iconst 5, 5, 0), (27, 3, .if_icmp .le 11, 0, 38),
  (30, 3, .new 40, 0, 0), (33, 1, .dup, 0, 0), (34, 3, .invokespecial 42, 0, 0), (37, 1, .athrow, 0, 0),
  (38, 1, .aload_n 0, 0, 0), (39, 3, .getfield 10, 0, 0), (42, 1, .aload_n 3, 0, 0), (43, 1, .iload_n 1, 0, 0),
  (44, 1, .iload_n 2, 0, 0), (45, 3, .invokevirtual 109, 0, 0), (48, 1, .ireturn, 0, 0)]
theorem kX5_courier_ok : fw_chk cX5_courier 4 kX5_courier = true := by decide +kernel
theorem kX5_courier_cst : ∀ en ∈ kX5_courier, fw_CstOK RX5 cst_X5 en := by
  have h : kX5_courier.all (fw_cstq cp_X5) = true := by decide +kernel
  exact fun en he => fw_cstX cp_X5_ok cst_X5_ok (List.all_eq_true.mp h en he)
def kX5_parcel : List fw_Ent := [
  (0, 1, .aload_n 0, 0, 0), (1, 3, .getfield 10, 0, 0), (4, 1, .iload_n 1, 0, 0), (5, 3, .invokevirtual 113, 0, 0),
  (8, 1, .astore_n 3, 0, 0), (9, 1, .aload_n 3, 0, 0), (10, 3, .ifnonnull 11, 0, 21), (13, 3, .new 62, 0, 0),
  (16, 1, .dup, 0, 0), (17, 3, .invokespecial 64, 0, 0), (20, 1, .athrow, 0, 0), (21, 1, .iload_n 2, 0, 0),
  (22, 3, .ifCond .lt 9, 0, 31), (25, 1, .iload_n 2, 0, 0), (26, 2, .bipush 8, 8, 0), (28, 3, .if_icmp .le 11, 0, 39),
  (31, 3, .new 40, 0, 0), (34, 1, .dup, 0, 0), (35, 3, .invokespecial 42, 0, 0), (38, 1, .athrow, 0, 0),
  (39, 1, .aload_n 3, 0, 0), (40, 1, .iload_n 2, 0, 0), (41, 3, .invokevirtual 117, 0, 0), (44, 1, .ireturn, 0, 0)]
theorem kX5_parcel_ok : fw_chk cX5_parcel 4 kX5_parcel = true := by decide +kernel
theorem kX5_parcel_cst : ∀ en ∈ kX5_parcel, fw_CstOK RX5 cst_X5 en := by
  have h : kX5_parcel.all (fw_cstq cp_X5) = true := by decide +kernel
  exact fun en he => fw_cstX cp_X5_ok cst_X5_ok (List.all_eq_true.mp h en he)
def kX5_legs : List fw_Ent := [
  (0, 1, .aload_n 0, 0, 0), (1, 3, .getfield 10, 0, 0), (4, 1, .iload_n 1, 0, 0), (5, 3, .invokevirtual 113, 0, 0),
  (8, 2, .astore 4, 0, 0), (10, 2, .aload 4, 0, 0), (12, 3, .ifnull 14, 0, 26), (15, 1, .aload_n 0, 0, 0),
  (16, 3, .getfield 10, 0, 0), (19, 1, .iload_n 2, 0, 0), (20, 3, .invokevirtual 58, 0, 0), (23, 3, .ifnonnull 11, 0, 34),
  (26, 3, .new 62, 0, 0), (29, 1, .dup, 0, 0), (30, 3, .invokespecial 64, 0, 0), (33, 1, .athrow, 0, 0),
  (34, 1, .iload_n 3, 0, 0), (35, 3, .ifCond .eq 12, 0, 47), (38, 2, .aload 4, 0, 0), (40, 1, .iload_n 2, 0, 0),
  (41, 3, .invokevirtual 120, 0, 0), (44, 3, .goto 9, 0, 53), (47, 2, .aload 4, 0, 0), (49, 1, .iload_n 2, 0, 0),
  (50, 3, .invokevirtual 123, 0, 0), (53, 1, .ireturn, 0, 0)]
theorem kX5_legs_ok : fw_chk cX5_legs 5 kX5_legs = true := by decide +kernel
theorem kX5_legs_cst : ∀ en ∈ kX5_legs, fw_CstOK RX5 cst_X5 en := by
  have h : kX5_legs.all (fw_cstq cp_X5) = true := by decide +kernel
  exact fun en he => fw_cstX cp_X5_ok cst_X5_ok (List.all_eq_true.mp h en he)
def kX5_distance : List fw_Ent := [
  (0, 1, .iload_n 1, 0, 0), (1, 3, .invokestatic 37, 0, 0), (4, 3, .ifCond .eq 10, 0, 14), (7, 1, .iload_n 2, 0, 0),
  (8, 3, .invokestatic 37, 0, 0), (11, 3, .ifCond .ne 11, 0, 22), (14, 3, .new 62, 0, 0), (17, 1, .dup, 0, 0),
  (18, 3, .invokespecial 64, 0, 0), (21, 1, .athrow, 0, 0), (22, 1, .iload_n 1, 0, 0), (23, 1, .iconst 4, 4, 0),
  (24, 1, .idiv, 0, 0), (25, 1, .iload_n 2, 0, 0), (26, 1, .iconst 4, 4, 0), (27, 1, .idiv, 0, 0),
  (28, 1, .isub, 0, 0), (29, 3, .invokestatic 126, 0, 0), (32, 1, .iload_n 1, 0, 0), (33, 1, .iconst 4, 4, 0),
  (34, 1, .irem, 0, 0), (35, 1, .iload_n 2, 0, 0), (36, 1, .iconst 4, 4, 0), (37, 1, .irem, 0, 0),
  (38, 1, .isub, 0, 0), (39, 3, .invokestatic 126, 0, 0), (42, 1, .iadd, 0, 0), (43, 1, .ireturn, 0, 0)]
theorem kX5_distance_ok : fw_chk cX5_distance 3 kX5_distance = true := by decide +kernel
theorem kX5_distance_cst : ∀ en ∈ kX5_distance, fw_CstOK RX5 cst_X5 en := by
  have h : kX5_distance.all (fw_cstq cp_X5) = true := by decide +kernel
  exact fun en he => fw_cstX cp_X5_ok cst_X5_ok (List.all_eq_true.mp h en he)
def kX5_isZone : List fw_Ent := [
  (0, 1, .iload_n 0, 0, 0), (1, 3, .ifCond .lt 13, 0, 14), (4, 1, .iload_n 0, 0, 0), (5, 2, .bipush 16, 16, 0),
  (7, 3, .if_icmp .ge 7, 0, 14), (10, 1, .iconst 1, 1, 0), (11, 3, .goto 4, 0, 15), (14, 1, .iconst 0, 0, 0),
  (15, 1, .ireturn, 0, 0)]
theorem kX5_isZone_ok : fw_chk cX5_isZone 1 kX5_isZone = true := by decide +kernel
theorem kX5_isZone_cst : ∀ en ∈ kX5_isZone, fw_CstOK RX5 cst_X5 en := by
  have h : kX5_isZone.all (fw_cstq cp_X5) = true := by decide +kernel
  exact fun en he => fw_cstX cp_X5_ok cst_X5_ok (List.all_eq_true.mp h en he)
def kX5_isArea : List fw_Ent := [
  (0, 1, .iload_n 0, 0, 0), (1, 3, .ifCond .lt 13, 0, 14), (4, 1, .iload_n 0, 0, 0), (5, 2, .ldc 207, 65535, 0),
  (7, 3, .if_icmp .gt 7, 0, 14), (10, 1, .iconst 1, 1, 0), (11, 3, .goto 4, 0, 15), (14, 1, .iconst 0, 0, 0),
  (15, 1, .ireturn, 0, 0)]
theorem kX5_isArea_ok : fw_chk cX5_isArea 1 kX5_isArea = true := by decide +kernel
theorem kX5_isArea_cst : ∀ en ∈ kX5_isArea, fw_CstOK RX5 cst_X5 en := by
  have h : kX5_isArea.all (fw_cstq cp_X5) = true := by decide +kernel
  exact fun en he => fw_cstX cp_X5_ok cst_X5_ok (List.all_eq_true.mp h en he)
def kX5_isCutOff : List fw_Ent := [
  (0, 1, .iload_n 0, 0, 0), (1, 1, .iconst 1, 1, 0), (2, 3, .if_icmp .lt 14, 0, 16), (5, 1, .iload_n 0, 0, 0),
  (6, 3, .sipush 999, 999, 0), (9, 3, .if_icmp .gt 7, 0, 16), (12, 1, .iconst 1, 1, 0), (13, 3, .goto 4, 0, 17),
  (16, 1, .iconst 0, 0, 0), (17, 1, .ireturn, 0, 0)]
theorem kX5_isCutOff_ok : fw_chk cX5_isCutOff 1 kX5_isCutOff = true := by decide +kernel
theorem kX5_isCutOff_cst : ∀ en ∈ kX5_isCutOff, fw_CstOK RX5 cst_X5 en := by
  have h : kX5_isCutOff.all (fw_cstq cp_X5) = true := by decide +kernel
  exact fun en he => fw_cstX cp_X5_ok cst_X5_ok (List.all_eq_true.mp h en he)
def kX5_isTip : List fw_Ent := [
  (0, 1, .iload_n 0, 0, 0), (1, 3, .ifCond .lt 14, 0, 15), (4, 1, .iload_n 0, 0, 0), (5, 3, .sipush 1000, 1000, 0),
  (8, 3, .if_icmp .gt 7, 0, 15), (11, 1, .iconst 1, 1, 0), (12, 3, .goto 4, 0, 16), (15, 1, .iconst 0, 0, 0),
  (16, 1, .ireturn, 0, 0)]
theorem kX5_isTip_ok : fw_chk cX5_isTip 1 kX5_isTip = true := by decide +kernel
theorem kX5_isTip_cst : ∀ en ∈ kX5_isTip, fw_CstOK RX5 cst_X5 en := by
  have h : kX5_isTip.all (fw_cstq cp_X5) = true := by decide +kernel
  exact fun en he => fw_cstX cp_X5_ok cst_X5_ok (List.all_eq_true.mp h en he)
def kX5_isTicks : List fw_Ent := [
  (0, 1, .iload_n 0, 0, 0), (1, 3, .ifCond .lt 14, 0, 15), (4, 1, .iload_n 0, 0, 0), (5, 3, .sipush 200, 200, 0),
  (8, 3, .if_icmp .gt 7, 0, 15), (11, 1, .iconst 1, 1, 0), (12, 3, .goto 4, 0, 16), (15, 1, .iconst 0, 0, 0),
  (16, 1, .ireturn, 0, 0)]
theorem kX5_isTicks_ok : fw_chk cX5_isTicks 1 kX5_isTicks = true := by decide +kernel
theorem kX5_isTicks_cst : ∀ en ∈ kX5_isTicks, fw_CstOK RX5 cst_X5 en := by
  have h : kX5_isTicks.all (fw_cstq cp_X5) = true := by decide +kernel
  exact fun en he => fw_cstX cp_X5_ok cst_X5_ok (List.all_eq_true.mp h en he)
def kX5_holds : List fw_Ent := [
  (0, 1, .iload_n 0, 0, 0), (1, 1, .iload_n 1, 0, 0), (2, 1, .ishr, 0, 0), (3, 1, .iconst 1, 1, 0),
  (4, 1, .iand, 0, 0), (5, 1, .iconst 1, 1, 0), (6, 3, .if_icmp .ne 7, 0, 13), (9, 1, .iconst 1, 1, 0),
  (10, 3, .goto 4, 0, 14), (13, 1, .iconst 0, 0, 0), (14, 1, .ireturn, 0, 0)]
theorem kX5_holds_ok : fw_chk cX5_holds 2 kX5_holds = true := by decide +kernel
theorem kX5_holds_cst : ∀ en ∈ kX5_holds, fw_CstOK RX5 cst_X5 en := by
  have h : kX5_holds.all (fw_cstq cp_X5) = true := by decide +kernel
  exact fun en he => fw_cstX cp_X5_ok cst_X5_ok (List.all_eq_true.mp h en he)
def kX5_nextZone : List fw_Ent := [
  (0, 1, .iload_n 1, 0, 0), (1, 1, .iconst 4, 4, 0), (2, 1, .irem, 0, 0), (3, 1, .iload_n 0, 0, 0),
  (4, 1, .iconst 4, 4, 0), (5, 1, .irem, 0, 0), (6, 1, .isub, 0, 0), (7, 1, .istore_n 2, 0, 0),
  (8, 1, .iload_n 2, 0, 0), (9, 3, .ifCond .eq 17, 0, 26), (12, 1, .iload_n 2, 0, 0), (13, 3, .ifCond .le 9, 0, 22),
  (16, 1, .iload_n 0, 0, 0), (17, 1, .iconst 1, 1, 0), (18, 1, .iadd, 0, 0), (19, 3, .goto 6, 0, 25),
  (22, 1, .iload_n 0, 0, 0), (23, 1, .iconst 1, 1, 0), (24, 1, .isub, 0, 0), (25, 1, .ireturn, 0, 0),
  (26, 1, .iload_n 1, 0, 0), (27, 1, .iconst 4, 4, 0), (28, 1, .idiv, 0, 0), (29, 1, .iload_n 0, 0, 0),
  (30, 1, .iconst 4, 4, 0), (31, 1, .idiv, 0, 0), (32, 1, .isub, 0, 0), (33, 1, .istore_n 3, 0, 0),
  (34, 1, .iload_n 3, 0, 0), (35, 3, .ifCond .eq 17, 0, 52), (38, 1, .iload_n 3, 0, 0), (39, 3, .ifCond .le 9, 0, 48),
  (42, 1, .iload_n 0, 0, 0), (43, 1, .iconst 4, 4, 0), (44, 1, .iadd, 0, 0), (45, 3, .goto 6, 0, 51),
  (48, 1, .iload_n 0, 0, 0), (49, 1, .iconst 4, 4, 0), (50, 1, .isub, 0, 0), (51, 1, .ireturn, 0, 0),
  (52, 1, .iload_n 0, 0, 0), (53, 1, .ireturn, 0, 0)]
theorem kX5_nextZone_ok : fw_chk cX5_nextZone 4 kX5_nextZone = true := by decide +kernel
theorem kX5_nextZone_cst : ∀ en ∈ kX5_nextZone, fw_CstOK RX5 cst_X5 en := by
  have h : kX5_nextZone.all (fw_cstq cp_X5) = true := by decide +kernel
  exact fun en he => fw_cstX cp_X5_ok cst_X5_ok (List.all_eq_true.mp h en he)
def kX5_at : List fw_Ent := [
  (0, 1, .iload_n 1, 0, 0), (1, 3, .ifCond .lt 15, 0, 16), (4, 1, .iload_n 1, 0, 0), (5, 1, .aload_n 0, 0, 0),
  (6, 1, .arraylength, 0, 0), (7, 3, .if_icmp .ge 9, 0, 16), (10, 1, .aload_n 0, 0, 0), (11, 1, .iload_n 1, 0, 0),
  (12, 1, .iaload, 0, 0), (13, 3, .goto 4, 0, 17), (16, 1, .iconst 0, 0, 0), (17, 1, .ireturn, 0, 0)]
theorem kX5_at_ok : fw_chk cX5_at 2 kX5_at = true := by decide +kernel
theorem kX5_at_cst : ∀ en ∈ kX5_at, fw_CstOK RX5 cst_X5 en := by
  have h : kX5_at.all (fw_cstq cp_X5) = true := by decide +kernel
  exact fun en he => fw_cstX cp_X5_ok cst_X5_ok (List.all_eq_true.mp h en he)
def kX5_sum : List fw_Ent := [
  (0, 1, .iconst 0, 0, 0), (1, 1, .istore_n 1, 0, 0), (2, 1, .iconst 0, 0, 0), (3, 1, .istore_n 2, 0, 0),
  (4, 1, .iload_n 2, 0, 0), (5, 1, .aload_n 0, 0, 0), (6, 1, .arraylength, 0, 0), (7, 3, .if_icmp .ge 15, 0, 22),
  (10, 1, .iload_n 1, 0, 0), (11, 1, .aload_n 0, 0, 0), (12, 1, .iload_n 2, 0, 0), (13, 1, .iaload, 0, 0),
  (14, 1, .iadd, 0, 0), (15, 1, .istore_n 1, 0, 0), (16, 3, .iinc 2 1, 1, 0), (19, 3, .goto (-15), 0, 4),
  (22, 1, .iload_n 1, 0, 0), (23, 1, .ireturn, 0, 0)]
theorem kX5_sum_ok : fw_chk cX5_sum 3 kX5_sum = true := by decide +kernel
theorem kX5_sum_cst : ∀ en ∈ kX5_sum, fw_CstOK RX5 cst_X5 en := by
  have h : kX5_sum.all (fw_cstq cp_X5) = true := by decide +kernel
  exact fun en he => fw_cstX cp_X5_ok cst_X5_ok (List.all_eq_true.mp h en he)
def kX5_copyRow : List fw_Ent := [
  (0, 1, .aload_n 0, 0, 0), (1, 1, .iconst 0, 0, 0), (2, 1, .aload_n 1, 0, 0), (3, 1, .iconst 0, 0, 0),
  (4, 1, .aload_n 0, 0, 0), (5, 1, .arraylength, 0, 0), (6, 1, .aload_n 1, 0, 0), (7, 1, .arraylength, 0, 0),
  (8, 3, .invokestatic 208, 0, 0), (11, 3, .invokestatic 211, 0, 0), (14, 1, .return_, 0, 0)]
theorem kX5_copyRow_ok : fw_chk cX5_copyRow 2 kX5_copyRow = true := by decide +kernel
theorem kX5_copyRow_cst : ∀ en ∈ kX5_copyRow, fw_CstOK RX5 cst_X5 en := by
  have h : kX5_copyRow.all (fw_cstq cp_X5) = true := by decide +kernel
  exact fun en he => fw_cstX cp_X5_ok cst_X5_ok (List.all_eq_true.mp h en he)

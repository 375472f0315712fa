def fw_cstq (cp : List (Nat × Int32)) (en : fw_Ent) : Bool := match en.2.2.1 with
  | .ldc i => decide ((i, en.2.2.2.1) ∈ cp)
  | .ldc_w i => decide ((i, en.2.2.2.1) ∈ cp)
  | _ => true
theorem fw_cstX {own : String} {cst : List (Nat × Value)} {cp : List (Nat × Int32)} {en : fw_Ent} (hcp : ∀ q ∈ cp, Cond.constant own q.1 q.2 ∈ fw_LW) (hcst : ∀ i v, (i, Value.long v) ∈ cst → Cond.constantLong own i v ∈ fw_LW) (h : fw_cstq cp en = true) : fw_CstOK own cst en := by
  obtain ⟨pc, len, i, num, tgt⟩ := en
  unfold fw_CstOK
  dsimp only
  cases i with
  | ldc i => exact hcp (i, num) (of_decide_eq_true h)
  | ldc_w i => exact hcp (i, num) (of_decide_eq_true h)
  | ldc2_w i => exact fun v hv => hcst i v (fw_find_mem hv)
  | _ => trivial
def cst_X0 : List (Nat × Value) := []
def cp_X0 : List (Nat × Int32) := []
theorem cp_X0_ok : ∀ q ∈ cp_X0, Cond.constant RX0 q.1 q.2 ∈ fw_LW := by
  intro q hq
  simp only [cp_X0, List.mem_cons, List.not_mem_nil, or_false] at hq
theorem cst_X0_ok : ∀ i v, (i, Value.long v) ∈ cst_X0 → Cond.constantLong RX0 i v ∈ fw_LW := by
  intro i v hq
  simp only [cst_X0, List.mem_cons, List.not_mem_nil, or_false, Prod.mk.injEq, Value.long.injEq] at hq
def cst_X1 : List (Nat × Value) := [(173, .long 31)]
def cp_X1 : List (Nat × Int32) := []
theorem cp_X1_ok : ∀ q ∈ cp_X1, Cond.constant RX1 q.1 q.2 ∈ fw_LW := by
  intro q hq
  simp only [cp_X1, List.mem_cons, List.not_mem_nil, or_false] at hq
theorem cst_X1_ok : ∀ i v, (i, Value.long v) ∈ cst_X1 → Cond.constantLong RX1 i v ∈ fw_LW := by
  intro i v hq
  simp only [cst_X1, List.mem_cons, List.not_mem_nil, or_false, Prod.mk.injEq, Value.long.injEq] at hq
  rcases hq with ⟨rfl, rfl⟩
  · exact wk_X1_173
def cst_X2 : List (Nat × Value) := []
def cp_X2 : List (Nat × Int32) := []
theorem cp_X2_ok : ∀ q ∈ cp_X2, Cond.constant RX2 q.1 q.2 ∈ fw_LW := by
  intro q hq
  simp only [cp_X2, List.mem_cons, List.not_mem_nil, or_false] at hq
theorem cst_X2_ok : ∀ i v, (i, Value.long v) ∈ cst_X2 → Cond.constantLong RX2 i v ∈ fw_LW := by
  intro i v hq
  simp only [cst_X2, List.mem_cons, List.not_mem_nil, or_false, Prod.mk.injEq, Value.long.injEq] at hq
def cst_X3 : List (Nat × Value) := []
def cp_X3 : List (Nat × Int32) := []
theorem cp_X3_ok : ∀ q ∈ cp_X3, Cond.constant RX3 q.1 q.2 ∈ fw_LW := by
  intro q hq
  simp only [cp_X3, List.mem_cons, List.not_mem_nil, or_false] at hq
theorem cst_X3_ok : ∀ i v, (i, Value.long v) ∈ cst_X3 → Cond.constantLong RX3 i v ∈ fw_LW := by
  intro i v hq
  simp only [cst_X3, List.mem_cons, List.not_mem_nil, or_false, Prod.mk.injEq, Value.long.injEq] at hq
def cst_X4 : List (Nat × Value) := []
def cp_X4 : List (Nat × Int32) := []
theorem cp_X4_ok : ∀ q ∈ cp_X4, Cond.constant RX4 q.1 q.2 ∈ fw_LW := by
  intro q hq
  simp only [cp_X4, List.mem_cons, List.not_mem_nil, or_false] at hq
theorem cst_X4_ok : ∀ i v, (i, Value.long v) ∈ cst_X4 → Cond.constantLong RX4 i v ∈ fw_LW := by
  intro i v hq
  simp only [cst_X4, List.mem_cons, List.not_mem_nil, or_false, Prod.mk.injEq, Value.long.injEq] at hq
def cst_X5 : List (Nat × Value) := [(196, .long 102703), (198, .long 31)]
def cp_X5 : List (Nat × Int32) := [(207, 65535)]
theorem cp_X5_ok : ∀ q ∈ cp_X5, Cond.constant RX5 q.1 q.2 ∈ fw_LW := by
  intro q hq
  simp only [cp_X5, List.mem_cons, List.not_mem_nil, or_false] at hq
  rcases hq with rfl
  · exact wk_X5_207
theorem cst_X5_ok : ∀ i v, (i, Value.long v) ∈ cst_X5 → Cond.constantLong RX5 i v ∈ fw_LW := by
  intro i v hq
  simp only [cst_X5, List.mem_cons, List.not_mem_nil, or_false, Prod.mk.injEq, Value.long.injEq] at hq
  rcases hq with ⟨rfl, rfl⟩ | ⟨rfl, rfl⟩
  · exact wk_X5_196
  · exact wk_X5_198
def cst_X6 : List (Nat × Value) := [(187, .long 31), (193, .long 3313)]
def cp_X6 : List (Nat × Int32) := [(100, 65535)]
theorem cp_X6_ok : ∀ q ∈ cp_X6, Cond.constant RX6 q.1 q.2 ∈ fw_LW := by
  intro q hq
  simp only [cp_X6, List.mem_cons, List.not_mem_nil, or_false] at hq
  rcases hq with rfl
  · exact wk_X6_100
theorem cst_X6_ok : ∀ i v, (i, Value.long v) ∈ cst_X6 → Cond.constantLong RX6 i v ∈ fw_LW := by
  intro i v hq
  simp only [cst_X6, List.mem_cons, List.not_mem_nil, or_false, Prod.mk.injEq, Value.long.injEq] at hq
  rcases hq with ⟨rfl, rfl⟩ | ⟨rfl, rfl⟩
  · exact wk_X6_187
  · exact wk_X6_193
/-! CODE: every method of the class and of the reference as a list of decoded rows (printed by program) -/
def fl_X5 : List (Nat × Nat × Nat) := [(10, 5, 0), (16, 5, 1), (22, 5, 2), (29, 5, 3), (43, 1, 2), (65, 0, 0), (76, 1, 3), (83, 1, 1), (86, 0, 4), (96, 1, 0), (135, 3, 5), (138, 3, 1), (147, 3, 0), (175, 4, 2), (184, 4, 3), (190, 2, 2)]
theorem fl_X5_ok : fw_Fld RX5 fl_X5 := by
  intro q hq
  simp only [fl_X5, List.mem_cons, List.not_mem_nil, or_false] at hq
  rcases hq with rfl | rfl | rfl | rfl | rfl | rfl | rfl | rfl | rfl | rfl | rfl | rfl | rfl | rfl | rfl | rfl
  · exact ⟨by decide, by decide, rfl, wf_X5_10⟩
  · exact ⟨by decide, by decide, rfl, wf_X5_16⟩
  · exact ⟨by decide, by decide, rfl, wf_X5_22⟩
  · exact ⟨by decide, by decide, rfl, wf_X5_29⟩
  · exact ⟨by decide, by decide, rfl, wf_X5_43⟩
  · exact ⟨by decide, by decide, rfl, wf_X5_65⟩
  · exact ⟨by decide, by decide, rfl, wf_X5_76⟩
  · exact ⟨by decide, by decide, rfl, wf_X5_83⟩
  · exact ⟨by decide, by decide, rfl, wf_X5_86⟩
  · exact ⟨by decide, by decide, rfl, wf_X5_96⟩
  · exact ⟨by decide, by decide, rfl, wf_X5_135⟩
  · exact ⟨by decide, by decide, rfl, wf_X5_138⟩
  · exact ⟨by decide, by decide, rfl, wf_X5_147⟩
  · exact ⟨by decide, by decide, rfl, wf_X5_175⟩
  · exact ⟨by decide, by decide, rfl, wf_X5_184⟩
  · exact ⟨by decide, by decide, rfl, wf_X5_190⟩
def fl_X0 : List (Nat × Nat × Nat) := [(9, 0, 4), (15, 0, 0), (18, 0, 1), (21, 0, 2), (27, 0, 3)]
theorem fl_X0_ok : fw_Fld RX0 fl_X0 := by
  intro q hq
  simp only [fl_X0, List.mem_cons, List.not_mem_nil, or_false] at hq
  rcases hq with rfl | rfl | rfl | rfl | rfl
  · exact ⟨by decide, by decide, rfl, wf_X0_9⟩
  · exact ⟨by decide, by decide, rfl, wf_X0_15⟩
  · exact ⟨by decide, by decide, rfl, wf_X0_18⟩
  · exact ⟨by decide, by decide, rfl, wf_X0_21⟩
  · exact ⟨by decide, by decide, rfl, wf_X0_27⟩
def fl_X1 : List (Nat × Nat × Nat) := [(11, 1, 7), (19, 1, 8), (23, 1, 1), (29, 1, 0), (32, 1, 2), (35, 1, 3), (38, 1, 4), (41, 1, 5), (44, 1, 6), (69, 0, 4), (72, 3, 4), (78, 0, 0), (92, 0, 3), (109, 0, 1), (112, 3, 1), (123, 3, 5), (131, 3, 6), (134, 3, 2), (137, 3, 3), (140, 3, 7), (144, 0, 2)]
theorem fl_X1_ok : fw_Fld RX1 fl_X1 := by
  intro q hq
  simp only [fl_X1, List.mem_cons, List.not_mem_nil, or_false] at hq
  rcases hq with rfl | rfl | rfl | rfl | rfl | rfl | rfl | rfl | rfl | rfl | rfl | rfl | rfl | rfl | rfl | rfl | rfl | rfl | rfl | rfl | rfl
  · exact ⟨by decide, by decide, rfl, wf_X1_11⟩
  · exact ⟨by decide, by decide, rfl, wf_X1_19⟩
  · exact ⟨by decide, by decide, rfl, wf_X1_23⟩
  · exact ⟨by decide, by decide, rfl, wf_X1_29⟩
  · exact ⟨by decide, by decide, rfl, wf_X1_32⟩
  · exact ⟨by decide, by decide, rfl, wf_X1_35⟩
  · exact ⟨by decide, by decide, rfl, wf_X1_38⟩
  · exact ⟨by decide, by decide, rfl, wf_X1_41⟩
  · exact ⟨by decide, by decide, rfl, wf_X1_44⟩
  · exact ⟨by decide, by decide, rfl, wf_X1_69⟩
  · exact ⟨by decide, by decide, rfl, wf_X1_72⟩
  · exact ⟨by decide, by decide, rfl, wf_X1_78⟩
  · exact ⟨by decide, by decide, rfl, wf_X1_92⟩
  · exact ⟨by decide, by decide, rfl, wf_X1_109⟩
  · exact ⟨by decide, by decide, rfl, wf_X1_112⟩
  · exact ⟨by decide, by decide, rfl, wf_X1_123⟩
  · exact ⟨by decide, by decide, rfl, wf_X1_131⟩
  · exact ⟨by decide, by decide, rfl, wf_X1_134⟩
  · exact ⟨by decide, by decide, rfl, wf_X1_137⟩
  · exact ⟨by decide, by decide, rfl, wf_X1_140⟩
  · exact ⟨by decide, by decide, rfl, wf_X1_144⟩
def fl_X2 : List (Nat × Nat × Nat) := [(11, 2, 0), (18, 2, 1), (22, 2, 2)]
theorem fl_X2_ok : fw_Fld RX2 fl_X2 := by
  intro q hq
  simp only [fl_X2, List.mem_cons, List.not_mem_nil, or_false] at hq
  rcases hq with rfl | rfl | rfl
  · exact ⟨by decide, by decide, rfl, wf_X2_11⟩
  · exact ⟨by decide, by decide, rfl, wf_X2_18⟩
  · exact ⟨by decide, by decide, rfl, wf_X2_22⟩
def fl_X3 : List (Nat × Nat × Nat) := [(9, 3, 8), (15, 3, 9), (18, 3, 0), (22, 3, 1), (25, 3, 2), (28, 3, 3), (31, 3, 4), (34, 3, 5), (37, 3, 6), (40, 3, 7)]
theorem fl_X3_ok : fw_Fld RX3 fl_X3 := by
  intro q hq
  simp only [fl_X3, List.mem_cons, List.not_mem_nil, or_false] at hq
  rcases hq with rfl | rfl | rfl | rfl | rfl | rfl | rfl | rfl | rfl | rfl
  · exact ⟨by decide, by decide, rfl, wf_X3_9⟩
  · exact ⟨by decide, by decide, rfl, wf_X3_15⟩
  · exact ⟨by decide, by decide, rfl, wf_X3_18⟩
  · exact ⟨by decide, by decide, rfl, wf_X3_22⟩
  · exact ⟨by decide, by decide, rfl, wf_X3_25⟩
  · exact ⟨by decide, by decide, rfl, wf_X3_28⟩
  · exact ⟨by decide, by decide, rfl, wf_X3_31⟩
  · exact ⟨by decide, by decide, rfl, wf_X3_34⟩
  · exact ⟨by decide, by decide, rfl, wf_X3_37⟩
  · exact ⟨by decide, by decide, rfl, wf_X3_40⟩
def fl_X4 : List (Nat × Nat × Nat) := [(9, 4, 0), (15, 4, 1), (18, 4, 2), (26, 4, 4), (29, 4, 3)]
theorem fl_X4_ok : fw_Fld RX4 fl_X4 := by
  intro q hq
  simp only [fl_X4, List.mem_cons, List.not_mem_nil, or_false] at hq
  rcases hq with rfl | rfl | rfl | rfl | rfl
  · exact ⟨by decide, by decide, rfl, wf_X4_9⟩
  · exact ⟨by decide, by decide, rfl, wf_X4_15⟩
  · exact ⟨by decide, by decide, rfl, wf_X4_18⟩
  · exact ⟨by decide, by decide, rfl, wf_X4_26⟩
  · exact ⟨by decide, by decide, rfl, wf_X4_29⟩
def fl_X6 : List (Nat × Nat × Nat) := [(7, 6, 0), (13, 6, 1), (16, 6, 2), (19, 6, 3), (22, 6, 5), (25, 6, 7), (33, 6, 4), (168, 6, 6), (171, 6, 8), (174, 6, 9), (189, 6, 10)]
theorem fl_X6_ok : fw_Fld RX6 fl_X6 := by
  intro q hq
  simp only [fl_X6, List.mem_cons, List.not_mem_nil, or_false] at hq
  rcases hq with rfl | rfl | rfl | rfl | rfl | rfl | rfl | rfl | rfl | rfl | rfl
  · exact ⟨by decide, by decide, rfl, wf_X6_7⟩
  · exact ⟨by decide, by decide, rfl, wf_X6_13⟩
  · exact ⟨by decide, by decide, rfl, wf_X6_16⟩
  · exact ⟨by decide, by decide, rfl, wf_X6_19⟩
  · exact ⟨by decide, by decide, rfl, wf_X6_22⟩
  · exact ⟨by decide, by decide, rfl, wf_X6_25⟩
  · exact ⟨by decide, by decide, rfl, wf_X6_33⟩
  · exact ⟨by decide, by decide, rfl, wf_X6_168⟩
  · exact ⟨by decide, by decide, rfl, wf_X6_171⟩
  · exact ⟨by decide, by decide, rfl, wf_X6_174⟩
  · exact ⟨by decide, by decide, rfl, wf_X6_189⟩
def kX0_begin : List fw_Ent := [
  (0, 1, .aload_n 0, 0, 0), (1, 1, .iload_n 1, 0, 0), (2, 3, .putfield 15, 0, 0), (5, 1, .aload_n 0, 0, 0),
  (6, 1, .iload_n 2, 0, 0), (7, 3, .putfield 18, 0, 0), (10, 1, .aload_n 0, 0, 0), (11, 1, .iconst 0, 0, 0),
  (12, 3, .putfield 21, 0, 0), (15, 1, .aload_n 0, 0, 0), (16, 3, .invokevirtual 24, 0, 0), (19, 1, .return_, 0, 0)]
theorem kX0_begin_ok : fw_chk cX0_begin 3 kX0_begin = true := by decide +kernel
theorem kX0_begin_cst : ∀ en ∈ kX0_begin, fw_CstOK RX0 cst_X0 en := by
  have h : kX0_begin.all (fw_cstq cp_X0) = true := by decide +kernel
  exact fun en he => fw_cstX cp_X0_ok cst_X0_ok (List.all_eq_true.mp h en he)
def kX0_become : List fw_Ent := [
  (0, 1, .aload_n 0, 0, 0), (1, 1, .aload_n 1, 0, 0), (2, 3, .getfield 15, 0, 0), (5, 3, .putfield 15, 0, 0),
  (8, 1, .aload_n 0, 0, 0), (9, 1, .aload_n 1, 0, 0), (10, 3, .getfield 18, 0, 0), (13, 3, .putfield 18, 0, 0),
  (16, 1, .aload_n 0, 0, 0), (17, 1, .aload_n 1, 0, 0), (18, 3, .getfield 21, 0, 0), (21, 3, .putfield 21, 0, 0),
  (24, 1, .aload_n 0, 0, 0), (25, 1, .aload_n 1, 0, 0), (26, 3, .getfield 27, 0, 0), (29, 3, .putfield 27, 0, 0),
  (32, 1, .aload_n 0, 0, 0), (33, 1, .aload_n 1, 0, 0), (34, 3, .getfield 9, 0, 0), (37, 3, .putfield 9, 0, 0),
  (40, 1, .return_, 0, 0)]
theorem kX0_become_ok : fw_chk cX0_become 2 kX0_become = true := by decide +kernel
theorem kX0_become_cst : ∀ en ∈ kX0_become, fw_CstOK RX0 cst_X0 en := by
  have h : kX0_become.all (fw_cstq cp_X0) = true := by decide +kernel
  exact fun en he => fw_cstX cp_X0_ok cst_X0_ok (List.all_eq_true.mp h en he)
def kX0_setFree : List fw_Ent := [
  (0, 1, .aload_n 0, 0, 0), (1, 1, .iconst 0, 0, 0), (2, 3, .putfield 27, 0, 0), (5, 1, .aload_n 0, 0, 0),
  (6, 1, .iconst (-1), (-1), 0), (7, 3, .putfield 9, 0, 0), (10, 1, .return_, 0, 0)]
theorem kX0_setFree_ok : fw_chk cX0_setFree 1 kX0_setFree = true := by decide +kernel
theorem kX0_setFree_cst : ∀ en ∈ kX0_setFree, fw_CstOK RX0 cst_X0 en := by
  have h : kX0_setFree.all (fw_cstq cp_X0) = true := by decide +kernel
  exact fun en he => fw_cstX cp_X0_ok cst_X0_ok (List.all_eq_true.mp h en he)
def kX1_become : List fw_Ent := [
  (0, 1, .aload_n 0, 0, 0), (1, 1, .aload_n 1, 0, 0), (2, 3, .getfield 29, 0, 0), (5, 3, .putfield 29, 0, 0),
  (8, 1, .aload_n 0, 0, 0), (9, 1, .aload_n 1, 0, 0), (10, 3, .getfield 23, 0, 0), (13, 3, .putfield 23, 0, 0),
  (16, 1, .aload_n 0, 0, 0), (17, 1, .aload_n 1, 0, 0), (18, 3, .getfield 32, 0, 0), (21, 3, .putfield 32, 0, 0),
  (24, 1, .aload_n 0, 0, 0), (25, 1, .aload_n 1, 0, 0), (26, 3, .getfield 35, 0, 0), (29, 3, .putfield 35, 0, 0),
  (32, 1, .aload_n 0, 0, 0), (33, 1, .aload_n 1, 0, 0), (34, 3, .getfield 38, 0, 0), (37, 3, .putfield 38, 0, 0),
  (40, 1, .aload_n 0, 0, 0), (41, 1, .aload_n 1, 0, 0), (42, 3, .getfield 41, 0, 0), (45, 3, .putfield 41, 0, 0),
  (48, 1, .aload_n 0, 0, 0), (49, 1, .aload_n 1, 0, 0), (50, 3, .getfield 44, 0, 0), (53, 3, .putfield 44, 0, 0),
  (56, 1, .iconst 0, 0, 0), (57, 1, .istore_n 2, 0, 0), (58, 1, .iload_n 2, 0, 0), (59, 1, .aload_n 0, 0, 0),
  (60, 3, .getfield 32, 0, 0), (63, 3, .if_icmp .ge 37, 0, 100), (66, 1, .aload_n 0, 0, 0), (67, 1, .iload_n 2, 0, 0),
  (68, 3, .invokevirtual 47, 0, 0), (71, 1, .astore_n 3, 0, 0), (72, 1, .aload_n 1, 0, 0), (73, 1, .iload_n 2, 0, 0),
  (74, 3, .invokevirtual 47, 0, 0), (77, 2, .astore 4, 0, 0), (79, 1, .aload_n 3, 0, 0), (80, 3, .ifnull 14, 0, 94),
  (83, 2, .aload 4, 0, 0), (85, 3, .ifnull 9, 0, 94), (88, 1, .aload_n 3, 0, 0), (89, 2, .aload 4, 0, 0),
  (91, 3, .invokevirtual 51, 0, 0), (94, 3, .iinc 2 1, 1, 0), (97, 3, .goto (-39), 0, 58), (100, 1, .iconst 0, 0, 0),
  (101, 1, .istore_n 2, 0, 0), (102, 1, .iload_n 2, 0, 0), (103, 1, .aload_n 0, 0, 0), (104, 3, .getfield 35, 0, 0),
  (107, 3, .if_icmp .ge 37, 0, 144), (110, 1, .aload_n 0, 0, 0), (111, 1, .iload_n 2, 0, 0), (112, 3, .invokevirtual 55, 0, 0),
  (115, 1, .astore_n 3, 0, 0), (116, 1, .aload_n 1, 0, 0), (117, 1, .iload_n 2, 0, 0), (118, 3, .invokevirtual 55, 0, 0),
  (121, 2, .astore 4, 0, 0), (123, 1, .aload_n 3, 0, 0), (124, 3, .ifnull 14, 0, 138), (127, 2, .aload 4, 0, 0),
  (129, 3, .ifnull 9, 0, 138), (132, 1, .aload_n 3, 0, 0), (133, 2, .aload 4, 0, 0), (135, 3, .invokevirtual 59, 0, 0),
  (138, 3, .iinc 2 1, 1, 0), (141, 3, .goto (-39), 0, 102), (144, 1, .return_, 0, 0)]
theorem kX1_become_ok : fw_chk cX1_become 5 kX1_become = true := by decide +kernel
theorem kX1_become_cst : ∀ en ∈ kX1_become, fw_CstOK RX1 cst_X1 en := by
  have h : kX1_become.all (fw_cstq cp_X1) = true := by decide +kernel
  exact fun en he => fw_cstX cp_X1_ok cst_X1_ok (List.all_eq_true.mp h en he)
def kX1_courierAt : List fw_Ent := [
  (0, 1, .iload_n 1, 0, 0), (1, 3, .ifCond .lt 20, 0, 21), (4, 1, .iload_n 1, 0, 0), (5, 1, .aload_n 0, 0, 0),
  (6, 3, .getfield 32, 0, 0), (9, 3, .if_icmp .ge 12, 0, 21), (12, 1, .iload_n 1, 0, 0), (13, 1, .aload_n 0, 0, 0),
  (14, 3, .getfield 11, 0, 0), (17, 1, .arraylength, 0, 0), (18, 3, .if_icmp .lt 5, 0, 23), (21, 1, .aconst_null, 0, 0),
  (22, 1, .areturn, 0, 0), (23, 1, .aload_n 0, 0, 0), (24, 3, .getfield 11, 0, 0), (27, 1, .iload_n 1, 0, 0),
  (28, 1, .aaload, 0, 0), (29, 1, .areturn, 0, 0)]
theorem kX1_courierAt_ok : fw_chk cX1_courierAt 2 kX1_courierAt = true := by decide +kernel
theorem kX1_courierAt_cst : ∀ en ∈ kX1_courierAt, fw_CstOK RX1 cst_X1 en := by
  have h : kX1_courierAt.all (fw_cstq cp_X1) = true := by decide +kernel
  exact fun en he => fw_cstX cp_X1_ok cst_X1_ok (List.all_eq_true.mp h en he)
def kX1_parcelAt : List fw_Ent := [
  (0, 1, .iload_n 1, 0, 0), (1, 3, .ifCond .lt 20, 0, 21), (4, 1, .iload_n 1, 0, 0), (5, 1, .aload_n 0, 0, 0),
  (6, 3, .getfield 35, 0, 0), (9, 3, .if_icmp .ge 12, 0, 21), (12, 1, .iload_n 1, 0, 0), (13, 1, .aload_n 0, 0, 0),
  (14, 3, .getfield 19, 0, 0), (17, 1, .arraylength, 0, 0), (18, 3, .if_icmp .lt 5, 0, 23), (21, 1, .aconst_null, 0, 0),
  (22, 1, .areturn, 0, 0), (23, 1, .aload_n 0, 0, 0), (24, 3, .getfield 19, 0, 0), (27, 1, .iload_n 1, 0, 0),
  (28, 1, .aaload, 0, 0), (29, 1, .areturn, 0, 0)]
theorem kX1_parcelAt_ok : fw_chk cX1_parcelAt 2 kX1_parcelAt = true := by decide +kernel
theorem kX1_parcelAt_cst : ∀ en ∈ kX1_parcelAt, fw_CstOK RX1 cst_X1 en := by
  have h : kX1_parcelAt.all (fw_cstq cp_X1) = true := by decide +kernel
  exact fun en he => fw_cstX cp_X1_ok cst_X1_ok (List.all_eq_true.mp h en he)
def kX1_join : List fw_Ent := [
  (0, 1, .aload_n 0, 0, 0), (1, 3, .getfield 32, 0, 0), (4, 1, .istore_n 3, 0, 0), (5, 1, .aload_n 0, 0, 0),
  (6, 1, .dup, 0, 0), (7, 3, .getfield 32, 0, 0), (10, 1, .iconst 1, 1, 0), (11, 1, .iadd, 0, 0),
  (12, 3, .putfield 32, 0, 0), (15, 1, .aload_n 0, 0, 0), (16, 1, .iload_n 3, 0, 0), (17, 3, .invokevirtual 47, 0, 0),
  (20, 2, .astore 4, 0, 0), (22, 2, .aload 4, 0, 0), (24, 3, .ifnull 10, 0, 34), (27, 2, .aload 4, 0, 0),
  (29, 1, .iload_n 1, 0, 0), (30, 1, .iload_n 2, 0, 0), (31, 3, .invokevirtual 62, 0, 0), (34, 1, .iload_n 3, 0, 0),
  (35, 1, .ireturn, 0, 0)]
theorem kX1_join_ok : fw_chk cX1_join 5 kX1_join = true := by decide +kernel
theorem kX1_join_cst : ∀ en ∈ kX1_join, fw_CstOK RX1 cst_X1 en := by
  have h : kX1_join.all (fw_cstq cp_X1) = true := by decide +kernel
  exact fun en he => fw_cstX cp_X1_ok cst_X1_ok (List.all_eq_true.mp h en he)
def kX1_accept : List fw_Ent := [
  (0, 1, .aload_n 0, 0, 0), (1, 3, .getfield 35, 0, 0), (4, 2, .istore 5, 0, 0), (6, 1, .aload_n 0, 0, 0),
  (7, 1, .dup, 0, 0), (8, 3, .getfield 35, 0, 0), (11, 1, .iconst 1, 1, 0), (12, 1, .iadd, 0, 0),
  (13, 3, .putfield 35, 0, 0), (16, 1, .aload_n 0, 0, 0), (17, 2, .iload 5, 0, 0), (19, 3, .invokevirtual 55, 0, 0),
  (22, 2, .astore 6, 0, 0), (24, 2, .aload 6, 0, 0), (26, 3, .ifnull 13, 0, 39), (29, 2, .aload 6, 0, 0),
  (31, 1, .iload_n 1, 0, 0), (32, 1, .iload_n 2, 0, 0), (33, 1, .iload_n 3, 0, 0), (34, 2, .iload 4, 0, 0),
  (36, 3, .invokevirtual 66, 0, 0), (39, 2, .iload 5, 0, 0), (41, 1, .ireturn, 0, 0)]
theorem kX1_accept_ok : fw_chk cX1_accept 7 kX1_accept = true := by decide +kernel
theorem kX1_accept_cst : ∀ en ∈ kX1_accept, fw_CstOK RX1 cst_X1 en := by
  have h : kX1_accept.all (fw_cstq cp_X1) = true := by decide +kernel
  exact fun en he => fw_cstX cp_X1_ok cst_X1_ok (List.all_eq_true.mp h en he)
def kX1_release : List fw_Ent := [
  (0, 1, .aload_n 0, 0, 0), (1, 1, .aload_n 1, 0, 0), (2, 3, .getfield 69, 0, 0), (5, 3, .invokevirtual 55, 0, 0),
  (8, 1, .astore_n 2, 0, 0), (9, 1, .aload_n 2, 0, 0), (10, 3, .ifnull 16, 0, 26), (13, 1, .aload_n 2, 0, 0),
  (14, 3, .getfield 72, 0, 0), (17, 1, .iconst 1, 1, 0), (18, 3, .if_icmp .ne 8, 0, 26), (21, 1, .aload_n 2, 0, 0),
  (22, 1, .iconst 0, 0, 0), (23, 3, .putfield 72, 0, 0), (26, 1, .aload_n 1, 0, 0), (27, 3, .invokevirtual 75, 0, 0),
  (30, 1, .return_, 0, 0)]
theorem kX1_release_ok : fw_chk cX1_release 3 kX1_release = true := by decide +kernel
theorem kX1_release_cst : ∀ en ∈ kX1_release, fw_CstOK RX1 cst_X1 en := by
  have h : kX1_release.all (fw_cstq cp_X1) = true := by decide +kernel
  exact fun en he => fw_cstX cp_X1_ok cst_X1_ok (List.all_eq_true.mp h en he)
def kX1_widen : List fw_Ent := [
  (0, 1, .aload_n 0, 0, 0), (1, 1, .iload_n 1, 0, 0), (2, 3, .invokevirtual 47, 0, 0), (5, 1, .astore_n 3, 0, 0),
  (6, 1, .aload_n 3, 0, 0), (7, 3, .ifnull 15, 0, 22), (10, 1, .aload_n 3, 0, 0), (11, 1, .dup, 0, 0),
  (12, 3, .getfield 78, 0, 0), (15, 1, .iconst 1, 1, 0), (16, 1, .iload_n 2, 0, 0), (17, 1, .ishl, 0, 0),
  (18, 1, .ior, 0, 0), (19, 3, .putfield 78, 0, 0), (22, 1, .return_, 0, 0)]
theorem kX1_widen_ok : fw_chk cX1_widen 4 kX1_widen = true := by decide +kernel
theorem kX1_widen_cst : ∀ en ∈ kX1_widen, fw_CstOK RX1 cst_X1 en := by
  have h : kX1_widen.all (fw_cstq cp_X1) = true := by decide +kernel
  exact fun en he => fw_cstX cp_X1_ok cst_X1_ok (List.all_eq_true.mp h en he)
def kX1_retire : List fw_Ent := [
  (0, 1, .aload_n 0, 0, 0), (1, 1, .iload_n 1, 0, 0), (2, 3, .invokevirtual 47, 0, 0), (5, 1, .astore_n 2, 0, 0),
  (6, 1, .aload_n 2, 0, 0), (7, 3, .ifnull 13, 0, 20), (10, 1, .aload_n 0, 0, 0), (11, 1, .aload_n 2, 0, 0),
  (12, 3, .invokevirtual 81, 0, 0), (15, 1, .aload_n 2, 0, 0), (16, 1, .iconst 0, 0, 0), (17, 3, .putfield 78, 0, 0),
  (20, 1, .return_, 0, 0)]
theorem kX1_retire_ok : fw_chk cX1_retire 3 kX1_retire = true := by decide +kernel
theorem kX1_retire_cst : ∀ en ∈ kX1_retire, fw_CstOK RX1 cst_X1 en := by
  have h : kX1_retire.all (fw_cstq cp_X1) = true := by decide +kernel
  exact fun en he => fw_cstX cp_X1_ok cst_X1_ok (List.all_eq_true.mp h en he)
def kX1_pass : List fw_Ent := [
  (0, 1, .aload_n 0, 0, 0), (1, 3, .getfield 38, 0, 0), (4, 1, .istore_n 2, 0, 0), (5, 1, .iconst 1, 1, 0),
  (6, 1, .istore_n 3, 0, 0), (7, 1, .iconst 0, 0, 0), (8, 2, .istore 4, 0, 0), (10, 2, .iload 4, 0, 0),
  (12, 1, .iload_n 1, 0, 0), (13, 3, .if_icmp .ge 15, 0, 28), (16, 1, .aload_n 0, 0, 0), (17, 1, .iload_n 3, 0, 0),
  (18, 3, .invokevirtual 84, 0, 0), (21, 1, .istore_n 3, 0, 0), (22, 3, .iinc 4 1, 1, 0), (25, 3, .goto (-15), 0, 10),
  (28, 1, .aload_n 0, 0, 0), (29, 3, .getfield 38, 0, 0), (32, 1, .iload_n 2, 0, 0), (33, 1, .isub, 0, 0),
  (34, 1, .ireturn, 0, 0)]
theorem kX1_pass_ok : fw_chk cX1_pass 5 kX1_pass = true := by decide +kernel
theorem kX1_pass_cst : ∀ en ∈ kX1_pass, fw_CstOK RX1 cst_X1 en := by
  have h : kX1_pass.all (fw_cstq cp_X1) = true := by decide +kernel
  exact fun en he => fw_cstX cp_X1_ok cst_X1_ok (List.all_eq_true.mp h en he)
def kX1_ticksUntilDone : List fw_Ent := [
  (0, 1, .iconst 1, 1, 0), (1, 1, .istore_n 1, 0, 0), (2, 1, .iconst 0, 0, 0), (3, 1, .istore_n 2, 0, 0),
  (4, 1, .iload_n 2, 0, 0), (5, 3, .sipush 1200, 1200, 0), (8, 3, .if_icmp .gt 33, 0, 41), (11, 1, .aload_n 0, 0, 0),
  (12, 1, .iconst 0, 0, 0), (13, 3, .invokevirtual 88, 0, 0), (16, 3, .ifCond .ne 13, 0, 29), (19, 1, .aload_n 0, 0, 0),
  (20, 1, .iconst 1, 1, 0), (21, 3, .invokevirtual 88, 0, 0), (24, 3, .ifCond .ne 5, 0, 29), (27, 1, .iload_n 2, 0, 0),
  (28, 1, .ireturn, 0, 0), (29, 1, .aload_n 0, 0, 0), (30, 1, .iload_n 1, 0, 0), (31, 3, .invokevirtual 84, 0, 0),
  (34, 1, .istore_n 1, 0, 0), (35, 3, .iinc 2 1, 1, 0), (38, 3, .goto (-34), 0, 4), (41, 1, .iconst (-1), (-1), 0),
  (42, 1, .ireturn, 0, 0)]
theorem kX1_ticksUntilDone_ok : fw_chk cX1_ticksUntilDone 3 kX1_ticksUntilDone = true := by decide +kernel
theorem kX1_ticksUntilDone_cst : ∀ en ∈ kX1_ticksUntilDone, fw_CstOK RX1 cst_X1 en := by
  have h : kX1_ticksUntilDone.all (fw_cstq cp_X1) = true := by decide +kernel
  exact fun en he => fw_cstX cp_X1_ok cst_X1_ok (List.all_eq_true.mp h en he)
def kX1_tick : List fw_Ent := [
  (0, 1, .iconst 0, 0, 0), (1, 1, .istore_n 2, 0, 0), (2, 1, .aload_n 0, 0, 0), (3, 1, .dup, 0, 0),
  (4, 3, .getfield 29, 0, 0), (7, 1, .iconst 1, 1, 0), (8, 1, .iadd, 0, 0), (9, 3, .putfield 29, 0, 0),
  (12, 1, .iconst 0, 0, 0), (13, 1, .istore_n 3, 0, 0), (14, 1, .iload_n 1, 0, 0), (15, 3, .ifCond .eq 143, 0, 158),
  (18, 1, .iload_n 3, 0, 0), (19, 1, .aload_n 0, 0, 0), (20, 3, .getfield 32, 0, 0), (23, 3, .if_icmp .ge 135, 0, 158),
  (26, 1, .aload_n 0, 0, 0), (27, 1, .iload_n 3, 0, 0), (28, 3, .invokevirtual 47, 0, 0), (31, 2, .astore 4, 0, 0),
  (33, 2, .aload 4, 0, 0), (35, 3, .ifnull 117, 0, 152), (38, 2, .aload 4, 0, 0), (40, 3, .getfield 92, 0, 0),
  (43, 3, .ifCond .ne 7, 0, 50), (46, 1, .iconst 1, 1, 0), (47, 3, .goto 4, 0, 51), (50, 1, .iconst 0, 0, 0),
  (51, 2, .istore 5, 0, 0), (53, 1, .aload_n 0, 0, 0), (54, 2, .aload 4, 0, 0), (56, 3, .getfield 69, 0, 0),
  (59, 3, .invokevirtual 55, 0, 0), (62, 2, .astore 6, 0, 0), (64, 2, .aload 6, 0, 0), (66, 3, .ifnull 24, 0, 90),
  (69, 2, .aload 4, 0, 0), (71, 3, .getfield 92, 0, 0), (74, 1, .iconst 2, 2, 0), (75, 3, .if_icmp .ne 15, 0, 90),
  (78, 1, .aload_n 0, 0, 0), (79, 2, .aload 4, 0, 0), (81, 1, .iload_n 3, 0, 0), (82, 2, .aload 6, 0, 0),
  (84, 3, .invokevirtual 95, 0, 0), (87, 3, .goto 42, 0, 129), (90, 2, .aload 6, 0, 0), (92, 3, .ifnull 31, 0, 123),
  (95, 2, .aload 4, 0, 0), (97, 3, .getfield 92, 0, 0), (100, 1, .iconst 1, 1, 0), (101, 3, .if_icmp .ne 22, 0, 123),
  (104, 2, .aload 6, 0, 0), (106, 3, .getfield 72, 0, 0), (109, 3, .ifCond .ne 14, 0, 123), (112, 1, .aload_n 0, 0, 0),
  (113, 2, .aload 4, 0, 0), (115, 2, .aload 6, 0, 0), (117, 3, .invokevirtual 99, 0, 0), (120, 3, .goto 9, 0, 129),
  (123, 1, .aload_n 0, 0, 0), (124, 2, .aload 4, 0, 0), (126, 3, .invokevirtual 103, 0, 0), (129, 1, .iload_n 2, 0, 0),
  (130, 3, .ifCond .ne 16, 0, 146), (133, 2, .iload 5, 0, 0), (135, 3, .ifCond .eq 11, 0, 146), (138, 2, .aload 4, 0, 0),
  (140, 3, .getfield 92, 0, 0), (143, 3, .ifCond .eq 7, 0, 150), (146, 1, .iconst 1, 1, 0), (147, 3, .goto 4, 0, 151),
  (150, 1, .iconst 0, 0, 0), (151, 1, .istore_n 2, 0, 0), (152, 3, .iinc 3 1, 1, 0), (155, 3, .goto (-141), 0, 14),
  (158, 1, .aload_n 0, 0, 0), (159, 3, .invokevirtual 106, 0, 0), (162, 1, .iload_n 2, 0, 0), (163, 1, .ireturn, 0, 0)]
theorem kX1_tick_ok : fw_chk cX1_tick 7 kX1_tick = true := by decide +kernel
theorem kX1_tick_cst : ∀ en ∈ kX1_tick, fw_CstOK RX1 cst_X1 en := by
  have h : kX1_tick.all (fw_cstq cp_X1) = true := by decide +kernel
  exact fun en he => fw_cstX cp_X1_ok cst_X1_ok (List.all_eq_true.mp h en he)
def kX1_carry : List fw_Ent := [
  (0, 1, .aload_n 1, 0, 0), (1, 3, .getfield 109, 0, 0), (4, 1, .aload_n 3, 0, 0), (5, 3, .getfield 112, 0, 0),
  (8, 3, .invokestatic 115, 0, 0), (11, 2, .istore 4, 0, 0), (13, 1, .aload_n 1, 0, 0), (14, 3, .getfield 78, 0, 0),
  (17, 2, .iload 4, 0, 0), (19, 3, .invokestatic 119, 0, 0), (22, 3, .ifCond .ne 23, 0, 45), (25, 1, .aload_n 3, 0, 0),
  (26, 1, .iconst 0, 0, 0), (27, 3, .putfield 72, 0, 0), (30, 1, .aload_n 0, 0, 0), (31, 1, .dup, 0, 0),
  (32, 3, .getfield 41, 0, 0), (35, 1, .iconst 1, 1, 0), (36, 1, .iadd, 0, 0), (37, 3, .putfield 41, 0, 0),
  (40, 1, .aload_n 1, 0, 0), (41, 3, .invokevirtual 75, 0, 0), (44, 1, .return_, 0, 0), (45, 1, .aload_n 1, 0, 0),
  (46, 2, .iload 4, 0, 0), (48, 3, .putfield 109, 0, 0), (51, 1, .aload_n 0, 0, 0), (52, 1, .dup, 0, 0),
  (53, 3, .getfield 44, 0, 0), (56, 1, .iconst 1, 1, 0), (57, 1, .iadd, 0, 0), (58, 3, .putfield 44, 0, 0),
  (61, 1, .aload_n 3, 0, 0), (62, 2, .iload 4, 0, 0), (64, 3, .putfield 123, 0, 0), (67, 1, .aload_n 3, 0, 0),
  (68, 1, .iload_n 2, 0, 0), (69, 3, .invokevirtual 124, 0, 0), (72, 2, .iload 4, 0, 0), (74, 1, .aload_n 3, 0, 0),
  (75, 3, .getfield 112, 0, 0), (78, 3, .if_icmp .ne 12, 0, 90), (81, 1, .aload_n 0, 0, 0), (82, 1, .aload_n 3, 0, 0),
  (83, 3, .invokevirtual 128, 0, 0), (86, 1, .aload_n 1, 0, 0), (87, 3, .invokevirtual 75, 0, 0), (90, 1, .return_, 0, 0)]
theorem kX1_carry_ok : fw_chk cX1_carry 5 kX1_carry = true := by decide +kernel
theorem kX1_carry_cst : ∀ en ∈ kX1_carry, fw_CstOK RX1 cst_X1 en := by
  have h : kX1_carry.all (fw_cstq cp_X1) = true := by decide +kernel
  exact fun en he => fw_cstX cp_X1_ok cst_X1_ok (List.all_eq_true.mp h en he)
def kX1_deliver : List fw_Ent := [
  (0, 1, .aload_n 1, 0, 0), (1, 1, .iconst 2, 2, 0), (2, 3, .putfield 72, 0, 0), (5, 1, .aload_n 1, 0, 0),
  (6, 1, .aload_n 0, 0, 0), (7, 3, .getfield 29, 0, 0), (10, 3, .putfield 131, 0, 0), (13, 1, .aload_n 1, 0, 0),
  (14, 1, .aload_n 0, 0, 0), (15, 3, .getfield 29, 0, 0), (18, 1, .aload_n 1, 0, 0), (19, 3, .getfield 134, 0, 0),
  (22, 3, .if_icmp .gt 10, 0, 32), (25, 1, .aload_n 1, 0, 0), (26, 3, .getfield 137, 0, 0), (29, 3, .goto 9, 0, 38),
  (32, 1, .aload_n 1, 0, 0), (33, 3, .getfield 137, 0, 0), (36, 1, .iconst 2, 2, 0), (37, 1, .idiv, 0, 0),
  (38, 3, .putfield 140, 0, 0), (41, 1, .aload_n 0, 0, 0), (42, 1, .dup, 0, 0), (43, 3, .getfield 38, 0, 0),
  (46, 1, .aload_n 1, 0, 0), (47, 3, .getfield 140, 0, 0), (50, 1, .iadd, 0, 0), (51, 3, .putfield 38, 0, 0),
  (54, 1, .aload_n 1, 0, 0), (55, 3, .invokevirtual 141, 0, 0), (58, 1, .iconst 0, 0, 0), (59, 1, .istore_n 2, 0, 0),
  (60, 1, .iload_n 2, 0, 0), (61, 1, .aload_n 0, 0, 0), (62, 3, .getfield 32, 0, 0), (65, 3, .if_icmp .ge 33, 0, 98),
  (68, 1, .aload_n 0, 0, 0), (69, 1, .iload_n 2, 0, 0), (70, 3, .invokevirtual 47, 0, 0), (73, 1, .astore_n 3, 0, 0),
  (74, 1, .aload_n 3, 0, 0), (75, 3, .ifnull 17, 0, 92), (78, 1, .aload_n 3, 0, 0), (79, 1, .dup, 0, 0),
  (80, 3, .getfield 144, 0, 0), (83, 1, .aload_n 1, 0, 0), (84, 1, .iload_n 2, 0, 0), (85, 3, .invokevirtual 147, 0, 0),
  (88, 1, .iadd, 0, 0), (89, 3, .putfield 144, 0, 0), (92, 3, .iinc 2 1, 1, 0), (95, 3, .goto (-35), 0, 60),
  (98, 1, .return_, 0, 0)]
theorem kX1_deliver_ok : fw_chk cX1_deliver 4 kX1_deliver = true := by decide +kernel
theorem kX1_deliver_cst : ∀ en ∈ kX1_deliver, fw_CstOK RX1 cst_X1 en := by
  have h : kX1_deliver.all (fw_cstq cp_X1) = true := by decide +kernel
  exact fun en he => fw_cstX cp_X1_ok cst_X1_ok (List.all_eq_true.mp h en he)
def kX1_approach : List fw_Ent := [
  (0, 1, .aload_n 1, 0, 0), (1, 3, .getfield 109, 0, 0), (4, 1, .aload_n 2, 0, 0), (5, 3, .getfield 123, 0, 0),
  (8, 3, .if_icmp .ne 16, 0, 24), (11, 1, .aload_n 1, 0, 0), (12, 1, .iconst 2, 2, 0), (13, 3, .putfield 92, 0, 0),
  (16, 1, .aload_n 2, 0, 0), (17, 1, .iconst 1, 1, 0), (18, 3, .putfield 72, 0, 0), (21, 3, .goto 28, 0, 49),
  (24, 1, .aload_n 1, 0, 0), (25, 1, .aload_n 1, 0, 0), (26, 3, .getfield 109, 0, 0), (29, 1, .aload_n 2, 0, 0),
  (30, 3, .getfield 123, 0, 0), (33, 3, .invokestatic 115, 0, 0), (36, 3, .putfield 109, 0, 0), (39, 1, .aload_n 0, 0, 0),
  (40, 1, .dup, 0, 0), (41, 3, .getfield 44, 0, 0), (44, 1, .iconst 1, 1, 0), (45, 1, .iadd, 0, 0),
  (46, 3, .putfield 44, 0, 0), (49, 1, .return_, 0, 0)]
theorem kX1_approach_ok : fw_chk cX1_approach 3 kX1_approach = true := by decide +kernel
theorem kX1_approach_cst : ∀ en ∈ kX1_approach, fw_CstOK RX1 cst_X1 en := by
  have h : kX1_approach.all (fw_cstq cp_X1) = true := by decide +kernel
  exact fun en he => fw_cstX cp_X1_ok cst_X1_ok (List.all_eq_true.mp h en he)
def kX1_choose : List fw_Ent := [
  (0, 1, .aload_n 1, 0, 0), (1, 3, .invokevirtual 75, 0, 0), (4, 1, .iconst (-1), (-1), 0), (5, 1, .istore_n 2, 0, 0),
  (6, 3, .sipush 1000, 1000, 0), (9, 1, .istore_n 3, 0, 0), (10, 1, .iconst 0, 0, 0), (11, 2, .istore 4, 0, 0),
  (13, 2, .iload 4, 0, 0), (15, 1, .aload_n 0, 0, 0), (16, 3, .getfield 35, 0, 0), (19, 3, .if_icmp .ge 69, 0, 88),
  (22, 1, .aload_n 0, 0, 0), (23, 2, .iload 4, 0, 0), (25, 3, .invokevirtual 55, 0, 0), (28, 2, .astore 5, 0, 0),
  (30, 2, .aload 5, 0, 0), (32, 3, .ifnull 50, 0, 82), (35, 2, .aload 5, 0, 0), (37, 3, .getfield 72, 0, 0),
  (40, 3, .ifCond .ne 42, 0, 82), (43, 2, .aload 5, 0, 0), (45, 3, .getfield 134, 0, 0), (48, 1, .iload_n 3, 0, 0),
  (49, 3, .if_icmp .ge 33, 0, 82), (52, 2, .aload 5, 0, 0), (54, 1, .aload_n 1, 0, 0), (55, 3, .getfield 78, 0, 0),
  (58, 3, .invokevirtual 150, 0, 0), (61, 3, .ifCond .eq 21, 0, 82), (64, 1, .aload_n 0, 0, 0), (65, 2, .iload 4, 0, 0),
  (67, 3, .invokevirtual 154, 0, 0), (70, 3, .ifCond .ne 12, 0, 82), (73, 2, .iload 4, 0, 0), (75, 1, .istore_n 2, 0, 0),
  (76, 2, .aload 5, 0, 0), (78, 3, .getfield 134, 0, 0), (81, 1, .istore_n 3, 0, 0), (82, 3, .iinc 4 1, 1, 0),
  (85, 3, .goto (-72), 0, 13), (88, 1, .iload_n 2, 0, 0), (89, 1, .iconst (-1), (-1), 0), (90, 3, .if_icmp .eq 13, 0, 103),
  (93, 1, .aload_n 1, 0, 0), (94, 1, .iconst 1, 1, 0), (95, 3, .putfield 92, 0, 0), (98, 1, .aload_n 1, 0, 0),
  (99, 1, .iload_n 2, 0, 0), (100, 3, .putfield 69, 0, 0), (103, 1, .return_, 0, 0)]
theorem kX1_choose_ok : fw_chk cX1_choose 6 kX1_choose = true := by decide +kernel
theorem kX1_choose_cst : ∀ en ∈ kX1_choose, fw_CstOK RX1 cst_X1 en := by
  have h : kX1_choose.all (fw_cstq cp_X1) = true := by decide +kernel
  exact fun en he => fw_cstX cp_X1_ok cst_X1_ok (List.all_eq_true.mp h en he)
def kX1_isSought : List fw_Ent := [
  (0, 1, .iconst 0, 0, 0), (1, 1, .istore_n 2, 0, 0), (2, 1, .iload_n 2, 0, 0), (3, 1, .aload_n 0, 0, 0),
  (4, 3, .getfield 32, 0, 0), (7, 3, .if_icmp .ge 29, 0, 36), (10, 1, .aload_n 0, 0, 0), (11, 1, .iload_n 2, 0, 0),
  (12, 3, .invokevirtual 47, 0, 0), (15, 1, .astore_n 3, 0, 0), (16, 1, .aload_n 3, 0, 0), (17, 3, .ifnull 13, 0, 30),
  (20, 1, .aload_n 3, 0, 0), (21, 3, .getfield 69, 0, 0), (24, 1, .iload_n 1, 0, 0), (25, 3, .if_icmp .ne 5, 0, 30),
  (28, 1, .iconst 1, 1, 0), (29, 1, .ireturn, 0, 0), (30, 3, .iinc 2 1, 1, 0), (33, 3, .goto (-31), 0, 2),
  (36, 1, .iconst 0, 0, 0), (37, 1, .ireturn, 0, 0)]
theorem kX1_isSought_ok : fw_chk cX1_isSought 4 kX1_isSought = true := by decide +kernel
theorem kX1_isSought_cst : ∀ en ∈ kX1_isSought, fw_CstOK RX1 cst_X1 en := by
  have h : kX1_isSought.all (fw_cstq cp_X1) = true := by decide +kernel
  exact fun en he => fw_cstX cp_X1_ok cst_X1_ok (List.all_eq_true.mp h en he)
def kX1_failLateParcels : List fw_Ent := [
  (0, 1, .iconst 0, 0, 0), (1, 1, .istore_n 1, 0, 0), (2, 1, .iload_n 1, 0, 0), (3, 1, .aload_n 0, 0, 0),
  (4, 3, .getfield 35, 0, 0), (7, 3, .if_icmp .ge 52, 0, 59), (10, 1, .aload_n 0, 0, 0), (11, 1, .iload_n 1, 0, 0),
  (12, 3, .invokevirtual 55, 0, 0), (15, 1, .astore_n 2, 0, 0), (16, 1, .aload_n 2, 0, 0), (17, 3, .ifnull 36, 0, 53),
  (20, 1, .aload_n 2, 0, 0), (21, 3, .invokevirtual 157, 0, 0), (24, 3, .ifCond .eq 29, 0, 53), (27, 1, .aload_n 2, 0, 0),
  (28, 3, .getfield 134, 0, 0), (31, 1, .aload_n 0, 0, 0), (32, 3, .getfield 23, 0, 0), (35, 1, .iadd, 0, 0),
  (36, 1, .aload_n 0, 0, 0), (37, 3, .getfield 29, 0, 0), (40, 3, .if_icmp .ge 13, 0, 53), (43, 1, .aload_n 2, 0, 0),
  (44, 1, .iconst 3, 3, 0), (45, 3, .putfield 72, 0, 0), (48, 1, .aload_n 0, 0, 0), (49, 1, .iload_n 1, 0, 0),
  (50, 3, .invokevirtual 161, 0, 0), (53, 3, .iinc 1 1, 1, 0), (56, 3, .goto (-54), 0, 2), (59, 1, .return_, 0, 0)]
theorem kX1_failLateParcels_ok : fw_chk cX1_failLateParcels 3 kX1_failLateParcels = true := by decide +kernel
theorem kX1_failLateParcels_cst : ∀ en ∈ kX1_failLateParcels, fw_CstOK RX1 cst_X1 en := by
  have h : kX1_failLateParcels.all (fw_cstq cp_X1) = true := by decide +kernel
  exact fun en he => fw_cstX cp_X1_ok cst_X1_ok (List.all_eq_true.mp h en he)
def kX1_freeCouriersOf : List fw_Ent := [
  (0, 1, .iconst 0, 0, 0), (1, 1, .istore_n 2, 0, 0), (2, 1, .iload_n 2, 0, 0), (3, 1, .aload_n 0, 0, 0),
  (4, 3, .getfield 32, 0, 0), (7, 3, .if_icmp .ge 31, 0, 38), (10, 1, .aload_n 0, 0, 0), (11, 1, .iload_n 2, 0, 0),
  (12, 3, .invokevirtual 47, 0, 0), (15, 1, .astore_n 3, 0, 0), (16, 1, .aload_n 3, 0, 0), (17, 3, .ifnull 15, 0, 32),
  (20, 1, .aload_n 3, 0, 0), (21, 3, .getfield 69, 0, 0), (24, 1, .iload_n 1, 0, 0), (25, 3, .if_icmp .ne 7, 0, 32),
  (28, 1, .aload_n 3, 0, 0), (29, 3, .invokevirtual 75, 0, 0), (32, 3, .iinc 2 1, 1, 0), (35, 3, .goto (-33), 0, 2),
  (38, 1, .return_, 0, 0)]
theorem kX1_freeCouriersOf_ok : fw_chk cX1_freeCouriersOf 4 kX1_freeCouriersOf = true := by decide +kernel
theorem kX1_freeCouriersOf_cst : ∀ en ∈ kX1_freeCouriersOf, fw_CstOK RX1 cst_X1 en := by
  have h : kX1_freeCouriersOf.all (fw_cstq cp_X1) = true := by decide +kernel
  exact fun en he => fw_cstX cp_X1_ok cst_X1_ok (List.all_eq_true.mp h en he)
def kX1_carriersOf : List fw_Ent := [
  (0, 1, .iconst 0, 0, 0), (1, 1, .istore_n 3, 0, 0), (2, 1, .iconst 0, 0, 0), (3, 2, .istore 4, 0, 0),
  (5, 2, .iload 4, 0, 0), (7, 1, .aload_n 0, 0, 0), (8, 3, .getfield 32, 0, 0), (11, 3, .if_icmp .ge 53, 0, 64),
  (14, 1, .aload_n 0, 0, 0), (15, 2, .iload 4, 0, 0), (17, 3, .invokevirtual 47, 0, 0), (20, 2, .astore 5, 0, 0),
  (22, 2, .aload 5, 0, 0), (24, 3, .ifnull 34, 0, 58), (27, 2, .aload 5, 0, 0), (29, 3, .getfield 78, 0, 0),
  (32, 1, .iload_n 1, 0, 0), (33, 3, .invokestatic 119, 0, 0), (36, 3, .ifCond .eq 22, 0, 58), (39, 2, .aload 5, 0, 0),
  (41, 3, .getfield 78, 0, 0), (44, 1, .iload_n 2, 0, 0), (45, 3, .invokestatic 119, 0, 0), (48, 3, .ifCond .eq 10, 0, 58),
  (51, 1, .iload_n 3, 0, 0), (52, 1, .iconst 1, 1, 0), (53, 2, .iload 4, 0, 0), (55, 1, .ishl, 0, 0),
  (56, 1, .ior, 0, 0), (57, 1, .istore_n 3, 0, 0), (58, 3, .iinc 4 1, 1, 0), (61, 3, .goto (-56), 0, 5),
  (64, 1, .iload_n 3, 0, 0), (65, 1, .ireturn, 0, 0)]
theorem kX1_carriersOf_ok : fw_chk cX1_carriersOf 6 kX1_carriersOf = true := by decide +kernel
theorem kX1_carriersOf_cst : ∀ en ∈ kX1_carriersOf, fw_CstOK RX1 cst_X1 en := by
  have h : kX1_carriersOf.all (fw_cstq cp_X1) = true := by decide +kernel
  exact fun en he => fw_cstX cp_X1_ok cst_X1_ok (List.all_eq_true.mp h en he)
def kX1_shortestRelay : List fw_Ent := [
  (0, 1, .iconst 0, 0, 0), (1, 1, .istore_n 3, 0, 0), (2, 1, .iconst 0, 0, 0), (3, 2, .istore 4, 0, 0),
  (5, 1, .iload_n 1, 0, 0), (6, 2, .istore 5, 0, 0), (8, 1, .iconst 0, 0, 0), (9, 2, .istore 6, 0, 0),
  (11, 2, .iload 6, 0, 0), (13, 2, .bipush 16, 16, 0), (15, 3, .if_icmp .ge 63, 0, 78), (18, 2, .iload 5, 0, 0),
  (20, 1, .iload_n 2, 0, 0), (21, 3, .if_icmp .eq 57, 0, 78), (24, 2, .iload 5, 0, 0), (26, 1, .iload_n 2, 0, 0),
  (27, 3, .invokestatic 115, 0, 0), (30, 2, .istore 7, 0, 0), (32, 1, .aload_n 0, 0, 0), (33, 2, .iload 5, 0, 0),
  (35, 2, .iload 7, 0, 0), (37, 3, .invokevirtual 164, 0, 0), (40, 2, .istore 8, 0, 0), (42, 2, .iload 8, 0, 0),
  (44, 3, .ifCond .ne 5, 0, 49), (47, 1, .iconst (-1), (-1), 0), (48, 1, .ireturn, 0, 0), (49, 2, .iload 4, 0, 0),
  (51, 2, .iload 8, 0, 0), (53, 1, .iand, 0, 0), (54, 2, .istore 4, 0, 0), (56, 2, .iload 4, 0, 0),
  (58, 3, .ifCond .ne 10, 0, 68), (61, 3, .iinc 3 1, 1, 0), (64, 2, .iload 8, 0, 0), (66, 2, .istore 4, 0, 0),
  (68, 2, .iload 7, 0, 0), (70, 2, .istore 5, 0, 0), (72, 3, .iinc 6 1, 1, 0), (75, 3, .goto (-64), 0, 11),
  (78, 1, .iload_n 3, 0, 0), (79, 1, .ireturn, 0, 0)]
theorem kX1_shortestRelay_ok : fw_chk cX1_shortestRelay 9 kX1_shortestRelay = true := by decide +kernel
theorem kX1_shortestRelay_cst : ∀ en ∈ kX1_shortestRelay, fw_CstOK RX1 cst_X1 en := by
  have h : kX1_shortestRelay.all (fw_cstq cp_X1) = true := by decide +kernel
  exact fun en he => fw_cstX cp_X1_ok cst_X1_ok (List.all_eq_true.mp h en he)
def kX1_parcelsIn : List fw_Ent := [
  (0, 1, .iconst 0, 0, 0), (1, 1, .istore_n 2, 0, 0), (2, 1, .iconst 0, 0, 0), (3, 1, .istore_n 3, 0, 0),
  (4, 1, .iload_n 3, 0, 0), (5, 1, .aload_n 0, 0, 0), (6, 3, .getfield 35, 0, 0), (9, 3, .if_icmp .ge 33, 0, 42),
  (12, 1, .aload_n 0, 0, 0), (13, 1, .iload_n 3, 0, 0), (14, 3, .invokevirtual 55, 0, 0), (17, 2, .astore 4, 0, 0),
  (19, 2, .aload 4, 0, 0), (21, 3, .ifnull 15, 0, 36), (24, 2, .aload 4, 0, 0), (26, 3, .getfield 72, 0, 0),
  (29, 1, .iload_n 1, 0, 0), (30, 3, .if_icmp .ne 6, 0, 36), (33, 3, .iinc 2 1, 1, 0), (36, 3, .iinc 3 1, 1, 0),
  (39, 3, .goto (-35), 0, 4), (42, 1, .iload_n 2, 0, 0), (43, 1, .ireturn, 0, 0)]
theorem kX1_parcelsIn_ok : fw_chk cX1_parcelsIn 5 kX1_parcelsIn = true := by decide +kernel
theorem kX1_parcelsIn_cst : ∀ en ∈ kX1_parcelsIn, fw_CstOK RX1 cst_X1 en := by
  have h : kX1_parcelsIn.all (fw_cstq cp_X1) = true := by decide +kernel
  exact fun en he => fw_cstX cp_X1_ok cst_X1_ok (List.all_eq_true.mp h en he)
def kX1_parcelsInTime : List fw_Ent := [
  (0, 1, .iconst 0, 0, 0), (1, 1, .istore_n 1, 0, 0), (2, 1, .iconst 0, 0, 0), (3, 1, .istore_n 2, 0, 0),
  (4, 1, .iload_n 2, 0, 0), (5, 1, .aload_n 0, 0, 0), (6, 3, .getfield 35, 0, 0), (9, 3, .if_icmp .ge 41, 0, 50),
  (12, 1, .aload_n 0, 0, 0), (13, 1, .iload_n 2, 0, 0), (14, 3, .invokevirtual 55, 0, 0), (17, 1, .astore_n 3, 0, 0),
  (18, 1, .aload_n 3, 0, 0), (19, 3, .ifnull 25, 0, 44), (22, 1, .aload_n 3, 0, 0), (23, 3, .getfield 72, 0, 0),
  (26, 1, .iconst 2, 2, 0), (27, 3, .if_icmp .ne 17, 0, 44), (30, 1, .aload_n 3, 0, 0), (31, 3, .getfield 131, 0, 0),
  (34, 1, .aload_n 3, 0, 0), (35, 3, .getfield 134, 0, 0), (38, 3, .if_icmp .gt 6, 0, 44), (41, 3, .iinc 1 1, 1, 0),
  (44, 3, .iinc 2 1, 1, 0), (47, 3, .goto (-43), 0, 4), (50, 1, .iload_n 1, 0, 0), (51, 1, .ireturn, 0, 0)]
theorem kX1_parcelsInTime_ok : fw_chk cX1_parcelsInTime 4 kX1_parcelsInTime = true := by decide +kernel
theorem kX1_parcelsInTime_cst : ∀ en ∈ kX1_parcelsInTime, fw_CstOK RX1 cst_X1 en := by
  have h : kX1_parcelsInTime.all (fw_cstq cp_X1) = true := by decide +kernel
  exact fun en he => fw_cstX cp_X1_ok cst_X1_ok (List.all_eq_true.mp h en he)
def kX1_legsBy : List fw_Ent := [
  (0, 1, .iconst 0, 0, 0), (1, 1, .istore_n 2, 0, 0), (2, 1, .iconst 0, 0, 0), (3, 1, .istore_n 3, 0, 0),
  (4, 1, .iload_n 3, 0, 0), (5, 1, .aload_n 0, 0, 0), (6, 3, .getfield 35, 0, 0), (9, 3, .if_icmp .ge 30, 0, 39),
  (12, 1, .aload_n 0, 0, 0), (13, 1, .iload_n 3, 0, 0), (14, 3, .invokevirtual 55, 0, 0), (17, 2, .astore 4, 0, 0),
  (19, 2, .aload 4, 0, 0), (21, 3, .ifnull 12, 0, 33), (24, 1, .iload_n 2, 0, 0), (25, 2, .aload 4, 0, 0),
  (27, 1, .iload_n 1, 0, 0), (28, 3, .invokevirtual 167, 0, 0), (31, 1, .iadd, 0, 0), (32, 1, .istore_n 2, 0, 0),
  (33, 3, .iinc 3 1, 1, 0), (36, 3, .goto (-32), 0, 4), (39, 1, .iload_n 2, 0, 0), (40, 1, .ireturn, 0, 0)]
theorem kX1_legsBy_ok : fw_chk cX1_legsBy 5 kX1_legsBy = true := by decide +kernel
theorem kX1_legsBy_cst : ∀ en ∈ kX1_legsBy, fw_CstOK RX1 cst_X1 en := by
  have h : kX1_legsBy.all (fw_cstq cp_X1) = true := by decide +kernel
  exact fun en he => fw_cstX cp_X1_ok cst_X1_ok (List.all_eq_true.mp h en he)
def kX1_figure : List fw_Ent := [
  (0, 1, .iload_n 1, 0, 0), (1, 59, .tableswitch 94 0 10 #[59, 64, 69, 74, 94, 94, 94, 94, 79, 84, 89], 0, 0), (60, 1, .aload_n 0, 0, 0), (61, 3, .getfield 29, 0, 0),
  (64, 1, .ireturn, 0, 0), (65, 1, .aload_n 0, 0, 0), (66, 3, .getfield 32, 0, 0), (69, 1, .ireturn, 0, 0),
  (70, 1, .aload_n 0, 0, 0), (71, 3, .getfield 35, 0, 0), (74, 1, .ireturn, 0, 0), (75, 1, .aload_n 0, 0, 0),
  (76, 3, .getfield 23, 0, 0), (79, 1, .ireturn, 0, 0), (80, 1, .aload_n 0, 0, 0), (81, 3, .getfield 38, 0, 0),
  (84, 1, .ireturn, 0, 0), (85, 1, .aload_n 0, 0, 0), (86, 3, .getfield 41, 0, 0), (89, 1, .ireturn, 0, 0),
  (90, 1, .aload_n 0, 0, 0), (91, 3, .getfield 44, 0, 0), (94, 1, .ireturn, 0, 0), (95, 1, .aload_n 0, 0, 0),
  (96, 1, .iload_n 1, 0, 0), (97, 1, .iconst 4, 4, 0), (98, 1, .isub, 0, 0), (99, 3, .invokevirtual 88, 0, 0),
  (102, 1, .ireturn, 0, 0)]
theorem kX1_figure_ok : fw_chk cX1_figure 2 kX1_figure = true := by decide +kernel
theorem kX1_figure_cst : ∀ en ∈ kX1_figure, fw_CstOK RX1 cst_X1 en := by
  have h : kX1_figure.all (fw_cstq cp_X1) = true := by decide +kernel
  exact fun en he => fw_cstX cp_X1_ok cst_X1_ok (List.all_eq_true.mp h en he)
def kX1_courierFigure : List fw_Ent := [
  (0, 1, .iload_n 3, 0, 0), (1, 35, .tableswitch 60 0 4 #[35, 40, 45, 50, 55], 0, 0), (36, 1, .aload_n 1, 0, 0), (37, 3, .getfield 78, 0, 0),
  (40, 1, .ireturn, 0, 0), (41, 1, .aload_n 1, 0, 0), (42, 3, .getfield 109, 0, 0), (45, 1, .ireturn, 0, 0),
  (46, 1, .aload_n 1, 0, 0), (47, 3, .getfield 144, 0, 0), (50, 1, .ireturn, 0, 0), (51, 1, .aload_n 1, 0, 0),
  (52, 3, .getfield 92, 0, 0), (55, 1, .ireturn, 0, 0), (56, 1, .aload_n 1, 0, 0), (57, 3, .getfield 69, 0, 0),
  (60, 1, .ireturn, 0, 0), (61, 1, .aload_n 0, 0, 0), (62, 1, .iload_n 2, 0, 0), (63, 3, .invokevirtual 170, 0, 0),
  (66, 1, .ireturn, 0, 0)]
theorem kX1_courierFigure_ok : fw_chk cX1_courierFigure 4 kX1_courierFigure = true := by decide +kernel
theorem kX1_courierFigure_cst : ∀ en ∈ kX1_courierFigure, fw_CstOK RX1 cst_X1 en := by
  have h : kX1_courierFigure.all (fw_cstq cp_X1) = true := by decide +kernel
  exact fun en he => fw_cstX cp_X1_ok cst_X1_ok (List.all_eq_true.mp h en he)
def kX1_hashCouriers : List fw_Ent := [
  (0, 1, .lload_n 1, 0, 0), (1, 1, .lstore_n 3, 0, 0), (2, 1, .iconst 0, 0, 0), (3, 2, .istore 5, 0, 0),
  (5, 2, .iload 5, 0, 0), (7, 1, .aload_n 0, 0, 0), (8, 3, .getfield 32, 0, 0), (11, 3, .if_icmp .ge 55, 0, 66),
  (14, 1, .aload_n 0, 0, 0), (15, 2, .iload 5, 0, 0), (17, 3, .invokevirtual 47, 0, 0), (20, 2, .astore 6, 0, 0),
  (22, 1, .iconst 0, 0, 0), (23, 2, .istore 7, 0, 0), (25, 2, .aload 6, 0, 0), (27, 3, .ifnull 33, 0, 60),
  (30, 2, .iload 7, 0, 0), (32, 1, .iconst 5, 5, 0), (33, 3, .if_icmp .gt 27, 0, 60), (36, 3, .ldc2_w 173, 0, 0),
  (39, 1, .lload_n 3, 0, 0), (40, 1, .lmul, 0, 0), (41, 1, .aload_n 0, 0, 0), (42, 2, .aload 6, 0, 0),
  (44, 2, .iload 5, 0, 0), (46, 2, .iload 7, 0, 0), (48, 3, .invokevirtual 175, 0, 0), (51, 1, .i2l, 0, 0),
  (52, 1, .ladd, 0, 0), (53, 1, .lstore_n 3, 0, 0), (54, 3, .iinc 7 1, 1, 0), (57, 3, .goto (-32), 0, 25),
  (60, 3, .iinc 5 1, 1, 0), (63, 3, .goto (-58), 0, 5), (66, 1, .lload_n 3, 0, 0), (67, 1, .lreturn, 0, 0)]
theorem kX1_hashCouriers_ok : fw_chk cX1_hashCouriers 8 kX1_hashCouriers = true := by decide +kernel
theorem kX1_hashCouriers_cst : ∀ en ∈ kX1_hashCouriers, fw_CstOK RX1 cst_X1 en := by
  have h : kX1_hashCouriers.all (fw_cstq cp_X1) = true := by decide +kernel
  exact fun en he => fw_cstX cp_X1_ok cst_X1_ok (List.all_eq_true.mp h en he)
def kX1_hashParcels : List fw_Ent := [
  (0, 1, .lload_n 1, 0, 0), (1, 1, .lstore_n 3, 0, 0), (2, 1, .iconst 0, 0, 0), (3, 2, .istore 5, 0, 0),
  (5, 2, .iload 5, 0, 0), (7, 1, .aload_n 0, 0, 0), (8, 3, .getfield 35, 0, 0), (11, 3, .if_icmp .ge 106, 0, 117),
  (14, 1, .aload_n 0, 0, 0), (15, 2, .iload 5, 0, 0), (17, 3, .invokevirtual 55, 0, 0), (20, 2, .astore 6, 0, 0),
  (22, 1, .iconst 0, 0, 0), (23, 2, .istore 7, 0, 0), (25, 2, .aload 6, 0, 0), (27, 3, .ifnull 31, 0, 58),
  (30, 2, .iload 7, 0, 0), (32, 2, .bipush 8, 8, 0), (34, 3, .if_icmp .gt 24, 0, 58), (37, 3, .ldc2_w 173, 0, 0),
  (40, 1, .lload_n 3, 0, 0), (41, 1, .lmul, 0, 0), (42, 2, .aload 6, 0, 0), (44, 2, .iload 7, 0, 0),
  (46, 3, .invokevirtual 179, 0, 0), (49, 1, .i2l, 0, 0), (50, 1, .ladd, 0, 0), (51, 1, .lstore_n 3, 0, 0),
  (52, 3, .iinc 7 1, 1, 0), (55, 3, .goto (-30), 0, 25), (58, 1, .iconst 0, 0, 0), (59, 2, .istore 7, 0, 0),
  (61, 2, .aload 6, 0, 0), (63, 3, .ifnull 48, 0, 111), (66, 2, .iload 7, 0, 0), (68, 1, .aload_n 0, 0, 0),
  (69, 3, .getfield 32, 0, 0), (72, 3, .if_icmp .ge 39, 0, 111), (75, 3, .ldc2_w 173, 0, 0), (78, 1, .lload_n 3, 0, 0),
  (79, 1, .lmul, 0, 0), (80, 2, .aload 6, 0, 0), (82, 2, .iload 7, 0, 0), (84, 3, .invokevirtual 167, 0, 0),
  (87, 1, .i2l, 0, 0), (88, 1, .ladd, 0, 0), (89, 1, .lstore_n 3, 0, 0), (90, 3, .ldc2_w 173, 0, 0),
  (93, 1, .lload_n 3, 0, 0), (94, 1, .lmul, 0, 0), (95, 2, .aload 6, 0, 0), (97, 2, .iload 7, 0, 0),
  (99, 3, .invokevirtual 147, 0, 0), (102, 1, .i2l, 0, 0), (103, 1, .ladd, 0, 0), (104, 1, .lstore_n 3, 0, 0),
  (105, 3, .iinc 7 1, 1, 0), (108, 3, .goto (-47), 0, 61), (111, 3, .iinc 5 1, 1, 0), (114, 3, .goto (-109), 0, 5),
  (117, 1, .lload_n 3, 0, 0), (118, 1, .lreturn, 0, 0)]
theorem kX1_hashParcels_ok : fw_chk cX1_hashParcels 8 kX1_hashParcels = true := by decide +kernel
theorem kX1_hashParcels_cst : ∀ en ∈ kX1_hashParcels, fw_CstOK RX1 cst_X1 en := by
  have h : kX1_hashParcels.all (fw_cstq cp_X1) = true := by decide +kernel
  exact fun en he => fw_cstX cp_X1_ok cst_X1_ok (List.all_eq_true.mp h en he)
def kX2_stateAt : List fw_Ent := [
  (0, 1, .aload_n 0, 0, 0), (1, 3, .getfield 18, 0, 0), (4, 1, .iload_n 1, 0, 0), (5, 1, .iadd, 0, 0),
  (6, 1, .iconst 4, 4, 0), (7, 1, .irem, 0, 0), (8, 1, .istore_n 2, 0, 0), (9, 1, .iload_n 2, 0, 0),
  (10, 3, .ifCond .lt 12, 0, 22), (13, 1, .iload_n 2, 0, 0), (14, 1, .aload_n 0, 0, 0), (15, 3, .getfield 11, 0, 0),
  (18, 1, .arraylength, 0, 0), (19, 3, .if_icmp .lt 5, 0, 24), (22, 1, .aconst_null, 0, 0), (23, 1, .areturn, 0, 0),
  (24, 1, .aload_n 0, 0, 0), (25, 3, .getfield 11, 0, 0), (28, 1, .iload_n 2, 0, 0), (29, 1, .aaload, 0, 0),
  (30, 1, .areturn, 0, 0)]
theorem kX2_stateAt_ok : fw_chk cX2_stateAt 3 kX2_stateAt = true := by decide +kernel
theorem kX2_stateAt_cst : ∀ en ∈ kX2_stateAt, fw_CstOK RX2 cst_X2 en := by
  have h : kX2_stateAt.all (fw_cstq cp_X2) = true := by decide +kernel
  exact fun en he => fw_cstX cp_X2_ok cst_X2_ok (List.all_eq_true.mp h en he)
def kX2_save : List fw_Ent := [
  (0, 1, .aload_n 0, 0, 0), (1, 3, .getfield 22, 0, 0), (4, 1, .iconst 4, 4, 0), (5, 3, .if_icmp .lt 25, 0, 30),
  (8, 1, .aload_n 0, 0, 0), (9, 1, .aload_n 0, 0, 0), (10, 3, .getfield 18, 0, 0), (13, 1, .iconst 1, 1, 0),
  (14, 1, .iadd, 0, 0), (15, 1, .iconst 4, 4, 0), (16, 1, .irem, 0, 0), (17, 3, .putfield 18, 0, 0),
  (20, 1, .aload_n 0, 0, 0), (21, 1, .dup, 0, 0), (22, 3, .getfield 22, 0, 0), (25, 1, .iconst 1, 1, 0),
  (26, 1, .isub, 0, 0), (27, 3, .putfield 22, 0, 0), (30, 1, .aload_n 0, 0, 0), (31, 1, .aload_n 0, 0, 0),
  (32, 3, .getfield 22, 0, 0), (35, 3, .invokevirtual 25, 0, 0), (38, 1, .astore_n 2, 0, 0), (39, 1, .aload_n 2, 0, 0),
  (40, 3, .ifnull 8, 0, 48), (43, 1, .aload_n 2, 0, 0), (44, 1, .aload_n 1, 0, 0), (45, 3, .invokevirtual 29, 0, 0),
  (48, 1, .aload_n 0, 0, 0), (49, 1, .dup, 0, 0), (50, 3, .getfield 22, 0, 0), (53, 1, .iconst 1, 1, 0),
  (54, 1, .iadd, 0, 0), (55, 3, .putfield 22, 0, 0), (58, 1, .return_, 0, 0)]
theorem kX2_save_ok : fw_chk cX2_save 3 kX2_save = true := by decide +kernel
theorem kX2_save_cst : ∀ en ∈ kX2_save, fw_CstOK RX2 cst_X2 en := by
  have h : kX2_save.all (fw_cstq cp_X2) = true := by decide +kernel
  exact fun en he => fw_cstX cp_X2_ok cst_X2_ok (List.all_eq_true.mp h en he)
def kX2_restore : List fw_Ent := [
  (0, 1, .aload_n 0, 0, 0), (1, 1, .dup, 0, 0), (2, 3, .getfield 22, 0, 0), (5, 1, .iconst 1, 1, 0),
  (6, 1, .isub, 0, 0), (7, 3, .putfield 22, 0, 0), (10, 1, .aload_n 0, 0, 0), (11, 1, .aload_n 0, 0, 0),
  (12, 3, .getfield 22, 0, 0), (15, 3, .invokevirtual 25, 0, 0), (18, 1, .astore_n 2, 0, 0), (19, 1, .aload_n 2, 0, 0),
  (20, 3, .ifnull 8, 0, 28), (23, 1, .aload_n 1, 0, 0), (24, 1, .aload_n 2, 0, 0), (25, 3, .invokevirtual 29, 0, 0),
  (28, 1, .return_, 0, 0)]
theorem kX2_restore_ok : fw_chk cX2_restore 3 kX2_restore = true := by decide +kernel
theorem kX2_restore_cst : ∀ en ∈ kX2_restore, fw_CstOK RX2 cst_X2 en := by
  have h : kX2_restore.all (fw_cstq cp_X2) = true := by decide +kernel
  exact fun en he => fw_cstX cp_X2_ok cst_X2_ok (List.all_eq_true.mp h en he)
def kX3_begin : List fw_Ent := [
  (0, 1, .aload_n 0, 0, 0), (1, 1, .iload_n 1, 0, 0), (2, 3, .putfield 18, 0, 0), (5, 1, .aload_n 0, 0, 0),
  (6, 1, .iload_n 2, 0, 0), (7, 3, .putfield 22, 0, 0), (10, 1, .aload_n 0, 0, 0), (11, 1, .iload_n 3, 0, 0),
  (12, 3, .putfield 25, 0, 0), (15, 1, .aload_n 0, 0, 0), (16, 2, .iload 4, 0, 0), (18, 3, .putfield 28, 0, 0),
  (21, 1, .aload_n 0, 0, 0), (22, 1, .iconst 0, 0, 0), (23, 3, .putfield 31, 0, 0), (26, 1, .aload_n 0, 0, 0),
  (27, 1, .iload_n 1, 0, 0), (28, 3, .putfield 34, 0, 0), (31, 1, .aload_n 0, 0, 0), (32, 1, .iconst (-1), (-1), 0),
  (33, 3, .putfield 37, 0, 0), (36, 1, .aload_n 0, 0, 0), (37, 1, .iconst 0, 0, 0), (38, 3, .putfield 40, 0, 0),
  (41, 1, .iconst 0, 0, 0), (42, 2, .istore 5, 0, 0), (44, 2, .iload 5, 0, 0), (46, 1, .aload_n 0, 0, 0),
  (47, 3, .getfield 9, 0, 0), (50, 1, .arraylength, 0, 0), (51, 3, .if_icmp .ge 17, 0, 68), (54, 1, .aload_n 0, 0, 0),
  (55, 3, .getfield 9, 0, 0), (58, 2, .iload 5, 0, 0), (60, 1, .iconst 0, 0, 0), (61, 1, .iastore, 0, 0),
  (62, 3, .iinc 5 1, 1, 0), (65, 3, .goto (-21), 0, 44), (68, 1, .iconst 0, 0, 0), (69, 2, .istore 5, 0, 0),
  (71, 2, .iload 5, 0, 0), (73, 1, .aload_n 0, 0, 0), (74, 3, .getfield 15, 0, 0), (77, 1, .arraylength, 0, 0),
  (78, 3, .if_icmp .ge 17, 0, 95), (81, 1, .aload_n 0, 0, 0), (82, 3, .getfield 15, 0, 0), (85, 2, .iload 5, 0, 0),
  (87, 1, .iconst 0, 0, 0), (88, 1, .iastore, 0, 0), (89, 3, .iinc 5 1, 1, 0), (92, 3, .goto (-21), 0, 71),
  (95, 1, .return_, 0, 0)]
theorem kX3_begin_ok : fw_chk cX3_begin 6 kX3_begin = true := by decide +kernel
theorem kX3_begin_cst : ∀ en ∈ kX3_begin, fw_CstOK RX3 cst_X3 en := by
  have h : kX3_begin.all (fw_cstq cp_X3) = true := by decide +kernel
  exact fun en he => fw_cstX cp_X3_ok cst_X3_ok (List.all_eq_true.mp h en he)
def kX3_become : List fw_Ent := [
  (0, 1, .aload_n 0, 0, 0), (1, 1, .aload_n 1, 0, 0), (2, 3, .getfield 18, 0, 0), (5, 3, .putfield 18, 0, 0),
  (8, 1, .aload_n 0, 0, 0), (9, 1, .aload_n 1, 0, 0), (10, 3, .getfield 22, 0, 0), (13, 3, .putfield 22, 0, 0),
  (16, 1, .aload_n 0, 0, 0), (17, 1, .aload_n 1, 0, 0), (18, 3, .getfield 25, 0, 0), (21, 3, .putfield 25, 0, 0),
  (24, 1, .aload_n 0, 0, 0), (25, 1, .aload_n 1, 0, 0), (26, 3, .getfield 28, 0, 0), (29, 3, .putfield 28, 0, 0),
  (32, 1, .aload_n 0, 0, 0), (33, 1, .aload_n 1, 0, 0), (34, 3, .getfield 31, 0, 0), (37, 3, .putfield 31, 0, 0),
  (40, 1, .aload_n 0, 0, 0), (41, 1, .aload_n 1, 0, 0), (42, 3, .getfield 34, 0, 0), (45, 3, .putfield 34, 0, 0),
  (48, 1, .aload_n 0, 0, 0), (49, 1, .aload_n 1, 0, 0), (50, 3, .getfield 37, 0, 0), (53, 3, .putfield 37, 0, 0),
  (56, 1, .aload_n 0, 0, 0), (57, 1, .aload_n 1, 0, 0), (58, 3, .getfield 40, 0, 0), (61, 3, .putfield 40, 0, 0),
  (64, 1, .aload_n 1, 0, 0), (65, 3, .getfield 9, 0, 0), (68, 1, .aload_n 0, 0, 0), (69, 3, .getfield 9, 0, 0),
  (72, 3, .invokestatic 43, 0, 0), (75, 1, .aload_n 1, 0, 0), (76, 3, .getfield 15, 0, 0), (79, 1, .aload_n 0, 0, 0),
  (80, 3, .getfield 15, 0, 0), (83, 3, .invokestatic 43, 0, 0), (86, 1, .return_, 0, 0)]
theorem kX3_become_ok : fw_chk cX3_become 2 kX3_become = true := by decide +kernel
theorem kX3_become_cst : ∀ en ∈ kX3_become, fw_CstOK RX3 cst_X3 en := by
  have h : kX3_become.all (fw_cstq cp_X3) = true := by decide +kernel
  exact fun en he => fw_cstX cp_X3_ok cst_X3_ok (List.all_eq_true.mp h en he)
def kX3_isOpen : List fw_Ent := [
  (0, 1, .aload_n 0, 0, 0), (1, 3, .getfield 31, 0, 0), (4, 3, .ifCond .eq 11, 0, 15), (7, 1, .aload_n 0, 0, 0),
  (8, 3, .getfield 31, 0, 0), (11, 1, .iconst 1, 1, 0), (12, 3, .if_icmp .ne 7, 0, 19), (15, 1, .iconst 1, 1, 0),
  (16, 3, .goto 4, 0, 20), (19, 1, .iconst 0, 0, 0), (20, 1, .ireturn, 0, 0)]
theorem kX3_isOpen_ok : fw_chk cX3_isOpen 1 kX3_isOpen = true := by decide +kernel
theorem kX3_isOpen_cst : ∀ en ∈ kX3_isOpen, fw_CstOK RX3 cst_X3 en := by
  have h : kX3_isOpen.all (fw_cstq cp_X3) = true := by decide +kernel
  exact fun en he => fw_cstX cp_X3_ok cst_X3_ok (List.all_eq_true.mp h en he)
def kX3_suits : List fw_Ent := [
  (0, 1, .iload_n 1, 0, 0), (1, 1, .aload_n 0, 0, 0), (2, 3, .getfield 34, 0, 0), (5, 3, .invokestatic 47, 0, 0),
  (8, 3, .ifCond .eq 25, 0, 33), (11, 1, .iload_n 1, 0, 0), (12, 1, .aload_n 0, 0, 0), (13, 3, .getfield 34, 0, 0),
  (16, 1, .aload_n 0, 0, 0), (17, 3, .getfield 22, 0, 0), (20, 3, .invokestatic 51, 0, 0), (23, 3, .invokestatic 47, 0, 0),
  (26, 3, .ifCond .eq 7, 0, 33), (29, 1, .iconst 1, 1, 0), (30, 3, .goto 4, 0, 34), (33, 1, .iconst 0, 0, 0),
  (34, 1, .ireturn, 0, 0)]
theorem kX3_suits_ok : fw_chk cX3_suits 2 kX3_suits = true := by decide +kernel
theorem kX3_suits_cst : ∀ en ∈ kX3_suits, fw_CstOK RX3 cst_X3 en := by
  have h : kX3_suits.all (fw_cstq cp_X3) = true := by decide +kernel
  exact fun en he => fw_cstX cp_X3_ok cst_X3_ok (List.all_eq_true.mp h en he)
def kX3_legsOf : List fw_Ent := [
  (0, 1, .aload_n 0, 0, 0), (1, 3, .getfield 9, 0, 0), (4, 1, .iload_n 1, 0, 0), (5, 3, .invokestatic 55, 0, 0),
  (8, 1, .ireturn, 0, 0)]
theorem kX3_legsOf_ok : fw_chk cX3_legsOf 2 kX3_legsOf = true := by decide +kernel
theorem kX3_legsOf_cst : ∀ en ∈ kX3_legsOf, fw_CstOK RX3 cst_X3 en := by
  have h : kX3_legsOf.all (fw_cstq cp_X3) = true := by decide +kernel
  exact fun en he => fw_cstX cp_X3_ok cst_X3_ok (List.all_eq_true.mp h en he)
def kX3_shareOf : List fw_Ent := [
  (0, 1, .aload_n 0, 0, 0), (1, 3, .getfield 15, 0, 0), (4, 1, .iload_n 1, 0, 0), (5, 3, .invokestatic 55, 0, 0),
  (8, 1, .ireturn, 0, 0)]
theorem kX3_shareOf_ok : fw_chk cX3_shareOf 2 kX3_shareOf = true := by decide +kernel
theorem kX3_shareOf_cst : ∀ en ∈ kX3_shareOf, fw_CstOK RX3 cst_X3 en := by
  have h : kX3_shareOf.all (fw_cstq cp_X3) = true := by decide +kernel
  exact fun en he => fw_cstX cp_X3_ok cst_X3_ok (List.all_eq_true.mp h en he)
def kX3_addLeg : List fw_Ent := [
  (0, 1, .iload_n 1, 0, 0), (1, 3, .ifCond .lt 22, 0, 23), (4, 1, .iload_n 1, 0, 0), (5, 1, .aload_n 0, 0, 0),
  (6, 3, .getfield 9, 0, 0), (9, 1, .arraylength, 0, 0), (10, 3, .if_icmp .ge 13, 0, 23), (13, 1, .aload_n 0, 0, 0),
  (14, 3, .getfield 9, 0, 0), (17, 1, .iload_n 1, 0, 0), (18, 1, .dup2, 0, 0), (19, 1, .iaload, 0, 0),
  (20, 1, .iconst 1, 1, 0), (21, 1, .iadd, 0, 0), (22, 1, .iastore, 0, 0), (23, 1, .return_, 0, 0)]
theorem kX3_addLeg_ok : fw_chk cX3_addLeg 2 kX3_addLeg = true := by decide +kernel
theorem kX3_addLeg_cst : ∀ en ∈ kX3_addLeg, fw_CstOK RX3 cst_X3 en := by
  have h : kX3_addLeg.all (fw_cstq cp_X3) = true := by decide +kernel
  exact fun en he => fw_cstX cp_X3_ok cst_X3_ok (List.all_eq_true.mp h en he)
def kX3_sharePaid : List fw_Ent := [
  (0, 1, .aload_n 0, 0, 0), (1, 3, .getfield 9, 0, 0), (4, 3, .invokestatic 59, 0, 0), (7, 1, .istore_n 1, 0, 0),
  (8, 1, .iload_n 1, 0, 0), (9, 3, .ifCond .gt 4, 0, 13), (12, 1, .return_, 0, 0), (13, 1, .aload_n 0, 0, 0),
  (14, 3, .getfield 40, 0, 0), (17, 1, .istore_n 2, 0, 0), (18, 1, .iconst 0, 0, 0), (19, 1, .istore_n 3, 0, 0),
  (20, 1, .iload_n 3, 0, 0), (21, 1, .aload_n 0, 0, 0), (22, 3, .getfield 9, 0, 0), (25, 1, .arraylength, 0, 0),
  (26, 3, .if_icmp .ge 46, 0, 72), (29, 1, .iload_n 3, 0, 0), (30, 1, .aload_n 0, 0, 0), (31, 3, .getfield 15, 0, 0),
  (34, 1, .arraylength, 0, 0), (35, 3, .if_icmp .ge 37, 0, 72), (38, 1, .aload_n 0, 0, 0), (39, 3, .getfield 15, 0, 0),
  (42, 1, .iload_n 3, 0, 0), (43, 1, .aload_n 0, 0, 0), (44, 3, .getfield 40, 0, 0), (47, 1, .aload_n 0, 0, 0),
  (48, 3, .getfield 9, 0, 0), (51, 1, .iload_n 3, 0, 0), (52, 1, .iaload, 0, 0), (53, 1, .imul, 0, 0),
  (54, 1, .iload_n 1, 0, 0), (55, 1, .idiv, 0, 0), (56, 1, .iastore, 0, 0), (57, 1, .iload_n 2, 0, 0),
  (58, 1, .aload_n 0, 0, 0), (59, 3, .getfield 15, 0, 0), (62, 1, .iload_n 3, 0, 0), (63, 1, .iaload, 0, 0),
  (64, 1, .isub, 0, 0), (65, 1, .istore_n 2, 0, 0), (66, 3, .iinc 3 1, 1, 0), (69, 3, .goto (-49), 0, 20),
  (72, 1, .iconst 0, 0, 0), (73, 1, .istore_n 3, 0, 0), (74, 1, .iload_n 3, 0, 0), (75, 1, .aload_n 0, 0, 0),
  (76, 3, .getfield 9, 0, 0), (79, 1, .arraylength, 0, 0), (80, 3, .if_icmp .ge 51, 0, 131), (83, 1, .iload_n 3, 0, 0),
  (84, 1, .aload_n 0, 0, 0), (85, 3, .getfield 15, 0, 0), (88, 1, .arraylength, 0, 0), (89, 3, .if_icmp .ge 42, 0, 131),
  (92, 1, .aload_n 0, 0, 0), (93, 1, .iload_n 3, 0, 0), (94, 1, .aload_n 0, 0, 0), (95, 3, .getfield 40, 0, 0),
  (98, 1, .aload_n 0, 0, 0), (99, 3, .getfield 9, 0, 0), (102, 1, .iload_n 3, 0, 0), (103, 1, .iaload, 0, 0),
  (104, 1, .imul, 0, 0), (105, 1, .iload_n 1, 0, 0), (106, 1, .irem, 0, 0), (107, 1, .iload_n 1, 0, 0),
  (108, 3, .invokevirtual 63, 0, 0), (111, 1, .iload_n 2, 0, 0), (112, 3, .if_icmp .ge 13, 0, 125), (115, 1, .aload_n 0, 0, 0),
  (116, 3, .getfield 15, 0, 0), (119, 1, .iload_n 3, 0, 0), (120, 1, .dup2, 0, 0), (121, 1, .iaload, 0, 0),
  (122, 1, .iconst 1, 1, 0), (123, 1, .iadd, 0, 0), (124, 1, .iastore, 0, 0), (125, 3, .iinc 3 1, 1, 0),
  (128, 3, .goto (-54), 0, 74), (131, 1, .return_, 0, 0)]
theorem kX3_sharePaid_ok : fw_chk cX3_sharePaid 4 kX3_sharePaid = true := by decide +kernel
theorem kX3_sharePaid_cst : ∀ en ∈ kX3_sharePaid, fw_CstOK RX3 cst_X3 en := by
  have h : kX3_sharePaid.all (fw_cstq cp_X3) = true := by decide +kernel
  exact fun en he => fw_cstX cp_X3_ok cst_X3_ok (List.all_eq_true.mp h en he)
def kX3_rankOf : List fw_Ent := [
  (0, 1, .iconst 0, 0, 0), (1, 2, .istore 4, 0, 0), (3, 1, .iconst 0, 0, 0), (4, 2, .istore 5, 0, 0),
  (6, 2, .iload 5, 0, 0), (8, 1, .aload_n 0, 0, 0), (9, 3, .getfield 9, 0, 0), (12, 1, .arraylength, 0, 0),
  (13, 3, .if_icmp .ge 50, 0, 63), (16, 1, .iload_n 3, 0, 0), (17, 3, .ifCond .le 46, 0, 63), (20, 1, .aload_n 0, 0, 0),
  (21, 3, .getfield 40, 0, 0), (24, 1, .aload_n 0, 0, 0), (25, 3, .getfield 9, 0, 0), (28, 2, .iload 5, 0, 0),
  (30, 1, .iaload, 0, 0), (31, 1, .imul, 0, 0), (32, 1, .iload_n 3, 0, 0), (33, 1, .irem, 0, 0),
  (34, 2, .istore 6, 0, 0), (36, 2, .iload 6, 0, 0), (38, 1, .iload_n 2, 0, 0), (39, 3, .if_icmp .gt 15, 0, 54),
  (42, 2, .iload 6, 0, 0), (44, 1, .iload_n 2, 0, 0), (45, 3, .if_icmp .ne 12, 0, 57), (48, 2, .iload 5, 0, 0),
  (50, 1, .iload_n 1, 0, 0), (51, 3, .if_icmp .ge 6, 0, 57), (54, 3, .iinc 4 1, 1, 0), (57, 3, .iinc 5 1, 1, 0),
  (60, 3, .goto (-54), 0, 6), (63, 2, .iload 4, 0, 0), (65, 1, .ireturn, 0, 0)]
theorem kX3_rankOf_ok : fw_chk cX3_rankOf 7 kX3_rankOf = true := by decide +kernel
theorem kX3_rankOf_cst : ∀ en ∈ kX3_rankOf, fw_CstOK RX3 cst_X3 en := by
  have h : kX3_rankOf.all (fw_cstq cp_X3) = true := by decide +kernel
  exact fun en he => fw_cstX cp_X3_ok cst_X3_ok (List.all_eq_true.mp h en he)
def kX3_figure : List fw_Ent := [
  (0, 1, .iload_n 1, 0, 0), (1, 47, .tableswitch 87 0 7 #[47, 52, 57, 62, 67, 72, 77, 82], 0, 0), (48, 1, .aload_n 0, 0, 0), (49, 3, .getfield 18, 0, 0),
  (52, 1, .ireturn, 0, 0), (53, 1, .aload_n 0, 0, 0), (54, 3, .getfield 22, 0, 0), (57, 1, .ireturn, 0, 0),
  (58, 1, .aload_n 0, 0, 0), (59, 3, .getfield 25, 0, 0), (62, 1, .ireturn, 0, 0), (63, 1, .aload_n 0, 0, 0),
  (64, 3, .getfield 28, 0, 0), (67, 1, .ireturn, 0, 0), (68, 1, .aload_n 0, 0, 0), (69, 3, .getfield 31, 0, 0),
  (72, 1, .ireturn, 0, 0), (73, 1, .aload_n 0, 0, 0), (74, 3, .getfield 34, 0, 0), (77, 1, .ireturn, 0, 0),
  (78, 1, .aload_n 0, 0, 0), (79, 3, .getfield 37, 0, 0), (82, 1, .ireturn, 0, 0), (83, 1, .aload_n 0, 0, 0),
  (84, 3, .getfield 40, 0, 0), (87, 1, .ireturn, 0, 0), (88, 1, .aload_n 0, 0, 0), (89, 3, .getfield 9, 0, 0),
  (92, 3, .invokestatic 59, 0, 0), (95, 1, .ireturn, 0, 0)]
theorem kX3_figure_ok : fw_chk cX3_figure 2 kX3_figure = true := by decide +kernel
theorem kX3_figure_cst : ∀ en ∈ kX3_figure, fw_CstOK RX3 cst_X3 en := by
  have h : kX3_figure.all (fw_cstq cp_X3) = true := by decide +kernel
  exact fun en he => fw_cstX cp_X3_ok cst_X3_ok (List.all_eq_true.mp h en he)
def kX4_add : List fw_Ent := [
  (0, 1, .aload_n 0, 0, 0), (1, 3, .getfield 18, 0, 0), (4, 3, .ifCond .lt 35, 0, 39), (7, 1, .aload_n 0, 0, 0),
  (8, 3, .getfield 18, 0, 0), (11, 1, .aload_n 0, 0, 0), (12, 3, .getfield 9, 0, 0), (15, 1, .arraylength, 0, 0),
  (16, 3, .if_icmp .ge 23, 0, 39), (19, 1, .aload_n 0, 0, 0), (20, 3, .getfield 9, 0, 0), (23, 1, .aload_n 0, 0, 0),
  (24, 3, .getfield 18, 0, 0), (27, 1, .iload_n 1, 0, 0), (28, 1, .iastore, 0, 0), (29, 1, .aload_n 0, 0, 0),
  (30, 1, .dup, 0, 0), (31, 3, .getfield 18, 0, 0), (34, 1, .iconst 1, 1, 0), (35, 1, .iadd, 0, 0),
  (36, 3, .putfield 18, 0, 0), (39, 1, .return_, 0, 0)]
theorem kX4_add_ok : fw_chk cX4_add 2 kX4_add = true := by decide +kernel
theorem kX4_add_cst : ∀ en ∈ kX4_add, fw_CstOK RX4 cst_X4 en := by
  have h : kX4_add.all (fw_cstq cp_X4) = true := by decide +kernel
  exact fun en he => fw_cstX cp_X4_ok cst_X4_ok (List.all_eq_true.mp h en he)
def kX4_numberOf : List fw_Ent := [
  (0, 1, .aload_n 0, 0, 0), (1, 3, .getfield 15, 0, 0), (4, 1, .iload_n 1, 0, 0), (5, 1, .iconst 4, 4, 0),
  (6, 1, .imul, 0, 0), (7, 1, .iload_n 2, 0, 0), (8, 1, .iadd, 0, 0), (9, 3, .invokestatic 22, 0, 0),
  (12, 1, .ireturn, 0, 0)]
theorem kX4_numberOf_ok : fw_chk cX4_numberOf 3 kX4_numberOf = true := by decide +kernel
theorem kX4_numberOf_cst : ∀ en ∈ kX4_numberOf, fw_CstOK RX4 cst_X4 en := by
  have h : kX4_numberOf.all (fw_cstq cp_X4) = true := by decide +kernel
  exact fun en he => fw_cstX cp_X4_ok cst_X4_ok (List.all_eq_true.mp h en he)
def kX4_read : List fw_Ent := [
  (0, 1, .aload_n 0, 0, 0), (1, 1, .iconst 0, 0, 0), (2, 3, .putfield 26, 0, 0), (5, 1, .aload_n 0, 0, 0),
  (6, 1, .iconst 0, 0, 0), (7, 3, .putfield 29, 0, 0), (10, 1, .aload_n 0, 0, 0), (11, 3, .getfield 26, 0, 0),
  (14, 1, .aload_n 0, 0, 0), (15, 3, .getfield 18, 0, 0), (18, 3, .if_icmp .ge 41, 0, 59), (21, 1, .aload_n 0, 0, 0),
  (22, 3, .getfield 29, 0, 0), (25, 1, .iload_n 1, 0, 0), (26, 3, .if_icmp .lt 8, 0, 34), (29, 1, .aload_n 0, 0, 0),
  (30, 3, .getfield 26, 0, 0), (33, 1, .ireturn, 0, 0), (34, 1, .aload_n 0, 0, 0), (35, 3, .invokevirtual 32, 0, 0),
  (38, 1, .istore_n 2, 0, 0), (39, 1, .iload_n 2, 0, 0), (40, 1, .iconst (-1), (-1), 0), (41, 3, .if_icmp .eq 5, 0, 46),
  (44, 1, .iload_n 2, 0, 0), (45, 1, .ireturn, 0, 0), (46, 1, .aload_n 0, 0, 0), (47, 1, .dup, 0, 0),
  (48, 3, .getfield 29, 0, 0), (51, 1, .iconst 1, 1, 0), (52, 1, .iadd, 0, 0), (53, 3, .putfield 29, 0, 0),
  (56, 3, .goto (-46), 0, 10), (59, 1, .iconst (-1), (-1), 0), (60, 1, .ireturn, 0, 0)]
theorem kX4_read_ok : fw_chk cX4_read 3 kX4_read = true := by decide +kernel
theorem kX4_read_cst : ∀ en ∈ kX4_read, fw_CstOK RX4 cst_X4 en := by
  have h : kX4_read.all (fw_cstq cp_X4) = true := by decide +kernel
  exact fun en he => fw_cstX cp_X4_ok cst_X4_ok (List.all_eq_true.mp h en he)
def kX4_readItem : List fw_Ent := [
  (0, 1, .iconst 0, 0, 0), (1, 1, .istore_n 1, 0, 0), (2, 1, .iload_n 1, 0, 0), (3, 1, .iconst 4, 4, 0),
  (4, 3, .if_icmp .ge 22, 0, 26), (7, 1, .aload_n 0, 0, 0), (8, 1, .iload_n 1, 0, 0), (9, 3, .invokevirtual 36, 0, 0),
  (12, 1, .istore_n 2, 0, 0), (13, 1, .iload_n 2, 0, 0), (14, 1, .iconst (-1), (-1), 0), (15, 3, .if_icmp .eq 5, 0, 20),
  (18, 1, .iload_n 2, 0, 0), (19, 1, .ireturn, 0, 0), (20, 3, .iinc 1 1, 1, 0), (23, 3, .goto (-21), 0, 2),
  (26, 1, .iconst (-1), (-1), 0), (27, 1, .ireturn, 0, 0)]
theorem kX4_readItem_ok : fw_chk cX4_readItem 3 kX4_readItem = true := by decide +kernel
theorem kX4_readItem_cst : ∀ en ∈ kX4_readItem, fw_CstOK RX4 cst_X4 en := by
  have h : kX4_readItem.all (fw_cstq cp_X4) = true := by decide +kernel
  exact fun en he => fw_cstX cp_X4_ok cst_X4_ok (List.all_eq_true.mp h en he)
def kX4_readNumber : List fw_Ent := [
  (0, 1, .aload_n 0, 0, 0), (1, 3, .getfield 26, 0, 0), (4, 1, .istore_n 2, 0, 0), (5, 1, .iconst 0, 0, 0),
  (6, 1, .istore_n 3, 0, 0), (7, 1, .aload_n 0, 0, 0), (8, 3, .getfield 26, 0, 0), (11, 1, .aload_n 0, 0, 0),
  (12, 3, .getfield 18, 0, 0), (15, 3, .if_icmp .ge 71, 0, 86), (18, 1, .aload_n 0, 0, 0), (19, 3, .getfield 9, 0, 0),
  (22, 1, .aload_n 0, 0, 0), (23, 3, .getfield 26, 0, 0), (26, 3, .invokestatic 22, 0, 0), (29, 3, .invokestatic 40, 0, 0),
  (32, 3, .ifCond .eq 54, 0, 86), (35, 1, .aload_n 0, 0, 0), (36, 3, .getfield 26, 0, 0), (39, 1, .iload_n 2, 0, 0),
  (40, 1, .isub, 0, 0), (41, 1, .iload_n 1, 0, 0), (42, 3, .invokestatic 44, 0, 0), (45, 3, .if_icmp .lt 8, 0, 53),
  (48, 1, .aload_n 0, 0, 0), (49, 3, .getfield 26, 0, 0), (52, 1, .ireturn, 0, 0), (53, 1, .iload_n 3, 0, 0),
  (54, 2, .bipush 10, 10, 0), (56, 1, .imul, 0, 0), (57, 1, .aload_n 0, 0, 0), (58, 3, .getfield 9, 0, 0),
  (61, 1, .aload_n 0, 0, 0), (62, 3, .getfield 26, 0, 0), (65, 3, .invokestatic 22, 0, 0), (68, 1, .iadd, 0, 0),
  (69, 2, .bipush 48, 48, 0), (71, 1, .isub, 0, 0), (72, 1, .istore_n 3, 0, 0), (73, 1, .aload_n 0, 0, 0),
  (74, 1, .dup, 0, 0), (75, 3, .getfield 26, 0, 0), (78, 1, .iconst 1, 1, 0), (79, 1, .iadd, 0, 0),
  (80, 3, .putfield 26, 0, 0), (83, 3, .goto (-76), 0, 7), (86, 1, .aload_n 0, 0, 0), (87, 3, .getfield 26, 0, 0),
  (90, 1, .iload_n 2, 0, 0), (91, 3, .if_icmp .ne 8, 0, 99), (94, 1, .aload_n 0, 0, 0), (95, 3, .getfield 26, 0, 0),
  (98, 1, .ireturn, 0, 0), (99, 1, .aload_n 0, 0, 0), (100, 1, .iload_n 1, 0, 0), (101, 1, .iload_n 3, 0, 0),
  (102, 3, .invokevirtual 47, 0, 0), (105, 3, .ifCond .ne 5, 0, 110), (108, 1, .iload_n 2, 0, 0), (109, 1, .ireturn, 0, 0),
  (110, 1, .aload_n 0, 0, 0), (111, 3, .getfield 26, 0, 0), (114, 1, .aload_n 0, 0, 0), (115, 3, .getfield 18, 0, 0),
  (118, 3, .if_icmp .ge 21, 0, 139), (121, 1, .aload_n 0, 0, 0), (122, 3, .getfield 9, 0, 0), (125, 1, .aload_n 0, 0, 0),
  (126, 3, .getfield 26, 0, 0), (129, 3, .invokestatic 22, 0, 0), (132, 1, .iload_n 1, 0, 0), (133, 3, .invokestatic 51, 0, 0),
  (136, 3, .if_icmp .eq 8, 0, 144), (139, 1, .aload_n 0, 0, 0), (140, 3, .getfield 26, 0, 0), (143, 1, .ireturn, 0, 0),
  (144, 1, .aload_n 0, 0, 0), (145, 1, .dup, 0, 0), (146, 3, .getfield 26, 0, 0), (149, 1, .iconst 1, 1, 0),
  (150, 1, .iadd, 0, 0), (151, 3, .putfield 26, 0, 0), (154, 1, .aload_n 0, 0, 0), (155, 1, .iload_n 1, 0, 0),
  (156, 1, .iload_n 3, 0, 0), (157, 3, .invokevirtual 54, 0, 0), (160, 1, .iconst (-1), (-1), 0), (161, 1, .ireturn, 0, 0)]
theorem kX4_readNumber_ok : fw_chk cX4_readNumber 4 kX4_readNumber = true := by decide +kernel
theorem kX4_readNumber_cst : ∀ en ∈ kX4_readNumber, fw_CstOK RX4 cst_X4 en := by
  have h : kX4_readNumber.all (fw_cstq cp_X4) = true := by decide +kernel
  exact fun en he => fw_cstX cp_X4_ok cst_X4_ok (List.all_eq_true.mp h en he)
def kX4_keep : List fw_Ent := [
  (0, 1, .aload_n 0, 0, 0), (1, 3, .getfield 29, 0, 0), (4, 1, .iconst 4, 4, 0), (5, 1, .imul, 0, 0),
  (6, 1, .iload_n 1, 0, 0), (7, 1, .iadd, 0, 0), (8, 1, .istore_n 3, 0, 0), (9, 1, .iload_n 3, 0, 0),
  (10, 3, .ifCond .lt 19, 0, 29), (13, 1, .iload_n 3, 0, 0), (14, 1, .aload_n 0, 0, 0), (15, 3, .getfield 15, 0, 0),
  (18, 1, .arraylength, 0, 0), (19, 3, .if_icmp .ge 10, 0, 29), (22, 1, .aload_n 0, 0, 0), (23, 3, .getfield 15, 0, 0),
  (26, 1, .iload_n 3, 0, 0), (27, 1, .iload_n 2, 0, 0), (28, 1, .iastore, 0, 0), (29, 1, .return_, 0, 0)]
theorem kX4_keep_ok : fw_chk cX4_keep 4 kX4_keep = true := by decide +kernel
theorem kX4_keep_cst : ∀ en ∈ kX4_keep, fw_CstOK RX4 cst_X4 en := by
  have h : kX4_keep.all (fw_cstq cp_X4) = true := by decide +kernel
  exact fun en he => fw_cstX cp_X4_ok cst_X4_ok (List.all_eq_true.mp h en he)
def kX4_fits : List fw_Ent := [
  (0, 1, .iload_n 1, 0, 0), (1, 27, .tableswitch 63 0 2 #[27, 32, 58], 0, 0), (28, 1, .iload_n 2, 0, 0), (29, 3, .invokestatic 58, 0, 0),
  (32, 1, .ireturn, 0, 0), (33, 1, .iload_n 2, 0, 0), (34, 3, .invokestatic 58, 0, 0), (37, 3, .ifCond .eq 20, 0, 57),
  (40, 1, .iload_n 2, 0, 0), (41, 1, .aload_n 0, 0, 0), (42, 1, .aload_n 0, 0, 0), (43, 3, .getfield 29, 0, 0),
  (46, 1, .iconst 0, 0, 0), (47, 3, .invokevirtual 61, 0, 0), (50, 3, .if_icmp .eq 7, 0, 57), (53, 1, .iconst 1, 1, 0),
  (54, 3, .goto 4, 0, 58), (57, 1, .iconst 0, 0, 0), (58, 1, .ireturn, 0, 0), (59, 1, .iload_n 2, 0, 0),
  (60, 3, .invokestatic 65, 0, 0), (63, 1, .ireturn, 0, 0), (64, 1, .iload_n 2, 0, 0), (65, 3, .invokestatic 68, 0, 0),
  (68, 1, .ireturn, 0, 0)]
theorem kX4_fits_ok : fw_chk cX4_fits 3 kX4_fits = true := by decide +kernel
theorem kX4_fits_cst : ∀ en ∈ kX4_fits, fw_CstOK RX4 cst_X4 en := by
  have h : kX4_fits.all (fw_cstq cp_X4) = true := by decide +kernel
  exact fun en he => fw_cstX cp_X4_ok cst_X4_ok (List.all_eq_true.mp h en he)
def kX4_isDigit : List fw_Ent := [
  (0, 1, .iload_n 0, 0, 0), (1, 2, .bipush 48, 48, 0), (3, 3, .if_icmp .lt 13, 0, 16), (6, 1, .iload_n 0, 0, 0),
  (7, 2, .bipush 57, 57, 0), (9, 3, .if_icmp .gt 7, 0, 16), (12, 1, .iconst 1, 1, 0), (13, 3, .goto 4, 0, 17),
  (16, 1, .iconst 0, 0, 0), (17, 1, .ireturn, 0, 0)]
theorem kX4_isDigit_ok : fw_chk cX4_isDigit 1 kX4_isDigit = true := by decide +kernel
theorem kX4_isDigit_cst : ∀ en ∈ kX4_isDigit, fw_CstOK RX4 cst_X4 en := by
  have h : kX4_isDigit.all (fw_cstq cp_X4) = true := by decide +kernel
  exact fun en he => fw_cstX cp_X4_ok cst_X4_ok (List.all_eq_true.mp h en he)
def kX4_mostDigits : List fw_Ent := [
  (0, 1, .iload_n 0, 0, 0), (1, 27, .lookupswitch 31 #[(2, 27), (3, 29)], 0, 0), (28, 1, .iconst 3, 3, 0), (29, 1, .ireturn, 0, 0),
  (30, 1, .iconst 4, 4, 0), (31, 1, .ireturn, 0, 0), (32, 1, .iconst 2, 2, 0), (33, 1, .ireturn, 0, 0)]
theorem kX4_mostDigits_ok : fw_chk cX4_mostDigits 1 kX4_mostDigits = true := by decide +kernel
theorem kX4_mostDigits_cst : ∀ en ∈ kX4_mostDigits, fw_CstOK RX4 cst_X4 en := by
  have h : kX4_mostDigits.all (fw_cstq cp_X4) = true := by decide +kernel
  exact fun en he => fw_cstX cp_X4_ok cst_X4_ok (List.all_eq_true.mp h en he)
def kX4_endOf : List fw_Ent := [
  (0, 1, .iload_n 0, 0, 0), (1, 1, .iconst 3, 3, 0), (2, 3, .if_icmp .ne 8, 0, 10), (5, 2, .bipush 59, 59, 0),
  (7, 3, .goto 5, 0, 12), (10, 2, .bipush 44, 44, 0), (12, 1, .ireturn, 0, 0)]
theorem kX4_endOf_ok : fw_chk cX4_endOf 1 kX4_endOf = true := by decide +kernel
theorem kX4_endOf_cst : ∀ en ∈ kX4_endOf, fw_CstOK RX4 cst_X4 en := by
  have h : kX4_endOf.all (fw_cstq cp_X4) = true := by decide +kernel
  exact fun en he => fw_cstX cp_X4_ok cst_X4_ok (List.all_eq_true.mp h en he)
def kX5_addCourier : List fw_Ent := [
  (0, 1, .iload_n 1, 0, 0), (1, 3, .invokestatic 33, 0, 0), (4, 3, .ifCond .eq 10, 0, 14), (7, 1, .iload_n 2, 0, 0),
  (8, 3, .invokestatic 37, 0, 0), (11, 3, .ifCond .ne 11, 0, 22), (14, 3, .new 40, 0, 0), (17, 1, .dup, 0, 0),
  (18, 3, .invokespecial 42, 0, 0), (21, 1, .athrow, 0, 0), (22, 1, .aload_n 0, 0, 0), (23, 3, .getfield 10, 0, 0),
  (26, 3, .getfield 43, 0, 0), (29, 2, .bipush 6, 6, 0), (31, 3, .if_icmp .lt 11, 0, 42), (34, 3, .new 47, 0, 0),
  (37, 1, .dup, 0, 0), (38, 3, .invokespecial 49, 0, 0), (41, 1, .athrow, 0, 0), (42, 1, .aload_n 0, 0, 0),
  (43, 3, .getfield 22, 0, 0), (46, 1, .aload_n 0, 0, 0), (47, 3, .getfield 10, 0, 0), (50, 3, .invokevirtual 50, 0, 0),
  (53, 1, .aload_n 0, 0, 0), (54, 3, .getfield 10, 0, 0), (57, 1, .iload_n 1, 0, 0), (58, 1, .iload_n 2, 0, 0),
  (59, 3, .invokevirtual 54, 0, 0), (62, 1, .ireturn, 0, 0)]
theorem kX5_addCourier_ok : fw_chk cX5_addCourier 3 kX5_addCourier = true := by decide +kernel
theorem kX5_addCourier_cst : ∀ en ∈ kX5_addCourier, fw_CstOK RX5 cst_X5 en := by
  have h : kX5_addCourier.all (fw_cstq cp_X5) = true := by decide +kernel
  exact fun en he => fw_cstX cp_X5_ok cst_X5_ok (List.all_eq_true.mp h en he)
def kX5_setArea : List fw_Ent := [
  (0, 1, .aload_n 0, 0, 0), (1, 3, .getfield 10, 0, 0), (4, 1, .iload_n 1, 0, 0), (5, 3, .invokevirtual 58, 0, 0),
  (8, 1, .astore_n 3, 0, 0), (9, 1, .aload_n 3, 0, 0), (10, 3, .ifnonnull 11, 0, 21), (13, 3, .new 62, 0, 0),
  (16, 1, .dup, 0, 0), (17, 3, .invokespecial 64, 0, 0), (20, 1, .athrow, 0, 0), (21, 1, .iload_n 2, 0, 0),
  (22, 3, .invokestatic 33, 0, 0), (25, 3, .ifCond .ne 11, 0, 36), (28, 3, .new 40, 0, 0), (31, 1, .dup, 0, 0),
  (32, 3, .invokespecial 42, 0, 0), (35, 1, .athrow, 0, 0), (36, 1, .aload_n 0, 0, 0), (37, 3, .getfield 22, 0, 0),
  (40, 1, .aload_n 0, 0, 0), (41, 3, .getfield 10, 0, 0), (44, 3, .invokevirtual 50, 0, 0), (47, 1, .aload_n 3, 0, 0),
  (48, 3, .getfield 65, 0, 0), (51, 2, .istore 4, 0, 0), (53, 1, .aload_n 3, 0, 0), (54, 1, .iload_n 2, 0, 0),
  (55, 3, .putfield 65, 0, 0), (58, 2, .iload 4, 0, 0), (60, 1, .ireturn, 0, 0)]
theorem kX5_setArea_ok : fw_chk cX5_setArea 5 kX5_setArea = true := by decide +kernel
theorem kX5_setArea_cst : ∀ en ∈ kX5_setArea, fw_CstOK RX5 cst_X5 en := by
  have h : kX5_setArea.all (fw_cstq cp_X5) = true := by decide +kernel
  exact fun en he => fw_cstX cp_X5_ok cst_X5_ok (List.all_eq_true.mp h en he)
def kX5_give : List fw_Ent := [
  (0, 1, .iload_n 1, 0, 0), (1, 3, .invokestatic 37, 0, 0), (4, 3, .ifCond .eq 30, 0, 34), (7, 1, .iload_n 2, 0, 0),
  (8, 3, .invokestatic 37, 0, 0), (11, 3, .ifCond .eq 23, 0, 34), (14, 1, .iload_n 1, 0, 0), (15, 1, .iload_n 2, 0, 0),
  (16, 3, .if_icmp .eq 18, 0, 34), (19, 1, .iload_n 3, 0, 0), (20, 3, .invokestatic 70, 0, 0), (23, 3, .ifCond .eq 11, 0, 34),
  (26, 2, .iload 4, 0, 0), (28, 3, .invokestatic 73, 0, 0), (31, 3, .ifCond .ne 11, 0, 42), (34, 3, .new 40, 0, 0),
  (37, 1, .dup, 0, 0), (38, 3, .invokespecial 42, 0, 0), (41, 1, .athrow, 0, 0), (42, 1, .aload_n 0, 0, 0),
  (43, 3, .getfield 10, 0, 0), (46, 3, .getfield 76, 0, 0), (49, 2, .bipush 24, 24, 0), (51, 3, .if_icmp .lt 11, 0, 62),
  (54, 3, .new 47, 0, 0), (57, 1, .dup, 0, 0), (58, 3, .invokespecial 49, 0, 0), (61, 1, .athrow, 0, 0),
  (62, 1, .aload_n 0, 0, 0), (63, 3, .getfield 22, 0, 0), (66, 1, .aload_n 0, 0, 0), (67, 3, .getfield 10, 0, 0),
  (70, 3, .invokevirtual 50, 0, 0), (73, 1, .aload_n 0, 0, 0), (74, 3, .getfield 10, 0, 0), (77, 1, .iload_n 1, 0, 0),
  (78, 1, .iload_n 2, 0, 0), (79, 1, .iload_n 3, 0, 0), (80, 2, .iload 4, 0, 0), (82, 3, .invokevirtual 79, 0, 0),
  (85, 1, .ireturn, 0, 0)]
theorem kX5_give_ok : fw_chk cX5_give 5 kX5_give = true := by decide +kernel
theorem kX5_give_cst : ∀ en ∈ kX5_give, fw_CstOK RX5 cst_X5 en := by
  have h : kX5_give.all (fw_cstq cp_X5) = true := by decide +kernel
  exact fun en he => fw_cstX cp_X5_ok cst_X5_ok (List.all_eq_true.mp h en he)
def kX5_setGrace : List fw_Ent := [
  (0, 1, .iload_n 1, 0, 0), (1, 3, .ifCond .lt 9, 0, 10), (4, 1, .iload_n 1, 0, 0), (5, 2, .bipush 100, 100, 0),
  (7, 3, .if_icmp .le 11, 0, 18), (10, 3, .new 40, 0, 0), (13, 1, .dup, 0, 0), (14, 3, .invokespecial 42, 0, 0),
  (17, 1, .athrow, 0, 0), (18, 1, .aload_n 0, 0, 0), (19, 3, .getfield 22, 0, 0), (22, 1, .aload_n 0, 0, 0),
  (23, 3, .getfield 10, 0, 0), (26, 3, .invokevirtual 50, 0, 0), (29, 1, .aload_n 0, 0, 0), (30, 3, .getfield 10, 0, 0),
  (33, 3, .getfield 83, 0, 0), (36, 1, .istore_n 2, 0, 0), (37, 1, .aload_n 0, 0, 0), (38, 3, .getfield 10, 0, 0),
  (41, 1, .iload_n 1, 0, 0), (42, 3, .putfield 83, 0, 0), (45, 1, .iload_n 2, 0, 0), (46, 1, .ireturn, 0, 0)]
theorem kX5_setGrace_ok : fw_chk cX5_setGrace 3 kX5_setGrace = true := by decide +kernel
theorem kX5_setGrace_cst : ∀ en ∈ kX5_setGrace, fw_CstOK RX5 cst_X5 en := by
  have h : kX5_setGrace.all (fw_cstq cp_X5) = true := by decide +kernel
  exact fun en he => fw_cstX cp_X5_ok cst_X5_ok (List.all_eq_true.mp h en he)
def kX5_drop : List fw_Ent := [
  (0, 1, .aload_n 0, 0, 0), (1, 3, .getfield 10, 0, 0), (4, 1, .iload_n 1, 0, 0), (5, 3, .invokevirtual 58, 0, 0),
  (8, 1, .astore_n 2, 0, 0), (9, 1, .aload_n 2, 0, 0), (10, 3, .ifnonnull 11, 0, 21), (13, 3, .new 62, 0, 0),
  (16, 1, .dup, 0, 0), (17, 3, .invokespecial 64, 0, 0), (20, 1, .athrow, 0, 0), (21, 1, .aload_n 0, 0, 0),
  (22, 3, .getfield 22, 0, 0), (25, 1, .aload_n 0, 0, 0), (26, 3, .getfield 10, 0, 0), (29, 3, .invokevirtual 50, 0, 0),
  (32, 1, .aload_n 2, 0, 0), (33, 3, .getfield 86, 0, 0), (36, 1, .istore_n 3, 0, 0), (37, 1, .aload_n 0, 0, 0),
  (38, 3, .getfield 10, 0, 0), (41, 1, .aload_n 2, 0, 0), (42, 3, .invokevirtual 89, 0, 0), (45, 1, .iload_n 3, 0, 0),
  (46, 1, .ireturn, 0, 0)]
theorem kX5_drop_ok : fw_chk cX5_drop 4 kX5_drop = true := by decide +kernel
theorem kX5_drop_cst : ∀ en ∈ kX5_drop, fw_CstOK RX5 cst_X5 en := by
  have h : kX5_drop.all (fw_cstq cp_X5) = true := by decide +kernel
  exact fun en he => fw_cstX cp_X5_ok cst_X5_ok (List.all_eq_true.mp h en he)
def kX5_run : List fw_Ent := [
  (0, 1, .iload_n 1, 0, 0), (1, 3, .invokestatic 93, 0, 0), (4, 3, .ifCond .ne 11, 0, 15), (7, 3, .new 40, 0, 0),
  (10, 1, .dup, 0, 0), (11, 3, .invokespecial 42, 0, 0), (14, 1, .athrow, 0, 0), (15, 1, .aload_n 0, 0, 0),
  (16, 3, .getfield 10, 0, 0), (19, 3, .getfield 96, 0, 0), (22, 1, .iload_n 1, 0, 0), (23, 1, .iadd, 0, 0),
  (24, 3, .sipush 2000, 2000, 0), (27, 3, .if_icmp .le 11, 0, 38), (30, 3, .new 47, 0, 0), (33, 1, .dup, 0, 0),
  (34, 3, .invokespecial 49, 0, 0), (37, 1, .athrow, 0, 0), (38, 1, .aload_n 0, 0, 0), (39, 3, .getfield 22, 0, 0),
  (42, 1, .aload_n 0, 0, 0), (43, 3, .getfield 10, 0, 0), (46, 3, .invokevirtual 50, 0, 0), (49, 1, .aload_n 0, 0, 0),
  (50, 3, .getfield 10, 0, 0), (53, 1, .iconst 2, 2, 0), (54, 3, .invokevirtual 99, 0, 0), (57, 1, .istore_n 2, 0, 0),
  (58, 1, .aload_n 0, 0, 0), (59, 3, .getfield 10, 0, 0), (62, 1, .iload_n 1, 0, 0), (63, 3, .invokevirtual 103, 0, 0),
  (66, 1, .pop, 0, 0), (67, 1, .aload_n 0, 0, 0), (68, 3, .getfield 10, 0, 0), (71, 1, .iconst 2, 2, 0),
  (72, 3, .invokevirtual 99, 0, 0), (75, 1, .iload_n 2, 0, 0), (76, 1, .isub, 0, 0), (77, 1, .ireturn, 0, 0)]
theorem kX5_run_ok : fw_chk cX5_run 3 kX5_run = true := by decide +kernel
theorem kX5_run_cst : ∀ en ∈ kX5_run, fw_CstOK RX5 cst_X5 en := by
  have h : kX5_run.all (fw_cstq cp_X5) = true := by decide +kernel
  exact fun en he => fw_cstX cp_X5_ok cst_X5_ok (List.all_eq_true.mp h en he)
def kX5_value : List fw_Ent := [
  (0, 1, .iload_n 1, 0, 0), (1, 3, .ifCond .lt 9, 0, 10), (4, 1, .iload_n 1, 0, 0), (5, 2, .bipush 10, 10, 0),
  (7, 3, .if_icmp .le 11, 0, 18), (10, 3, .new 40, 0, 0), (13, 1, .dup, 0, 0), (14, 3, .invokespecial 42, 0, 0),
  (17, 1, .athrow, 0, 0), (18, 1, .aload_n 0, 0, 0), (19, 3, .getfield 10, 0, 0), (22, 1, .iload_n 1, 0, 0),
  (23, 3, .invokevirtual 106, 0, 0), (26, 1, .ireturn, 0, 0)]
theorem kX5_value_ok : fw_chk cX5_value 2 kX5_value = true := by decide +kernel
theorem kX5_value_cst : ∀ en ∈ kX5_value, fw_CstOK RX5 cst_X5 en := by
  have h : kX5_value.all (fw_cstq cp_X5) = true := by decide +kernel
  exact fun en he => fw_cstX cp_X5_ok cst_X5_ok (List.all_eq_true.mp h en he)
def kX5_courier : List fw_Ent := [
  (0, 1, .aload_n 0, 0, 0), (1, 3, .getfield 10, 0, 0), (4, 1, .iload_n 1, 0, 0), (5, 3, .invokevirtual 58, 0, 0),
  (8, 1, .astore_n 3, 0, 0), (9, 1, .aload_n 3, 0, 0), (10, 3, .ifnonnull 11, 0, 21), (13, 3, .new 62, 0, 0),
  (16, 1, .dup, 0, 0), (17, 3, .invokespecial 64, 0, 0), (20, 1, .athrow, 0, 0), (21, 1, .iload_n 2, 0, 0),
  (22, 3, .ifCond .lt 8, 0, 30), (25, 1, .iload_n 2, 0, 0), (26, 1, .iconst 5, 5, 0), (27, 3, .if_icmp .le 11, 0, 38),
  (30, 3, .new 40, 0, 0), (33, 1, .dup, 0, 0), (34, 3, .invokespecial 42, 0, 0), (37, 1, .athrow, 0, 0),
  (38, 1, .aload_n 0, 0, 0), (39, 3, .getfield 10, 0, 0), (42, 1, .aload_n 3, 0, 0), (43, 1, .iload_n 1, 0, 0),
  (44, 1, .iload_n 2, 0, 0), (45, 3, .invokevirtual 109, 0, 0), (48, 1, .ireturn, 0, 0)]
theorem kX5_courier_ok : fw_chk cX5_courier 4 kX5_courier = true := by decide +kernel
theorem kX5_courier_cst : ∀ en ∈ kX5_courier, fw_CstOK RX5 cst_X5 en := by
  have h : kX5_courier.all (fw_cstq cp_X5) = true := by decide +kernel
  exact fun en he => fw_cstX cp_X5_ok cst_X5_ok (List.all_eq_true.mp h en he)
def kX5_parcel : List fw_Ent := [
  (0, 1, .aload_n 0, 0, 0), (1, 3, .getfield 10, 0, 0), (4, 1, .iload_n 1, 0, 0), (5, 3, .invokevirtual 113, 0, 0),
  (8, 1, .astore_n 3, 0, 0), (9, 1, .aload_n 3, 0, 0), (10, 3, .ifnonnull 11, 0, 21), (13, 3, .new 62, 0, 0),
  (16, 1, .dup, 0, 0), (17, 3, .invokespecial 64, 0, 0), (20, 1, .athrow, 0, 0), (21, 1, .iload_n 2, 0, 0),
  (22, 3, .ifCond .lt 9, 0, 31), (25, 1, .iload_n 2, 0, 0), (26, 2, .bipush 8, 8, 0), (28, 3, .if_icmp .le 11, 0, 39),
  (31, 3, .new 40, 0, 0), (34, 1, .dup, 0, 0), (35, 3, .invokespecial 42, 0, 0), (38, 1, .athrow, 0, 0),
  (39, 1, .aload_n 3, 0, 0), (40, 1, .iload_n 2, 0, 0), (41, 3, .invokevirtual 117, 0, 0), (44, 1, .ireturn, 0, 0)]
theorem kX5_parcel_ok : fw_chk cX5_parcel 4 kX5_parcel = true := by decide +kernel
theorem kX5_parcel_cst : ∀ en ∈ kX5_parcel, fw_CstOK RX5 cst_X5 en := by
  have h : kX5_parcel.all (fw_cstq cp_X5) = true := by decide +kernel
  exact fun en he => fw_cstX cp_X5_ok cst_X5_ok (List.all_eq_true.mp h en he)
def kX5_legs : List fw_Ent := [
  (0, 1, .aload_n 0, 0, 0), (1, 3, .getfield 10, 0, 0), (4, 1, .iload_n 1, 0, 0), (5, 3, .invokevirtual 113, 0, 0),
  (8, 2, .astore 4, 0, 0), (10, 2, .aload 4, 0, 0), (12, 3, .ifnull 14, 0, 26), (15, 1, .aload_n 0, 0, 0),
  (16, 3, .getfield 10, 0, 0), (19, 1, .iload_n 2, 0, 0), (20, 3, .invokevirtual 58, 0, 0), (23, 3, .ifnonnull 11, 0, 34),
  (26, 3, .new 62, 0, 0), (29, 1, .dup, 0, 0), (30, 3, .invokespecial 64, 0, 0), (33, 1, .athrow, 0, 0),
  (34, 1, .iload_n 3, 0, 0), (35, 3, .ifCond .eq 12, 0, 47), (38, 2, .aload 4, 0, 0), (40, 1, .iload_n 2, 0, 0),
  (41, 3, .invokevirtual 120, 0, 0), (44, 3, .goto 9, 0, 53), (47, 2, .aload 4, 0, 0), (49, 1, .iload_n 2, 0, 0),
  (50, 3, .invokevirtual 123, 0, 0), (53, 1, .ireturn, 0, 0)]
theorem kX5_legs_ok : fw_chk cX5_legs 5 kX5_legs = true := by decide +kernel
theorem kX5_legs_cst : ∀ en ∈ kX5_legs, fw_CstOK RX5 cst_X5 en := by
  have h : kX5_legs.all (fw_cstq cp_X5) = true := by decide +kernel
  exact fun en he => fw_cstX cp_X5_ok cst_X5_ok (List.all_eq_true.mp h en he)
def kX5_distance : List fw_Ent := [
  (0, 1, .iload_n 1, 0, 0), (1, 3, .invokestatic 37, 0, 0), (4, 3, .ifCond .eq 10, 0, 14), (7, 1, .iload_n 2, 0, 0),
  (8, 3, .invokestatic 37, 0, 0), (11, 3, .ifCond .ne 11, 0, 22), (14, 3, .new 62, 0, 0), (17, 1, .dup, 0, 0),
  (18, 3, .invokespecial 64, 0, 0), (21, 1, .athrow, 0, 0), (22, 1, .iload_n 1, 0, 0), (23, 1, .iconst 4, 4, 0),
  (24, 1, .idiv, 0, 0), (25, 1, .iload_n 2, 0, 0), (26, 1, .iconst 4, 4, 0), (27, 1, .idiv, 0, 0),
  (28, 1, .isub, 0, 0), (29, 3, .invokestatic 126, 0, 0), (32, 1, .iload_n 1, 0, 0), (33, 1, .iconst 4, 4, 0),
  (34, 1, .irem, 0, 0), (35, 1, .iload_n 2, 0, 0), (36, 1, .iconst 4, 4, 0), (37, 1, .irem, 0, 0),
  (38, 1, .isub, 0, 0), (39, 3, .invokestatic 126, 0, 0), (42, 1, .iadd, 0, 0), (43, 1, .ireturn, 0, 0)]
theorem kX5_distance_ok : fw_chk cX5_distance 3 kX5_distance = true := by decide +kernel
theorem kX5_distance_cst : ∀ en ∈ kX5_distance, fw_CstOK RX5 cst_X5 en := by
  have h : kX5_distance.all (fw_cstq cp_X5) = true := by decide +kernel
  exact fun en he => fw_cstX cp_X5_ok cst_X5_ok (List.all_eq_true.mp h en he)
def kX5_suited : List fw_Ent := [
  (0, 1, .aload_n 0, 0, 0), (1, 3, .getfield 10, 0, 0), (4, 1, .iload_n 1, 0, 0), (5, 3, .invokevirtual 113, 0, 0),
  (8, 1, .astore_n 2, 0, 0), (9, 1, .aload_n 2, 0, 0), (10, 3, .ifnonnull 11, 0, 21), (13, 3, .new 62, 0, 0),
  (16, 1, .dup, 0, 0), (17, 3, .invokespecial 64, 0, 0), (20, 1, .athrow, 0, 0), (21, 1, .aload_n 2, 0, 0),
  (22, 3, .invokevirtual 131, 0, 0), (25, 3, .ifCond .eq 28, 0, 53), (28, 1, .aload_n 0, 0, 0), (29, 3, .getfield 10, 0, 0),
  (32, 1, .aload_n 2, 0, 0), (33, 3, .getfield 135, 0, 0), (36, 1, .aload_n 2, 0, 0), (37, 3, .getfield 135, 0, 0),
  (40, 1, .aload_n 2, 0, 0), (41, 3, .getfield 138, 0, 0), (44, 3, .invokestatic 141, 0, 0), (47, 3, .invokevirtual 144, 0, 0),
  (50, 3, .goto 4, 0, 54), (53, 1, .iconst 0, 0, 0), (54, 1, .ireturn, 0, 0)]
theorem kX5_suited_ok : fw_chk cX5_suited 3 kX5_suited = true := by decide +kernel
theorem kX5_suited_cst : ∀ en ∈ kX5_suited, fw_CstOK RX5 cst_X5 en := by
  have h : kX5_suited.all (fw_cstq cp_X5) = true := by decide +kernel
  exact fun en he => fw_cstX cp_X5_ok cst_X5_ok (List.all_eq_true.mp h en he)
def kX5_leastRelay : List fw_Ent := [
  (0, 1, .aload_n 0, 0, 0), (1, 3, .getfield 10, 0, 0), (4, 1, .iload_n 1, 0, 0), (5, 3, .invokevirtual 113, 0, 0),
  (8, 1, .astore_n 2, 0, 0), (9, 1, .aload_n 2, 0, 0), (10, 3, .ifnonnull 11, 0, 21), (13, 3, .new 62, 0, 0),
  (16, 1, .dup, 0, 0), (17, 3, .invokespecial 64, 0, 0), (20, 1, .athrow, 0, 0), (21, 1, .aload_n 0, 0, 0),
  (22, 3, .getfield 10, 0, 0), (25, 1, .aload_n 2, 0, 0), (26, 3, .getfield 147, 0, 0), (29, 1, .aload_n 2, 0, 0),
  (30, 3, .getfield 138, 0, 0), (33, 3, .invokevirtual 150, 0, 0), (36, 1, .ireturn, 0, 0)]
theorem kX5_leastRelay_ok : fw_chk cX5_leastRelay 3 kX5_leastRelay = true := by decide +kernel
theorem kX5_leastRelay_cst : ∀ en ∈ kX5_leastRelay, fw_CstOK RX5 cst_X5 en := by
  have h : kX5_leastRelay.all (fw_cstq cp_X5) = true := by decide +kernel
  exact fun en he => fw_cstX cp_X5_ok cst_X5_ok (List.all_eq_true.mp h en he)
def kX5_punctuality : List fw_Ent := [
  (0, 1, .aload_n 0, 0, 0), (1, 3, .getfield 10, 0, 0), (4, 1, .iconst 2, 2, 0), (5, 3, .invokevirtual 99, 0, 0),
  (8, 1, .aload_n 0, 0, 0), (9, 3, .getfield 10, 0, 0), (12, 1, .iconst 3, 3, 0), (13, 3, .invokevirtual 99, 0, 0),
  (16, 1, .iadd, 0, 0), (17, 1, .istore_n 1, 0, 0), (18, 1, .iload_n 1, 0, 0), (19, 3, .ifCond .le 17, 0, 36),
  (22, 1, .aload_n 0, 0, 0), (23, 3, .getfield 10, 0, 0), (26, 3, .invokevirtual 153, 0, 0), (29, 1, .i2d, 0, 0),
  (30, 1, .iload_n 1, 0, 0), (31, 1, .i2d, 0, 0), (32, 1, .ddiv, 0, 0), (33, 3, .goto 4, 0, 37),
  (36, 1, .dconst 1, 0, 0), (37, 1, .dreturn, 0, 0)]
theorem kX5_punctuality_ok : fw_chk cX5_punctuality 2 kX5_punctuality = true := by decide +kernel
theorem kX5_punctuality_cst : ∀ en ∈ kX5_punctuality, fw_CstOK RX5 cst_X5 en := by
  have h : kX5_punctuality.all (fw_cstq cp_X5) = true := by decide +kernel
  exact fun en he => fw_cstX cp_X5_ok cst_X5_ok (List.all_eq_true.mp h en he)
def kX5_paidIn : List fw_Ent := [
  (0, 1, .iload_n 1, 0, 0), (1, 3, .invokestatic 93, 0, 0), (4, 3, .ifCond .ne 11, 0, 15), (7, 3, .new 40, 0, 0),
  (10, 1, .dup, 0, 0), (11, 3, .invokespecial 42, 0, 0), (14, 1, .athrow, 0, 0), (15, 1, .aload_n 0, 0, 0),
  (16, 3, .getfield 16, 0, 0), (19, 1, .aload_n 0, 0, 0), (20, 3, .getfield 10, 0, 0), (23, 3, .invokevirtual 157, 0, 0),
  (26, 1, .aload_n 0, 0, 0), (27, 3, .getfield 16, 0, 0), (30, 1, .iload_n 1, 0, 0), (31, 3, .invokevirtual 103, 0, 0),
  (34, 1, .ireturn, 0, 0)]
theorem kX5_paidIn_ok : fw_chk cX5_paidIn 2 kX5_paidIn = true := by decide +kernel
theorem kX5_paidIn_cst : ∀ en ∈ kX5_paidIn, fw_CstOK RX5 cst_X5 en := by
  have h : kX5_paidIn.all (fw_cstq cp_X5) = true := by decide +kernel
  exact fun en he => fw_cstX cp_X5_ok cst_X5_ok (List.all_eq_true.mp h en he)
def kX5_bestZone : List fw_Ent := [
  (0, 1, .aload_n 0, 0, 0), (1, 3, .getfield 10, 0, 0), (4, 1, .iload_n 1, 0, 0), (5, 3, .invokevirtual 58, 0, 0),
  (8, 1, .astore_n 3, 0, 0), (9, 1, .aload_n 3, 0, 0), (10, 3, .ifnonnull 11, 0, 21), (13, 3, .new 62, 0, 0),
  (16, 1, .dup, 0, 0), (17, 3, .invokespecial 64, 0, 0), (20, 1, .athrow, 0, 0), (21, 1, .iload_n 2, 0, 0),
  (22, 3, .invokestatic 93, 0, 0), (25, 3, .ifCond .ne 11, 0, 36), (28, 3, .new 40, 0, 0), (31, 1, .dup, 0, 0),
  (32, 3, .invokespecial 42, 0, 0), (35, 1, .athrow, 0, 0), (36, 1, .aload_n 0, 0, 0), (37, 3, .getfield 16, 0, 0),
  (40, 1, .aload_n 0, 0, 0), (41, 3, .getfield 10, 0, 0), (44, 3, .invokevirtual 157, 0, 0), (47, 1, .aload_n 0, 0, 0),
  (48, 3, .getfield 16, 0, 0), (51, 1, .iload_n 2, 0, 0), (52, 3, .invokevirtual 103, 0, 0), (55, 2, .istore 4, 0, 0),
  (57, 1, .iconst (-1), (-1), 0), (58, 2, .istore 5, 0, 0), (60, 1, .iconst 0, 0, 0), (61, 2, .istore 6, 0, 0),
  (63, 2, .iload 6, 0, 0), (65, 2, .bipush 16, 16, 0), (67, 3, .if_icmp .ge 67, 0, 134), (70, 1, .aload_n 3, 0, 0),
  (71, 3, .getfield 65, 0, 0), (74, 2, .iload 6, 0, 0), (76, 3, .invokestatic 160, 0, 0), (79, 3, .ifCond .ne 49, 0, 128),
  (82, 1, .aload_n 0, 0, 0), (83, 3, .getfield 16, 0, 0), (86, 1, .aload_n 0, 0, 0), (87, 3, .getfield 10, 0, 0),
  (90, 3, .invokevirtual 157, 0, 0), (93, 1, .aload_n 0, 0, 0), (94, 3, .getfield 16, 0, 0), (97, 1, .iload_n 1, 0, 0),
  (98, 2, .iload 6, 0, 0), (100, 3, .invokevirtual 164, 0, 0), (103, 1, .aload_n 0, 0, 0), (104, 3, .getfield 16, 0, 0),
  (107, 1, .iload_n 2, 0, 0), (108, 3, .invokevirtual 103, 0, 0), (111, 2, .istore 7, 0, 0), (113, 2, .iload 7, 0, 0),
  (115, 2, .iload 4, 0, 0), (117, 3, .if_icmp .le 11, 0, 128), (120, 2, .iload 7, 0, 0), (122, 2, .istore 4, 0, 0),
  (124, 2, .iload 6, 0, 0), (126, 2, .istore 5, 0, 0), (128, 3, .iinc 6 1, 1, 0), (131, 3, .goto (-68), 0, 63),
  (134, 2, .iload 5, 0, 0), (136, 1, .ireturn, 0, 0)]
theorem kX5_bestZone_ok : fw_chk cX5_bestZone 8 kX5_bestZone = true := by decide +kernel
theorem kX5_bestZone_cst : ∀ en ∈ kX5_bestZone, fw_CstOK RX5 cst_X5 en := by
  have h : kX5_bestZone.all (fw_cstq cp_X5) = true := by decide +kernel
  exact fun en he => fw_cstX cp_X5_ok cst_X5_ok (List.all_eq_true.mp h en he)
def kX5_worth : List fw_Ent := [
  (0, 1, .aload_n 0, 0, 0), (1, 3, .getfield 10, 0, 0), (4, 1, .iload_n 1, 0, 0), (5, 3, .invokevirtual 58, 0, 0),
  (8, 3, .ifnonnull 11, 0, 19), (11, 3, .new 62, 0, 0), (14, 1, .dup, 0, 0), (15, 3, .invokespecial 64, 0, 0),
  (18, 1, .athrow, 0, 0), (19, 1, .iload_n 2, 0, 0), (20, 3, .invokestatic 93, 0, 0), (23, 3, .ifCond .ne 11, 0, 34),
  (26, 3, .new 40, 0, 0), (29, 1, .dup, 0, 0), (30, 3, .invokespecial 42, 0, 0), (33, 1, .athrow, 0, 0),
  (34, 1, .aload_n 0, 0, 0), (35, 3, .getfield 16, 0, 0), (38, 1, .aload_n 0, 0, 0), (39, 3, .getfield 10, 0, 0),
  (42, 3, .invokevirtual 157, 0, 0), (45, 1, .aload_n 0, 0, 0), (46, 3, .getfield 16, 0, 0), (49, 1, .iload_n 2, 0, 0),
  (50, 3, .invokevirtual 103, 0, 0), (53, 1, .istore_n 3, 0, 0), (54, 1, .aload_n 0, 0, 0), (55, 3, .getfield 16, 0, 0),
  (58, 1, .aload_n 0, 0, 0), (59, 3, .getfield 10, 0, 0), (62, 3, .invokevirtual 157, 0, 0), (65, 1, .aload_n 0, 0, 0),
  (66, 3, .getfield 16, 0, 0), (69, 1, .iload_n 1, 0, 0), (70, 3, .invokevirtual 168, 0, 0), (73, 1, .iload_n 3, 0, 0),
  (74, 1, .aload_n 0, 0, 0), (75, 3, .getfield 16, 0, 0), (78, 1, .iload_n 2, 0, 0), (79, 3, .invokevirtual 103, 0, 0),
  (82, 1, .isub, 0, 0), (83, 1, .ireturn, 0, 0)]
theorem kX5_worth_ok : fw_chk cX5_worth 4 kX5_worth = true := by decide +kernel
theorem kX5_worth_cst : ∀ en ∈ kX5_worth, fw_CstOK RX5 cst_X5 en := by
  have h : kX5_worth.all (fw_cstq cp_X5) = true := by decide +kernel
  exact fun en he => fw_cstX cp_X5_ok cst_X5_ok (List.all_eq_true.mp h en he)
def kX5_doneIn : List fw_Ent := [
  (0, 1, .aload_n 0, 0, 0), (1, 3, .getfield 16, 0, 0), (4, 1, .aload_n 0, 0, 0), (5, 3, .getfield 10, 0, 0),
  (8, 3, .invokevirtual 157, 0, 0), (11, 1, .aload_n 0, 0, 0), (12, 3, .getfield 16, 0, 0), (15, 3, .invokevirtual 172, 0, 0),
  (18, 1, .ireturn, 0, 0)]
theorem kX5_doneIn_ok : fw_chk cX5_doneIn 1 kX5_doneIn = true := by decide +kernel
theorem kX5_doneIn_cst : ∀ en ∈ kX5_doneIn, fw_CstOK RX5 cst_X5 en := by
  have h : kX5_doneIn.all (fw_cstq cp_X5) = true := by decide +kernel
  exact fun en he => fw_cstX cp_X5_ok cst_X5_ok (List.all_eq_true.mp h en he)
def kX5_append : List fw_Ent := [
  (0, 1, .iload_n 1, 0, 0), (1, 3, .ifCond .lt 9, 0, 10), (4, 1, .iload_n 1, 0, 0), (5, 2, .bipush 127, 127, 0),
  (7, 3, .if_icmp .le 11, 0, 18), (10, 3, .new 40, 0, 0), (13, 1, .dup, 0, 0), (14, 3, .invokespecial 42, 0, 0),
  (17, 1, .athrow, 0, 0), (18, 1, .aload_n 0, 0, 0), (19, 3, .getfield 29, 0, 0), (22, 3, .getfield 175, 0, 0),
  (25, 3, .sipush 150, 150, 0), (28, 3, .if_icmp .lt 11, 0, 39), (31, 3, .new 47, 0, 0), (34, 1, .dup, 0, 0),
  (35, 3, .invokespecial 49, 0, 0), (38, 1, .athrow, 0, 0), (39, 1, .aload_n 0, 0, 0), (40, 3, .getfield 29, 0, 0),
  (43, 1, .iload_n 1, 0, 0), (44, 3, .invokevirtual 178, 0, 0), (47, 1, .aload_n 0, 0, 0), (48, 3, .getfield 29, 0, 0),
  (51, 3, .getfield 175, 0, 0), (54, 1, .ireturn, 0, 0)]
theorem kX5_append_ok : fw_chk cX5_append 2 kX5_append = true := by decide +kernel
theorem kX5_append_cst : ∀ en ∈ kX5_append, fw_CstOK RX5 cst_X5 en := by
  have h : kX5_append.all (fw_cstq cp_X5) = true := by decide +kernel
  exact fun en he => fw_cstX cp_X5_ok cst_X5_ok (List.all_eq_true.mp h en he)
def kX5_clearText : List fw_Ent := [
  (0, 1, .aload_n 0, 0, 0), (1, 3, .getfield 29, 0, 0), (4, 3, .getfield 175, 0, 0), (7, 1, .istore_n 1, 0, 0),
  (8, 1, .aload_n 0, 0, 0), (9, 3, .getfield 29, 0, 0), (12, 1, .iconst 0, 0, 0), (13, 3, .putfield 175, 0, 0),
  (16, 1, .iload_n 1, 0, 0), (17, 1, .ireturn, 0, 0)]
theorem kX5_clearText_ok : fw_chk cX5_clearText 2 kX5_clearText = true := by decide +kernel
theorem kX5_clearText_cst : ∀ en ∈ kX5_clearText, fw_CstOK RX5 cst_X5 en := by
  have h : kX5_clearText.all (fw_cstq cp_X5) = true := by decide +kernel
  exact fun en he => fw_cstX cp_X5_ok cst_X5_ok (List.all_eq_true.mp h en he)
def kX5_parse : List fw_Ent := [
  (0, 1, .aload_n 0, 0, 0), (1, 3, .getfield 29, 0, 0), (4, 2, .bipush 24, 24, 0), (6, 1, .aload_n 0, 0, 0),
  (7, 3, .getfield 10, 0, 0), (10, 3, .getfield 76, 0, 0), (13, 1, .isub, 0, 0), (14, 3, .invokevirtual 181, 0, 0),
  (17, 1, .istore_n 1, 0, 0), (18, 1, .iload_n 1, 0, 0), (19, 1, .iconst (-1), (-1), 0), (20, 3, .if_icmp .eq 8, 0, 28),
  (23, 2, .bipush (-10), (-10), 0), (25, 1, .iload_n 1, 0, 0), (26, 1, .isub, 0, 0), (27, 1, .ireturn, 0, 0),
  (28, 1, .aload_n 0, 0, 0), (29, 3, .getfield 22, 0, 0), (32, 1, .aload_n 0, 0, 0), (33, 3, .getfield 10, 0, 0),
  (36, 3, .invokevirtual 50, 0, 0), (39, 1, .iconst 0, 0, 0), (40, 1, .istore_n 2, 0, 0), (41, 1, .iload_n 2, 0, 0),
  (42, 1, .aload_n 0, 0, 0), (43, 3, .getfield 29, 0, 0), (46, 3, .getfield 184, 0, 0), (49, 3, .if_icmp .ge 53, 0, 102),
  (52, 1, .aload_n 0, 0, 0), (53, 3, .getfield 10, 0, 0), (56, 1, .aload_n 0, 0, 0), (57, 3, .getfield 29, 0, 0),
  (60, 1, .iload_n 2, 0, 0), (61, 1, .iconst 0, 0, 0), (62, 3, .invokevirtual 187, 0, 0), (65, 1, .aload_n 0, 0, 0),
  (66, 3, .getfield 29, 0, 0), (69, 1, .iload_n 2, 0, 0), (70, 1, .iconst 1, 1, 0), (71, 3, .invokevirtual 187, 0, 0),
  (74, 1, .aload_n 0, 0, 0), (75, 3, .getfield 29, 0, 0), (78, 1, .iload_n 2, 0, 0), (79, 1, .iconst 2, 2, 0),
  (80, 3, .invokevirtual 187, 0, 0), (83, 1, .aload_n 0, 0, 0), (84, 3, .getfield 29, 0, 0), (87, 1, .iload_n 2, 0, 0),
  (88, 1, .iconst 3, 3, 0), (89, 3, .invokevirtual 187, 0, 0), (92, 3, .invokevirtual 79, 0, 0), (95, 1, .pop, 0, 0),
  (96, 3, .iinc 2 1, 1, 0), (99, 3, .goto (-58), 0, 41), (102, 1, .aload_n 0, 0, 0), (103, 3, .getfield 10, 0, 0),
  (106, 3, .getfield 76, 0, 0), (109, 1, .ireturn, 0, 0)]
theorem kX5_parse_ok : fw_chk cX5_parse 3 kX5_parse = true := by decide +kernel
theorem kX5_parse_cst : ∀ en ∈ kX5_parse, fw_CstOK RX5 cst_X5 en := by
  have h : kX5_parse.all (fw_cstq cp_X5) = true := by decide +kernel
  exact fun en he => fw_cstX cp_X5_ok cst_X5_ok (List.all_eq_true.mp h en he)
def kX5_undo : List fw_Ent := [
  (0, 1, .aload_n 0, 0, 0), (1, 3, .getfield 22, 0, 0), (4, 3, .getfield 190, 0, 0), (7, 3, .ifCond .gt 11, 0, 18),
  (10, 3, .new 47, 0, 0), (13, 1, .dup, 0, 0), (14, 3, .invokespecial 49, 0, 0), (17, 1, .athrow, 0, 0),
  (18, 1, .aload_n 0, 0, 0), (19, 3, .getfield 22, 0, 0), (22, 1, .aload_n 0, 0, 0), (23, 3, .getfield 10, 0, 0),
  (26, 3, .invokevirtual 193, 0, 0), (29, 1, .aload_n 0, 0, 0), (30, 3, .getfield 22, 0, 0), (33, 3, .getfield 190, 0, 0),
  (36, 1, .ireturn, 0, 0)]
theorem kX5_undo_ok : fw_chk cX5_undo 1 kX5_undo = true := by decide +kernel
theorem kX5_undo_cst : ∀ en ∈ kX5_undo, fw_CstOK RX5 cst_X5 en := by
  have h : kX5_undo.all (fw_cstq cp_X5) = true := by decide +kernel
  exact fun en he => fw_cstX cp_X5_ok cst_X5_ok (List.all_eq_true.mp h en he)
def kX5_digest : List fw_Ent := [
  (0, 3, .ldc2_w 196, 0, 0), (3, 1, .aload_n 0, 0, 0), (4, 3, .getfield 29, 0, 0), (7, 3, .getfield 175, 0, 0),
  (10, 1, .i2l, 0, 0), (11, 1, .ladd, 0, 0), (12, 1, .lstore_n 1, 0, 0), (13, 1, .iconst 0, 0, 0),
  (14, 1, .istore_n 3, 0, 0), (15, 1, .iload_n 3, 0, 0), (16, 2, .bipush 10, 10, 0), (18, 3, .if_icmp .gt 25, 0, 43),
  (21, 3, .ldc2_w 198, 0, 0), (24, 1, .lload_n 1, 0, 0), (25, 1, .lmul, 0, 0), (26, 1, .aload_n 0, 0, 0),
  (27, 3, .getfield 10, 0, 0), (30, 1, .iload_n 3, 0, 0), (31, 3, .invokevirtual 106, 0, 0), (34, 1, .i2l, 0, 0),
  (35, 1, .ladd, 0, 0), (36, 1, .lstore_n 1, 0, 0), (37, 3, .iinc 3 1, 1, 0), (40, 3, .goto (-25), 0, 15),
  (43, 1, .aload_n 0, 0, 0), (44, 3, .getfield 10, 0, 0), (47, 1, .lload_n 1, 0, 0), (48, 3, .invokevirtual 200, 0, 0),
  (51, 1, .lstore_n 1, 0, 0), (52, 1, .aload_n 0, 0, 0), (53, 3, .getfield 10, 0, 0), (56, 1, .lload_n 1, 0, 0),
  (57, 3, .invokevirtual 204, 0, 0), (60, 1, .lstore_n 1, 0, 0), (61, 3, .ldc2_w 198, 0, 0), (64, 1, .lload_n 1, 0, 0),
  (65, 1, .lmul, 0, 0), (66, 1, .aload_n 0, 0, 0), (67, 3, .getfield 22, 0, 0), (70, 3, .getfield 190, 0, 0),
  (73, 1, .i2l, 0, 0), (74, 1, .ladd, 0, 0), (75, 1, .lreturn, 0, 0)]
theorem kX5_digest_ok : fw_chk cX5_digest 4 kX5_digest = true := by decide +kernel
theorem kX5_digest_cst : ∀ en ∈ kX5_digest, fw_CstOK RX5 cst_X5 en := by
  have h : kX5_digest.all (fw_cstq cp_X5) = true := by decide +kernel
  exact fun en he => fw_cstX cp_X5_ok cst_X5_ok (List.all_eq_true.mp h en he)
def kX5_isZone : List fw_Ent := [
  (0, 1, .iload_n 0, 0, 0), (1, 3, .ifCond .lt 13, 0, 14), (4, 1, .iload_n 0, 0, 0), (5, 2, .bipush 16, 16, 0),
  (7, 3, .if_icmp .ge 7, 0, 14), (10, 1, .iconst 1, 1, 0), (11, 3, .goto 4, 0, 15), (14, 1, .iconst 0, 0, 0),
  (15, 1, .ireturn, 0, 0)]
theorem kX5_isZone_ok : fw_chk cX5_isZone 1 kX5_isZone = true := by decide +kernel
theorem kX5_isZone_cst : ∀ en ∈ kX5_isZone, fw_CstOK RX5 cst_X5 en := by
  have h : kX5_isZone.all (fw_cstq cp_X5) = true := by decide +kernel
  exact fun en he => fw_cstX cp_X5_ok cst_X5_ok (List.all_eq_true.mp h en he)
def kX5_isArea : List fw_Ent := [
  (0, 1, .iload_n 0, 0, 0), (1, 3, .ifCond .lt 13, 0, 14), (4, 1, .iload_n 0, 0, 0), (5, 2, .ldc 207, 65535, 0),
  (7, 3, .if_icmp .gt 7, 0, 14), (10, 1, .iconst 1, 1, 0), (11, 3, .goto 4, 0, 15), (14, 1, .iconst 0, 0, 0),
  (15, 1, .ireturn, 0, 0)]
theorem kX5_isArea_ok : fw_chk cX5_isArea 1 kX5_isArea = true := by decide +kernel
theorem kX5_isArea_cst : ∀ en ∈ kX5_isArea, fw_CstOK RX5 cst_X5 en := by
  have h : kX5_isArea.all (fw_cstq cp_X5) = true := by decide +kernel
  exact fun en he => fw_cstX cp_X5_ok cst_X5_ok (List.all_eq_true.mp h en he)
def kX5_isCutOff : List fw_Ent := [
  (0, 1, .iload_n 0, 0, 0), (1, 1, .iconst 1, 1, 0), (2, 3, .if_icmp .lt 14, 0, 16), (5, 1, .iload_n 0, 0, 0),
  (6, 3, .sipush 999, 999, 0), (9, 3, .if_icmp .gt 7, 0, 16), (12, 1, .iconst 1, 1, 0), (13, 3, .goto 4, 0, 17),
  (16, 1, .iconst 0, 0, 0), (17, 1, .ireturn, 0, 0)]
theorem kX5_isCutOff_ok : fw_chk cX5_isCutOff 1 kX5_isCutOff = true := by decide +kernel
theorem kX5_isCutOff_cst : ∀ en ∈ kX5_isCutOff, fw_CstOK RX5 cst_X5 en := by
  have h : kX5_isCutOff.all (fw_cstq cp_X5) = true := by decide +kernel
  exact fun en he => fw_cstX cp_X5_ok cst_X5_ok (List.all_eq_true.mp h en he)
def kX5_isTip : List fw_Ent := [
  (0, 1, .iload_n 0, 0, 0), (1, 3, .ifCond .lt 14, 0, 15), (4, 1, .iload_n 0, 0, 0), (5, 3, .sipush 1000, 1000, 0),
  (8, 3, .if_icmp .gt 7, 0, 15), (11, 1, .iconst 1, 1, 0), (12, 3, .goto 4, 0, 16), (15, 1, .iconst 0, 0, 0),
  (16, 1, .ireturn, 0, 0)]
theorem kX5_isTip_ok : fw_chk cX5_isTip 1 kX5_isTip = true := by decide +kernel
theorem kX5_isTip_cst : ∀ en ∈ kX5_isTip, fw_CstOK RX5 cst_X5 en := by
  have h : kX5_isTip.all (fw_cstq cp_X5) = true := by decide +kernel
  exact fun en he => fw_cstX cp_X5_ok cst_X5_ok (List.all_eq_true.mp h en he)
def kX5_isTicks : List fw_Ent := [
  (0, 1, .iload_n 0, 0, 0), (1, 3, .ifCond .lt 14, 0, 15), (4, 1, .iload_n 0, 0, 0), (5, 3, .sipush 200, 200, 0),
  (8, 3, .if_icmp .gt 7, 0, 15), (11, 1, .iconst 1, 1, 0), (12, 3, .goto 4, 0, 16), (15, 1, .iconst 0, 0, 0),
  (16, 1, .ireturn, 0, 0)]
theorem kX5_isTicks_ok : fw_chk cX5_isTicks 1 kX5_isTicks = true := by decide +kernel
theorem kX5_isTicks_cst : ∀ en ∈ kX5_isTicks, fw_CstOK RX5 cst_X5 en := by
  have h : kX5_isTicks.all (fw_cstq cp_X5) = true := by decide +kernel
  exact fun en he => fw_cstX cp_X5_ok cst_X5_ok (List.all_eq_true.mp h en he)
def kX5_holds : List fw_Ent := [
  (0, 1, .iload_n 0, 0, 0), (1, 1, .iload_n 1, 0, 0), (2, 1, .ishr, 0, 0), (3, 1, .iconst 1, 1, 0),
  (4, 1, .iand, 0, 0), (5, 1, .iconst 1, 1, 0), (6, 3, .if_icmp .ne 7, 0, 13), (9, 1, .iconst 1, 1, 0),
  (10, 3, .goto 4, 0, 14), (13, 1, .iconst 0, 0, 0), (14, 1, .ireturn, 0, 0)]
theorem kX5_holds_ok : fw_chk cX5_holds 2 kX5_holds = true := by decide +kernel
theorem kX5_holds_cst : ∀ en ∈ kX5_holds, fw_CstOK RX5 cst_X5 en := by
  have h : kX5_holds.all (fw_cstq cp_X5) = true := by decide +kernel
  exact fun en he => fw_cstX cp_X5_ok cst_X5_ok (List.all_eq_true.mp h en he)
def kX5_nextZone : List fw_Ent := [
  (0, 1, .iload_n 1, 0, 0), (1, 1, .iconst 4, 4, 0), (2, 1, .irem, 0, 0), (3, 1, .iload_n 0, 0, 0),
  (4, 1, .iconst 4, 4, 0), (5, 1, .irem, 0, 0), (6, 1, .isub, 0, 0), (7, 1, .istore_n 2, 0, 0),
  (8, 1, .iload_n 2, 0, 0), (9, 3, .ifCond .eq 17, 0, 26), (12, 1, .iload_n 2, 0, 0), (13, 3, .ifCond .le 9, 0, 22),
  (16, 1, .iload_n 0, 0, 0), (17, 1, .iconst 1, 1, 0), (18, 1, .iadd, 0, 0), (19, 3, .goto 6, 0, 25),
  (22, 1, .iload_n 0, 0, 0), (23, 1, .iconst 1, 1, 0), (24, 1, .isub, 0, 0), (25, 1, .ireturn, 0, 0),
  (26, 1, .iload_n 1, 0, 0), (27, 1, .iconst 4, 4, 0), (28, 1, .idiv, 0, 0), (29, 1, .iload_n 0, 0, 0),
  (30, 1, .iconst 4, 4, 0), (31, 1, .idiv, 0, 0), (32, 1, .isub, 0, 0), (33, 1, .istore_n 3, 0, 0),
  (34, 1, .iload_n 3, 0, 0), (35, 3, .ifCond .eq 17, 0, 52), (38, 1, .iload_n 3, 0, 0), (39, 3, .ifCond .le 9, 0, 48),
  (42, 1, .iload_n 0, 0, 0), (43, 1, .iconst 4, 4, 0), (44, 1, .iadd, 0, 0), (45, 3, .goto 6, 0, 51),
  (48, 1, .iload_n 0, 0, 0), (49, 1, .iconst 4, 4, 0), (50, 1, .isub, 0, 0), (51, 1, .ireturn, 0, 0),
  (52, 1, .iload_n 0, 0, 0), (53, 1, .ireturn, 0, 0)]
theorem kX5_nextZone_ok : fw_chk cX5_nextZone 4 kX5_nextZone = true := by decide +kernel
theorem kX5_nextZone_cst : ∀ en ∈ kX5_nextZone, fw_CstOK RX5 cst_X5 en := by
  have h : kX5_nextZone.all (fw_cstq cp_X5) = true := by decide +kernel
  exact fun en he => fw_cstX cp_X5_ok cst_X5_ok (List.all_eq_true.mp h en he)
def kX5_at : List fw_Ent := [
  (0, 1, .iload_n 1, 0, 0), (1, 3, .ifCond .lt 15, 0, 16), (4, 1, .iload_n 1, 0, 0), (5, 1, .aload_n 0, 0, 0),
  (6, 1, .arraylength, 0, 0), (7, 3, .if_icmp .ge 9, 0, 16), (10, 1, .aload_n 0, 0, 0), (11, 1, .iload_n 1, 0, 0),
  (12, 1, .iaload, 0, 0), (13, 3, .goto 4, 0, 17), (16, 1, .iconst 0, 0, 0), (17, 1, .ireturn, 0, 0)]
theorem kX5_at_ok : fw_chk cX5_at 2 kX5_at = true := by decide +kernel
theorem kX5_at_cst : ∀ en ∈ kX5_at, fw_CstOK RX5 cst_X5 en := by
  have h : kX5_at.all (fw_cstq cp_X5) = true := by decide +kernel
  exact fun en he => fw_cstX cp_X5_ok cst_X5_ok (List.all_eq_true.mp h en he)
def kX5_sum : List fw_Ent := [
  (0, 1, .iconst 0, 0, 0), (1, 1, .istore_n 1, 0, 0), (2, 1, .iconst 0, 0, 0), (3, 1, .istore_n 2, 0, 0),
  (4, 1, .iload_n 2, 0, 0), (5, 1, .aload_n 0, 0, 0), (6, 1, .arraylength, 0, 0), (7, 3, .if_icmp .ge 15, 0, 22),
  (10, 1, .iload_n 1, 0, 0), (11, 1, .aload_n 0, 0, 0), (12, 1, .iload_n 2, 0, 0), (13, 1, .iaload, 0, 0),
  (14, 1, .iadd, 0, 0), (15, 1, .istore_n 1, 0, 0), (16, 3, .iinc 2 1, 1, 0), (19, 3, .goto (-15), 0, 4),
  (22, 1, .iload_n 1, 0, 0), (23, 1, .ireturn, 0, 0)]
theorem kX5_sum_ok : fw_chk cX5_sum 3 kX5_sum = true := by decide +kernel
theorem kX5_sum_cst : ∀ en ∈ kX5_sum, fw_CstOK RX5 cst_X5 en := by
  have h : kX5_sum.all (fw_cstq cp_X5) = true := by decide +kernel
  exact fun en he => fw_cstX cp_X5_ok cst_X5_ok (List.all_eq_true.mp h en he)
def kX5_copyRow : List fw_Ent := [
  (0, 1, .aload_n 0, 0, 0), (1, 1, .iconst 0, 0, 0), (2, 1, .aload_n 1, 0, 0), (3, 1, .iconst 0, 0, 0),
  (4, 1, .aload_n 0, 0, 0), (5, 1, .arraylength, 0, 0), (6, 1, .aload_n 1, 0, 0), (7, 1, .arraylength, 0, 0),
  (8, 3, .invokestatic 208, 0, 0), (11, 3, .invokestatic 211, 0, 0), (14, 1, .return_, 0, 0)]
theorem kX5_copyRow_ok : fw_chk cX5_copyRow 2 kX5_copyRow = true := by decide +kernel
theorem kX5_copyRow_cst : ∀ en ∈ kX5_copyRow, fw_CstOK RX5 cst_X5 en := by
  have h : kX5_copyRow.all (fw_cstq cp_X5) = true := by decide +kernel
  exact fun en he => fw_cstX cp_X5_ok cst_X5_ok (List.all_eq_true.mp h en he)
def kX6_thrown : List fw_Ent := [
  (0, 1, .aload_n 0, 0, 0), (1, 3, .getfield 25, 0, 0), (4, 1, .ireturn, 0, 0)]
theorem kX6_thrown_ok : fw_chk cX6_thrown 1 kX6_thrown = true := by decide +kernel
theorem kX6_thrown_cst : ∀ en ∈ kX6_thrown, fw_CstOK RX6 cst_X6 en := by
  have h : kX6_thrown.all (fw_cstq cp_X6) = true := by decide +kernel
  exact fun en he => fw_cstX cp_X6_ok cst_X6_ok (List.all_eq_true.mp h en he)
def kX6_in : List fw_Ent := [
  (0, 1, .iload_n 0, 0, 0), (1, 1, .iload_n 1, 0, 0), (2, 3, .if_icmp .lt 12, 0, 14), (5, 1, .iload_n 0, 0, 0),
  (6, 1, .iload_n 2, 0, 0), (7, 3, .if_icmp .gt 7, 0, 14), (10, 1, .iconst 1, 1, 0), (11, 3, .goto 4, 0, 15),
  (14, 1, .iconst 0, 0, 0), (15, 1, .ireturn, 0, 0)]
theorem kX6_in_ok : fw_chk cX6_in 3 kX6_in = true := by decide +kernel
theorem kX6_in_cst : ∀ en ∈ kX6_in, fw_CstOK RX6 cst_X6 en := by
  have h : kX6_in.all (fw_cstq cp_X6) = true := by decide +kernel
  exact fun en he => fw_cstX cp_X6_ok cst_X6_ok (List.all_eq_true.mp h en he)
def kX6_fails : List fw_Ent := [
  (0, 1, .aload_n 0, 0, 0), (1, 1, .iload_n 1, 0, 0), (2, 3, .putfield 25, 0, 0), (5, 1, .iconst 0, 0, 0),
  (6, 1, .ireturn, 0, 0)]
theorem kX6_fails_ok : fw_chk cX6_fails 2 kX6_fails = true := by decide +kernel
theorem kX6_fails_cst : ∀ en ∈ kX6_fails, fw_CstOK RX6 cst_X6 en := by
  have h : kX6_fails.all (fw_cstq cp_X6) = true := by decide +kernel
  exact fun en he => fw_cstX cp_X6_ok cst_X6_ok (List.all_eq_true.mp h en he)
def kX6_tells : List fw_Ent := [
  (0, 1, .aload_n 0, 0, 0), (1, 1, .iconst 0, 0, 0), (2, 3, .putfield 25, 0, 0), (5, 1, .iload_n 1, 0, 0),
  (6, 1, .ireturn, 0, 0)]
theorem kX6_tells_ok : fw_chk cX6_tells 2 kX6_tells = true := by decide +kernel
theorem kX6_tells_cst : ∀ en ∈ kX6_tells, fw_CstOK RX6 cst_X6 en := by
  have h : kX6_tells.all (fw_cstq cp_X6) = true := by decide +kernel
  exact fun en he => fw_cstX cp_X6_ok cst_X6_ok (List.all_eq_true.mp h en he)
def kX6_copies : List fw_Ent := [
  (0, 1, .iconst 0, 0, 0), (1, 1, .istore_n 2, 0, 0), (2, 1, .iload_n 2, 0, 0), (3, 3, .sipush 517, 517, 0),
  (6, 3, .if_icmp .ge 15, 0, 21), (9, 1, .aload_n 0, 0, 0), (10, 1, .iload_n 2, 0, 0), (11, 1, .aload_n 1, 0, 0),
  (12, 1, .iload_n 2, 0, 0), (13, 1, .iaload, 0, 0), (14, 1, .iastore, 0, 0), (15, 3, .iinc 2 1, 1, 0),
  (18, 3, .goto (-16), 0, 2), (21, 1, .return_, 0, 0)]
theorem kX6_copies_ok : fw_chk cX6_copies 3 kX6_copies = true := by decide +kernel
theorem kX6_copies_cst : ∀ en ∈ kX6_copies, fw_CstOK RX6 cst_X6 en := by
  have h : kX6_copies.all (fw_cstq cp_X6) = true := by decide +kernel
  exact fun en he => fw_cstX cp_X6_ok cst_X6_ok (List.all_eq_true.mp h en he)
def kX6_hold : List fw_Ent := [
  (0, 1, .aload_n 0, 0, 0), (1, 3, .getfield 16, 0, 0), (4, 1, .aload_n 0, 0, 0), (5, 3, .getfield 7, 0, 0),
  (8, 3, .invokestatic 29, 0, 0), (11, 1, .return_, 0, 0)]
theorem kX6_hold_ok : fw_chk cX6_hold 1 kX6_hold = true := by decide +kernel
theorem kX6_hold_cst : ∀ en ∈ kX6_hold, fw_CstOK RX6 cst_X6 en := by
  have h : kX6_hold.all (fw_cstq cp_X6) = true := by decide +kernel
  exact fun en he => fw_cstX cp_X6_ok cst_X6_ok (List.all_eq_true.mp h en he)
def kX6_ends : List fw_Ent := [
  (0, 1, .aload_n 0, 0, 0), (1, 3, .getfield 33, 0, 0), (4, 1, .iconst 4, 4, 0), (5, 3, .if_icmp .ne 44, 0, 49),
  (8, 1, .iconst 0, 0, 0), (9, 1, .istore_n 2, 0, 0), (10, 1, .iload_n 2, 0, 0), (11, 3, .sipush 1551, 1551, 0),
  (14, 3, .if_icmp .ge 25, 0, 39), (17, 1, .aload_n 0, 0, 0), (18, 3, .getfield 13, 0, 0), (21, 1, .iload_n 2, 0, 0),
  (22, 1, .aload_n 0, 0, 0), (23, 3, .getfield 13, 0, 0), (26, 1, .iload_n 2, 0, 0), (27, 3, .sipush 517, 517, 0),
  (30, 1, .iadd, 0, 0), (31, 1, .iaload, 0, 0), (32, 1, .iastore, 0, 0), (33, 3, .iinc 2 1, 1, 0),
  (36, 3, .goto (-26), 0, 10), (39, 1, .aload_n 0, 0, 0), (40, 1, .dup, 0, 0), (41, 3, .getfield 33, 0, 0),
  (44, 1, .iconst 1, 1, 0), (45, 1, .isub, 0, 0), (46, 3, .putfield 33, 0, 0), (49, 1, .iconst 0, 0, 0),
  (50, 1, .istore_n 2, 0, 0), (51, 1, .iload_n 2, 0, 0), (52, 3, .sipush 517, 517, 0), (55, 3, .if_icmp .ge 30, 0, 85),
  (58, 1, .aload_n 0, 0, 0), (59, 3, .getfield 13, 0, 0), (62, 3, .sipush 517, 517, 0), (65, 1, .aload_n 0, 0, 0),
  (66, 3, .getfield 33, 0, 0), (69, 1, .imul, 0, 0), (70, 1, .iload_n 2, 0, 0), (71, 1, .iadd, 0, 0),
  (72, 1, .aload_n 0, 0, 0), (73, 3, .getfield 16, 0, 0), (76, 1, .iload_n 2, 0, 0), (77, 1, .iaload, 0, 0),
  (78, 1, .iastore, 0, 0), (79, 3, .iinc 2 1, 1, 0), (82, 3, .goto (-31), 0, 51), (85, 1, .aload_n 0, 0, 0),
  (86, 1, .dup, 0, 0), (87, 3, .getfield 33, 0, 0), (90, 1, .iconst 1, 1, 0), (91, 1, .iadd, 0, 0),
  (92, 3, .putfield 33, 0, 0), (95, 1, .aload_n 0, 0, 0), (96, 1, .iload_n 1, 0, 0), (97, 3, .invokevirtual 36, 0, 0),
  (100, 1, .ireturn, 0, 0)]
theorem kX6_ends_ok : fw_chk cX6_ends 3 kX6_ends = true := by decide +kernel
theorem kX6_ends_cst : ∀ en ∈ kX6_ends, fw_CstOK RX6 cst_X6 en := by
  have h : kX6_ends.all (fw_cstq cp_X6) = true := by decide +kernel
  exact fun en he => fw_cstX cp_X6_ok cst_X6_ok (List.all_eq_true.mp h en he)
def kX6_isCourier : List fw_Ent := [
  (0, 1, .iload_n 1, 0, 0), (1, 1, .iconst 0, 0, 0), (2, 1, .aload_n 0, 0, 0), (3, 3, .getfield 7, 0, 0),
  (6, 1, .iconst 2, 2, 0), (7, 1, .iaload, 0, 0), (8, 1, .iconst 1, 1, 0), (9, 1, .isub, 0, 0),
  (10, 3, .invokestatic 40, 0, 0), (13, 1, .ireturn, 0, 0)]
theorem kX6_isCourier_ok : fw_chk cX6_isCourier 2 kX6_isCourier = true := by decide +kernel
theorem kX6_isCourier_cst : ∀ en ∈ kX6_isCourier, fw_CstOK RX6 cst_X6 en := by
  have h : kX6_isCourier.all (fw_cstq cp_X6) = true := by decide +kernel
  exact fun en he => fw_cstX cp_X6_ok cst_X6_ok (List.all_eq_true.mp h en he)
def kX6_isParcel : List fw_Ent := [
  (0, 1, .iload_n 1, 0, 0), (1, 1, .iconst 0, 0, 0), (2, 1, .aload_n 0, 0, 0), (3, 3, .getfield 7, 0, 0),
  (6, 1, .iconst 3, 3, 0), (7, 1, .iaload, 0, 0), (8, 1, .iconst 1, 1, 0), (9, 1, .isub, 0, 0),
  (10, 3, .invokestatic 40, 0, 0), (13, 1, .ireturn, 0, 0)]
theorem kX6_isParcel_ok : fw_chk cX6_isParcel 2 kX6_isParcel = true := by decide +kernel
theorem kX6_isParcel_cst : ∀ en ∈ kX6_isParcel, fw_CstOK RX6 cst_X6 en := by
  have h : kX6_isParcel.all (fw_cstq cp_X6) = true := by decide +kernel
  exact fun en he => fw_cstX cp_X6_ok cst_X6_ok (List.all_eq_true.mp h en he)
def kX6_isZone : List fw_Ent := [
  (0, 1, .iload_n 0, 0, 0), (1, 1, .iconst 0, 0, 0), (2, 2, .bipush 15, 15, 0), (4, 3, .invokestatic 40, 0, 0),
  (7, 1, .ireturn, 0, 0)]
theorem kX6_isZone_ok : fw_chk cX6_isZone 1 kX6_isZone = true := by decide +kernel
theorem kX6_isZone_cst : ∀ en ∈ kX6_isZone, fw_CstOK RX6 cst_X6 en := by
  have h : kX6_isZone.all (fw_cstq cp_X6) = true := by decide +kernel
  exact fun en he => fw_cstX cp_X6_ok cst_X6_ok (List.all_eq_true.mp h en he)
def kX6_of : List fw_Ent := [
  (0, 1, .aload_n 0, 0, 0), (1, 3, .getfield 7, 0, 0), (4, 2, .bipush 7, 7, 0), (6, 1, .iconst 5, 5, 0),
  (7, 1, .iload_n 1, 0, 0), (8, 1, .imul, 0, 0), (9, 1, .iadd, 0, 0), (10, 1, .iload_n 2, 0, 0),
  (11, 1, .iadd, 0, 0), (12, 1, .iaload, 0, 0), (13, 1, .ireturn, 0, 0)]
theorem kX6_of_ok : fw_chk cX6_of 3 kX6_of = true := by decide +kernel
theorem kX6_of_cst : ∀ en ∈ kX6_of, fw_CstOK RX6 cst_X6 en := by
  have h : kX6_of.all (fw_cstq cp_X6) = true := by decide +kernel
  exact fun en he => fw_cstX cp_X6_ok cst_X6_ok (List.all_eq_true.mp h en he)
def kX6_sets : List fw_Ent := [
  (0, 1, .aload_n 0, 0, 0), (1, 3, .getfield 7, 0, 0), (4, 2, .bipush 7, 7, 0), (6, 1, .iconst 5, 5, 0),
  (7, 1, .iload_n 1, 0, 0), (8, 1, .imul, 0, 0), (9, 1, .iadd, 0, 0), (10, 1, .iload_n 2, 0, 0),
  (11, 1, .iadd, 0, 0), (12, 1, .iload_n 3, 0, 0), (13, 1, .iastore, 0, 0), (14, 1, .return_, 0, 0)]
theorem kX6_sets_ok : fw_chk cX6_sets 4 kX6_sets = true := by decide +kernel
theorem kX6_sets_cst : ∀ en ∈ kX6_sets, fw_CstOK RX6 cst_X6 en := by
  have h : kX6_sets.all (fw_cstq cp_X6) = true := by decide +kernel
  exact fun en he => fw_cstX cp_X6_ok cst_X6_ok (List.all_eq_true.mp h en he)
def kX6_its : List fw_Ent := [
  (0, 1, .aload_n 0, 0, 0), (1, 3, .getfield 7, 0, 0), (4, 2, .bipush 37, 37, 0), (6, 2, .bipush 20, 20, 0),
  (8, 1, .iload_n 1, 0, 0), (9, 1, .imul, 0, 0), (10, 1, .iadd, 0, 0), (11, 1, .iload_n 2, 0, 0),
  (12, 1, .iadd, 0, 0), (13, 1, .iaload, 0, 0), (14, 1, .ireturn, 0, 0)]
theorem kX6_its_ok : fw_chk cX6_its 3 kX6_its = true := by decide +kernel
theorem kX6_its_cst : ∀ en ∈ kX6_its, fw_CstOK RX6 cst_X6 en := by
  have h : kX6_its.all (fw_cstq cp_X6) = true := by decide +kernel
  exact fun en he => fw_cstX cp_X6_ok cst_X6_ok (List.all_eq_true.mp h en he)
def kX6_puts : List fw_Ent := [
  (0, 1, .aload_n 0, 0, 0), (1, 3, .getfield 7, 0, 0), (4, 2, .bipush 37, 37, 0), (6, 2, .bipush 20, 20, 0),
  (8, 1, .iload_n 1, 0, 0), (9, 1, .imul, 0, 0), (10, 1, .iadd, 0, 0), (11, 1, .iload_n 2, 0, 0),
  (12, 1, .iadd, 0, 0), (13, 1, .iload_n 3, 0, 0), (14, 1, .iastore, 0, 0), (15, 1, .return_, 0, 0)]
theorem kX6_puts_ok : fw_chk cX6_puts 4 kX6_puts = true := by decide +kernel
theorem kX6_puts_cst : ∀ en ∈ kX6_puts, fw_CstOK RX6 cst_X6 en := by
  have h : kX6_puts.all (fw_cstq cp_X6) = true := by decide +kernel
  exact fun en he => fw_cstX cp_X6_ok cst_X6_ok (List.all_eq_true.mp h en he)
def kX6_isIn : List fw_Ent := [
  (0, 1, .aload_n 0, 0, 0), (1, 1, .iload_n 1, 0, 0), (2, 1, .iconst 0, 0, 0), (3, 3, .invokevirtual 44, 0, 0),
  (6, 1, .iload_n 2, 0, 0), (7, 1, .ishr, 0, 0), (8, 1, .iconst 1, 1, 0), (9, 1, .iand, 0, 0),
  (10, 1, .iconst 1, 1, 0), (11, 3, .if_icmp .ne 7, 0, 18), (14, 1, .iconst 1, 1, 0), (15, 3, .goto 4, 0, 19),
  (18, 1, .iconst 0, 0, 0), (19, 1, .ireturn, 0, 0)]
theorem kX6_isIn_ok : fw_chk cX6_isIn 3 kX6_isIn = true := by decide +kernel
theorem kX6_isIn_cst : ∀ en ∈ kX6_isIn, fw_CstOK RX6 cst_X6 en := by
  have h : kX6_isIn.all (fw_cstq cp_X6) = true := by decide +kernel
  exact fun en he => fw_cstX cp_X6_ok cst_X6_ok (List.all_eq_true.mp h en he)
def kX6_next : List fw_Ent := [
  (0, 1, .iload_n 0, 0, 0), (1, 1, .iconst 4, 4, 0), (2, 1, .irem, 0, 0), (3, 1, .iload_n 1, 0, 0),
  (4, 1, .iconst 4, 4, 0), (5, 1, .irem, 0, 0), (6, 3, .if_icmp .eq 22, 0, 28), (9, 1, .iload_n 0, 0, 0),
  (10, 1, .iconst 4, 4, 0), (11, 1, .irem, 0, 0), (12, 1, .iload_n 1, 0, 0), (13, 1, .iconst 4, 4, 0),
  (14, 1, .irem, 0, 0), (15, 3, .if_icmp .ge 9, 0, 24), (18, 1, .iload_n 0, 0, 0), (19, 1, .iconst 1, 1, 0),
  (20, 1, .iadd, 0, 0), (21, 3, .goto 6, 0, 27), (24, 1, .iload_n 0, 0, 0), (25, 1, .iconst 1, 1, 0),
  (26, 1, .isub, 0, 0), (27, 1, .ireturn, 0, 0), (28, 1, .iload_n 0, 0, 0), (29, 1, .iload_n 1, 0, 0),
  (30, 3, .if_icmp .ge 9, 0, 39), (33, 1, .iload_n 0, 0, 0), (34, 1, .iconst 4, 4, 0), (35, 1, .iadd, 0, 0),
  (36, 3, .goto 15, 0, 51), (39, 1, .iload_n 0, 0, 0), (40, 1, .iload_n 1, 0, 0), (41, 3, .if_icmp .le 9, 0, 50),
  (44, 1, .iload_n 0, 0, 0), (45, 1, .iconst 4, 4, 0), (46, 1, .isub, 0, 0), (47, 3, .goto 4, 0, 51),
  (50, 1, .iload_n 0, 0, 0), (51, 1, .ireturn, 0, 0)]
theorem kX6_next_ok : fw_chk cX6_next 2 kX6_next = true := by decide +kernel
theorem kX6_next_cst : ∀ en ∈ kX6_next, fw_CstOK RX6 cst_X6 en := by
  have h : kX6_next.all (fw_cstq cp_X6) = true := by decide +kernel
  exact fun en he => fw_cstX cp_X6_ok cst_X6_ok (List.all_eq_true.mp h en he)
def kX6_frees : List fw_Ent := [
  (0, 1, .aload_n 0, 0, 0), (1, 1, .iload_n 1, 0, 0), (2, 1, .iconst 3, 3, 0), (3, 1, .iconst 0, 0, 0),
  (4, 3, .invokevirtual 48, 0, 0), (7, 1, .aload_n 0, 0, 0), (8, 1, .iload_n 1, 0, 0), (9, 1, .iconst 4, 4, 0),
  (10, 1, .iconst (-1), (-1), 0), (11, 3, .invokevirtual 48, 0, 0), (14, 1, .return_, 0, 0)]
theorem kX6_frees_ok : fw_chk cX6_frees 2 kX6_frees = true := by decide +kernel
theorem kX6_frees_cst : ∀ en ∈ kX6_frees, fw_CstOK RX6 cst_X6 en := by
  have h : kX6_frees.all (fw_cstq cp_X6) = true := by decide +kernel
  exact fun en he => fw_cstX cp_X6_ok cst_X6_ok (List.all_eq_true.mp h en he)
def kX6_suits : List fw_Ent := [
  (0, 1, .aload_n 0, 0, 0), (1, 1, .iload_n 2, 0, 0), (2, 1, .aload_n 0, 0, 0), (3, 1, .iload_n 1, 0, 0),
  (4, 1, .iconst 5, 5, 0), (5, 3, .invokevirtual 52, 0, 0), (8, 3, .invokevirtual 55, 0, 0), (11, 3, .ifCond .eq 30, 0, 41),
  (14, 1, .aload_n 0, 0, 0), (15, 1, .iload_n 2, 0, 0), (16, 1, .aload_n 0, 0, 0), (17, 1, .iload_n 1, 0, 0),
  (18, 1, .iconst 5, 5, 0), (19, 3, .invokevirtual 52, 0, 0), (22, 1, .aload_n 0, 0, 0), (23, 1, .iload_n 1, 0, 0),
  (24, 1, .iconst 1, 1, 0), (25, 3, .invokevirtual 52, 0, 0), (28, 3, .invokestatic 59, 0, 0), (31, 3, .invokevirtual 55, 0, 0),
  (34, 3, .ifCond .eq 7, 0, 41), (37, 1, .iconst 1, 1, 0), (38, 3, .goto 4, 0, 42), (41, 1, .iconst 0, 0, 0),
  (42, 1, .ireturn, 0, 0)]
theorem kX6_suits_ok : fw_chk cX6_suits 3 kX6_suits = true := by decide +kernel
theorem kX6_suits_cst : ∀ en ∈ kX6_suits, fw_CstOK RX6 cst_X6 en := by
  have h : kX6_suits.all (fw_cstq cp_X6) = true := by decide +kernel
  exact fun en he => fw_cstX cp_X6_ok cst_X6_ok (List.all_eq_true.mp h en he)
def kX6_legsOf : List fw_Ent := [
  (0, 1, .iconst 0, 0, 0), (1, 1, .istore_n 2, 0, 0), (2, 1, .iconst 0, 0, 0), (3, 1, .istore_n 3, 0, 0),
  (4, 1, .iload_n 3, 0, 0), (5, 2, .bipush 6, 6, 0), (7, 3, .if_icmp .ge 21, 0, 28), (10, 1, .iload_n 2, 0, 0),
  (11, 1, .aload_n 0, 0, 0), (12, 1, .iload_n 1, 0, 0), (13, 2, .bipush 8, 8, 0), (15, 1, .iload_n 3, 0, 0),
  (16, 1, .iadd, 0, 0), (17, 3, .invokevirtual 52, 0, 0), (20, 1, .iadd, 0, 0), (21, 1, .istore_n 2, 0, 0),
  (22, 3, .iinc 3 1, 1, 0), (25, 3, .goto (-21), 0, 4), (28, 1, .iload_n 2, 0, 0), (29, 1, .ireturn, 0, 0)]
theorem kX6_legsOf_ok : fw_chk cX6_legsOf 4 kX6_legsOf = true := by decide +kernel
theorem kX6_legsOf_cst : ∀ en ∈ kX6_legsOf, fw_CstOK RX6 cst_X6 en := by
  have h : kX6_legsOf.all (fw_cstq cp_X6) = true := by decide +kernel
  exact fun en he => fw_cstX cp_X6_ok cst_X6_ok (List.all_eq_true.mp h en he)
def kX6_shares : List fw_Ent := [
  (0, 1, .aload_n 0, 0, 0), (1, 1, .iload_n 1, 0, 0), (2, 3, .invokevirtual 62, 0, 0), (5, 1, .istore_n 3, 0, 0),
  (6, 1, .iload_n 2, 0, 0), (7, 2, .istore 4, 0, 0), (9, 1, .iconst 0, 0, 0), (10, 2, .istore 5, 0, 0),
  (12, 2, .iload 5, 0, 0), (14, 2, .bipush 6, 6, 0), (16, 3, .if_icmp .ge 44, 0, 60), (19, 1, .iload_n 2, 0, 0),
  (20, 1, .aload_n 0, 0, 0), (21, 1, .iload_n 1, 0, 0), (22, 2, .bipush 8, 8, 0), (24, 2, .iload 5, 0, 0),
  (26, 1, .iadd, 0, 0), (27, 3, .invokevirtual 52, 0, 0), (30, 1, .imul, 0, 0), (31, 1, .iload_n 3, 0, 0),
  (32, 1, .idiv, 0, 0), (33, 2, .istore 6, 0, 0), (35, 1, .aload_n 0, 0, 0), (36, 1, .iload_n 1, 0, 0),
  (37, 2, .bipush 14, 14, 0), (39, 2, .iload 5, 0, 0), (41, 1, .iadd, 0, 0), (42, 2, .iload 6, 0, 0),
  (44, 3, .invokevirtual 65, 0, 0), (47, 2, .iload 4, 0, 0), (49, 2, .iload 6, 0, 0), (51, 1, .isub, 0, 0),
  (52, 2, .istore 4, 0, 0), (54, 3, .iinc 5 1, 1, 0), (57, 3, .goto (-45), 0, 12), (60, 1, .iconst 0, 0, 0),
  (61, 2, .istore 5, 0, 0), (63, 2, .iload 4, 0, 0), (65, 3, .ifCond .le 103, 0, 168), (68, 1, .iconst (-1), (-1), 0),
  (69, 2, .istore 6, 0, 0), (71, 1, .iconst 0, 0, 0), (72, 2, .istore 7, 0, 0), (74, 1, .iconst 0, 0, 0),
  (75, 2, .istore 8, 0, 0), (77, 2, .iload 8, 0, 0), (79, 2, .bipush 6, 6, 0), (81, 3, .if_icmp .ge 50, 0, 131),
  (84, 1, .iload_n 2, 0, 0), (85, 1, .aload_n 0, 0, 0), (86, 1, .iload_n 1, 0, 0), (87, 2, .bipush 8, 8, 0),
  (89, 2, .iload 8, 0, 0), (91, 1, .iadd, 0, 0), (92, 3, .invokevirtual 52, 0, 0), (95, 1, .imul, 0, 0),
  (96, 1, .iload_n 3, 0, 0), (97, 1, .irem, 0, 0), (98, 2, .istore 9, 0, 0), (100, 2, .iload 5, 0, 0),
  (102, 2, .iload 8, 0, 0), (104, 1, .ishr, 0, 0), (105, 1, .iconst 1, 1, 0), (106, 1, .iand, 0, 0),
  (107, 3, .ifCond .ne 18, 0, 125), (110, 2, .iload 9, 0, 0), (112, 2, .iload 7, 0, 0), (114, 3, .if_icmp .le 11, 0, 125),
  (117, 2, .iload 8, 0, 0), (119, 2, .istore 6, 0, 0), (121, 2, .iload 9, 0, 0), (123, 2, .istore 7, 0, 0),
  (125, 3, .iinc 8 1, 1, 0), (128, 3, .goto (-51), 0, 77), (131, 2, .iload 5, 0, 0), (133, 1, .iconst 1, 1, 0),
  (134, 2, .iload 6, 0, 0), (136, 1, .ishl, 0, 0), (137, 1, .ior, 0, 0), (138, 2, .istore 5, 0, 0),
  (140, 1, .aload_n 0, 0, 0), (141, 1, .iload_n 1, 0, 0), (142, 2, .bipush 14, 14, 0), (144, 2, .iload 6, 0, 0),
  (146, 1, .iadd, 0, 0), (147, 1, .aload_n 0, 0, 0), (148, 1, .iload_n 1, 0, 0), (149, 2, .bipush 14, 14, 0),
  (151, 2, .iload 6, 0, 0), (153, 1, .iadd, 0, 0), (154, 3, .invokevirtual 52, 0, 0), (157, 1, .iconst 1, 1, 0),
  (158, 1, .iadd, 0, 0), (159, 3, .invokevirtual 65, 0, 0), (162, 3, .iinc 4 (-1), (-1), 0), (165, 3, .goto (-102), 0, 63),
  (168, 1, .iconst 0, 0, 0), (169, 2, .istore 6, 0, 0), (171, 2, .iload 6, 0, 0), (173, 1, .aload_n 0, 0, 0),
  (174, 3, .getfield 7, 0, 0), (177, 1, .iconst 2, 2, 0), (178, 1, .iaload, 0, 0), (179, 3, .if_icmp .ge 34, 0, 213),
  (182, 1, .aload_n 0, 0, 0), (183, 2, .iload 6, 0, 0), (185, 1, .iconst 2, 2, 0), (186, 1, .aload_n 0, 0, 0),
  (187, 2, .iload 6, 0, 0), (189, 1, .iconst 2, 2, 0), (190, 3, .invokevirtual 44, 0, 0), (193, 1, .aload_n 0, 0, 0),
  (194, 1, .iload_n 1, 0, 0), (195, 2, .bipush 14, 14, 0), (197, 2, .iload 6, 0, 0), (199, 1, .iadd, 0, 0),
  (200, 3, .invokevirtual 52, 0, 0), (203, 1, .iadd, 0, 0), (204, 3, .invokevirtual 48, 0, 0), (207, 3, .iinc 6 1, 1, 0),
  (210, 3, .goto (-39), 0, 171), (213, 1, .return_, 0, 0)]
theorem kX6_shares_ok : fw_chk cX6_shares 10 kX6_shares = true := by decide +kernel
theorem kX6_shares_cst : ∀ en ∈ kX6_shares, fw_CstOK RX6 cst_X6 en := by
  have h : kX6_shares.all (fw_cstq cp_X6) = true := by decide +kernel
  exact fun en he => fw_cstX cp_X6_ok cst_X6_ok (List.all_eq_true.mp h en he)
def kX6_delivers : List fw_Ent := [
  (0, 1, .aload_n 0, 0, 0), (1, 3, .getfield 7, 0, 0), (4, 1, .iconst 0, 0, 0), (5, 1, .iaload, 0, 0),
  (6, 1, .aload_n 0, 0, 0), (7, 1, .iload_n 2, 0, 0), (8, 1, .iconst 2, 2, 0), (9, 3, .invokevirtual 52, 0, 0),
  (12, 3, .if_icmp .gt 12, 0, 24), (15, 1, .aload_n 0, 0, 0), (16, 1, .iload_n 2, 0, 0), (17, 1, .iconst 3, 3, 0),
  (18, 3, .invokevirtual 52, 0, 0), (21, 3, .goto 11, 0, 32), (24, 1, .aload_n 0, 0, 0), (25, 1, .iload_n 2, 0, 0),
  (26, 1, .iconst 3, 3, 0), (27, 3, .invokevirtual 52, 0, 0), (30, 1, .iconst 2, 2, 0), (31, 1, .idiv, 0, 0),
  (32, 1, .istore_n 3, 0, 0), (33, 1, .aload_n 0, 0, 0), (34, 1, .iload_n 2, 0, 0), (35, 1, .iconst 4, 4, 0),
  (36, 1, .iconst 2, 2, 0), (37, 3, .invokevirtual 65, 0, 0), (40, 1, .aload_n 0, 0, 0), (41, 1, .iload_n 2, 0, 0),
  (42, 2, .bipush 6, 6, 0), (44, 1, .aload_n 0, 0, 0), (45, 3, .getfield 7, 0, 0), (48, 1, .iconst 0, 0, 0),
  (49, 1, .iaload, 0, 0), (50, 3, .invokevirtual 65, 0, 0), (53, 1, .aload_n 0, 0, 0), (54, 1, .iload_n 2, 0, 0),
  (55, 2, .bipush 7, 7, 0), (57, 1, .iload_n 3, 0, 0), (58, 3, .invokevirtual 65, 0, 0), (61, 1, .aload_n 0, 0, 0),
  (62, 3, .getfield 7, 0, 0), (65, 2, .bipush 6, 6, 0), (67, 1, .dup2, 0, 0), (68, 1, .iaload, 0, 0),
  (69, 1, .iload_n 3, 0, 0), (70, 1, .iadd, 0, 0), (71, 1, .iastore, 0, 0), (72, 1, .aload_n 0, 0, 0),
  (73, 1, .iload_n 2, 0, 0), (74, 1, .iload_n 3, 0, 0), (75, 3, .invokevirtual 68, 0, 0), (78, 1, .aload_n 0, 0, 0),
  (79, 1, .iload_n 1, 0, 0), (80, 3, .invokevirtual 72, 0, 0), (83, 1, .return_, 0, 0)]
theorem kX6_delivers_ok : fw_chk cX6_delivers 4 kX6_delivers = true := by decide +kernel
theorem kX6_delivers_cst : ∀ en ∈ kX6_delivers, fw_CstOK RX6 cst_X6 en := by
  have h : kX6_delivers.all (fw_cstq cp_X6) = true := by decide +kernel
  exact fun en he => fw_cstX cp_X6_ok cst_X6_ok (List.all_eq_true.mp h en he)
def kX6_carries : List fw_Ent := [
  (0, 1, .aload_n 0, 0, 0), (1, 1, .iload_n 1, 0, 0), (2, 1, .iconst 1, 1, 0), (3, 3, .invokevirtual 44, 0, 0),
  (6, 1, .aload_n 0, 0, 0), (7, 1, .iload_n 2, 0, 0), (8, 1, .iconst 1, 1, 0), (9, 3, .invokevirtual 52, 0, 0),
  (12, 3, .invokestatic 59, 0, 0), (15, 1, .istore_n 3, 0, 0), (16, 1, .aload_n 0, 0, 0), (17, 1, .iload_n 1, 0, 0),
  (18, 1, .iload_n 3, 0, 0), (19, 3, .invokevirtual 55, 0, 0), (22, 3, .ifCond .ne 26, 0, 48), (25, 1, .aload_n 0, 0, 0),
  (26, 1, .iload_n 2, 0, 0), (27, 1, .iconst 4, 4, 0), (28, 1, .iconst 0, 0, 0), (29, 3, .invokevirtual 65, 0, 0),
  (32, 1, .aload_n 0, 0, 0), (33, 3, .getfield 7, 0, 0), (36, 1, .iconst 4, 4, 0), (37, 1, .dup2, 0, 0),
  (38, 1, .iaload, 0, 0), (39, 1, .iconst 1, 1, 0), (40, 1, .iadd, 0, 0), (41, 1, .iastore, 0, 0),
  (42, 1, .aload_n 0, 0, 0), (43, 1, .iload_n 1, 0, 0), (44, 3, .invokevirtual 72, 0, 0), (47, 1, .return_, 0, 0),
  (48, 1, .aload_n 0, 0, 0), (49, 1, .iload_n 1, 0, 0), (50, 1, .iconst 1, 1, 0), (51, 1, .iload_n 3, 0, 0),
  (52, 3, .invokevirtual 48, 0, 0), (55, 1, .aload_n 0, 0, 0), (56, 3, .getfield 7, 0, 0), (59, 1, .iconst 5, 5, 0),
  (60, 1, .dup2, 0, 0), (61, 1, .iaload, 0, 0), (62, 1, .iconst 1, 1, 0), (63, 1, .iadd, 0, 0),
  (64, 1, .iastore, 0, 0), (65, 1, .aload_n 0, 0, 0), (66, 1, .iload_n 2, 0, 0), (67, 1, .iconst 5, 5, 0),
  (68, 1, .iload_n 3, 0, 0), (69, 3, .invokevirtual 65, 0, 0), (72, 1, .aload_n 0, 0, 0), (73, 1, .iload_n 2, 0, 0),
  (74, 2, .bipush 8, 8, 0), (76, 1, .iload_n 1, 0, 0), (77, 1, .iadd, 0, 0), (78, 1, .aload_n 0, 0, 0),
  (79, 1, .iload_n 2, 0, 0), (80, 2, .bipush 8, 8, 0), (82, 1, .iload_n 1, 0, 0), (83, 1, .iadd, 0, 0),
  (84, 3, .invokevirtual 52, 0, 0), (87, 1, .iconst 1, 1, 0), (88, 1, .iadd, 0, 0), (89, 3, .invokevirtual 65, 0, 0),
  (92, 1, .iload_n 3, 0, 0), (93, 1, .aload_n 0, 0, 0), (94, 1, .iload_n 2, 0, 0), (95, 1, .iconst 1, 1, 0),
  (96, 3, .invokevirtual 52, 0, 0), (99, 3, .if_icmp .ne 9, 0, 108), (102, 1, .aload_n 0, 0, 0), (103, 1, .iload_n 1, 0, 0),
  (104, 1, .iload_n 2, 0, 0), (105, 3, .invokevirtual 76, 0, 0), (108, 1, .return_, 0, 0)]
theorem kX6_carries_ok : fw_chk cX6_carries 4 kX6_carries = true := by decide +kernel
theorem kX6_carries_cst : ∀ en ∈ kX6_carries, fw_CstOK RX6 cst_X6 en := by
  have h : kX6_carries.all (fw_cstq cp_X6) = true := by decide +kernel
  exact fun en he => fw_cstX cp_X6_ok cst_X6_ok (List.all_eq_true.mp h en he)
def kX6_goes : List fw_Ent := [
  (0, 1, .aload_n 0, 0, 0), (1, 1, .iload_n 1, 0, 0), (2, 1, .iconst 1, 1, 0), (3, 3, .invokevirtual 44, 0, 0),
  (6, 1, .aload_n 0, 0, 0), (7, 1, .iload_n 2, 0, 0), (8, 1, .iconst 5, 5, 0), (9, 3, .invokevirtual 52, 0, 0),
  (12, 3, .if_icmp .ne 18, 0, 30), (15, 1, .aload_n 0, 0, 0), (16, 1, .iload_n 1, 0, 0), (17, 1, .iconst 3, 3, 0),
  (18, 1, .iconst 2, 2, 0), (19, 3, .invokevirtual 48, 0, 0), (22, 1, .aload_n 0, 0, 0), (23, 1, .iload_n 2, 0, 0),
  (24, 1, .iconst 4, 4, 0), (25, 1, .iconst 1, 1, 0), (26, 3, .invokevirtual 65, 0, 0), (29, 1, .return_, 0, 0),
  (30, 1, .aload_n 0, 0, 0), (31, 1, .iload_n 1, 0, 0), (32, 1, .iconst 1, 1, 0), (33, 1, .aload_n 0, 0, 0),
  (34, 1, .iload_n 1, 0, 0), (35, 1, .iconst 1, 1, 0), (36, 3, .invokevirtual 44, 0, 0), (39, 1, .aload_n 0, 0, 0),
  (40, 1, .iload_n 2, 0, 0), (41, 1, .iconst 5, 5, 0), (42, 3, .invokevirtual 52, 0, 0), (45, 3, .invokestatic 59, 0, 0),
  (48, 3, .invokevirtual 48, 0, 0), (51, 1, .aload_n 0, 0, 0), (52, 3, .getfield 7, 0, 0), (55, 1, .iconst 5, 5, 0),
  (56, 1, .dup2, 0, 0), (57, 1, .iaload, 0, 0), (58, 1, .iconst 1, 1, 0), (59, 1, .iadd, 0, 0),
  (60, 1, .iastore, 0, 0), (61, 1, .return_, 0, 0)]
theorem kX6_goes_ok : fw_chk cX6_goes 3 kX6_goes = true := by decide +kernel
theorem kX6_goes_cst : ∀ en ∈ kX6_goes, fw_CstOK RX6 cst_X6 en := by
  have h : kX6_goes.all (fw_cstq cp_X6) = true := by decide +kernel
  exact fun en he => fw_cstX cp_X6_ok cst_X6_ok (List.all_eq_true.mp h en he)
def kX6_isAsked : List fw_Ent := [
  (0, 1, .iconst 0, 0, 0), (1, 1, .istore_n 3, 0, 0), (2, 1, .iconst 0, 0, 0), (3, 2, .istore 4, 0, 0),
  (5, 2, .iload 4, 0, 0), (7, 1, .aload_n 0, 0, 0), (8, 3, .getfield 7, 0, 0), (11, 1, .iconst 2, 2, 0),
  (12, 1, .iaload, 0, 0), (13, 3, .if_icmp .ge 47, 0, 60), (16, 1, .iload_n 3, 0, 0), (17, 3, .ifCond .ne 31, 0, 48),
  (20, 2, .iload 4, 0, 0), (22, 1, .iload_n 2, 0, 0), (23, 3, .if_icmp .eq 29, 0, 52), (26, 1, .aload_n 0, 0, 0),
  (27, 2, .iload 4, 0, 0), (29, 1, .iconst 3, 3, 0), (30, 3, .invokevirtual 44, 0, 0), (33, 1, .iconst 1, 1, 0),
  (34, 3, .if_icmp .ne 18, 0, 52), (37, 1, .aload_n 0, 0, 0), (38, 2, .iload 4, 0, 0), (40, 1, .iconst 4, 4, 0),
  (41, 3, .invokevirtual 44, 0, 0), (44, 1, .iload_n 1, 0, 0), (45, 3, .if_icmp .ne 7, 0, 52), (48, 1, .iconst 1, 1, 0),
  (49, 3, .goto 4, 0, 53), (52, 1, .iconst 0, 0, 0), (53, 1, .istore_n 3, 0, 0), (54, 3, .iinc 4 1, 1, 0),
  (57, 3, .goto (-52), 0, 5), (60, 1, .iload_n 3, 0, 0), (61, 1, .ireturn, 0, 0)]
theorem kX6_isAsked_ok : fw_chk cX6_isAsked 5 kX6_isAsked = true := by decide +kernel
theorem kX6_isAsked_cst : ∀ en ∈ kX6_isAsked, fw_CstOK RX6 cst_X6 en := by
  have h : kX6_isAsked.all (fw_cstq cp_X6) = true := by decide +kernel
  exact fun en he => fw_cstX cp_X6_ok cst_X6_ok (List.all_eq_true.mp h en he)
def kX6_chooses : List fw_Ent := [
  (0, 1, .iconst (-1), (-1), 0), (1, 1, .istore_n 2, 0, 0), (2, 1, .iconst 0, 0, 0), (3, 1, .istore_n 3, 0, 0),
  (4, 1, .iload_n 3, 0, 0), (5, 1, .aload_n 0, 0, 0), (6, 3, .getfield 7, 0, 0), (9, 1, .iconst 3, 3, 0),
  (10, 1, .iaload, 0, 0), (11, 3, .if_icmp .ge 74, 0, 85), (14, 1, .aload_n 0, 0, 0), (15, 1, .iload_n 3, 0, 0),
  (16, 1, .iconst 4, 4, 0), (17, 3, .invokevirtual 52, 0, 0), (20, 3, .ifCond .ne 25, 0, 45), (23, 1, .aload_n 0, 0, 0),
  (24, 1, .iload_n 3, 0, 0), (25, 1, .iload_n 1, 0, 0), (26, 3, .invokevirtual 79, 0, 0), (29, 3, .ifCond .eq 16, 0, 45),
  (32, 1, .aload_n 0, 0, 0), (33, 1, .iload_n 3, 0, 0), (34, 1, .iload_n 1, 0, 0), (35, 3, .invokevirtual 82, 0, 0),
  (38, 3, .ifCond .ne 7, 0, 45), (41, 1, .iconst 1, 1, 0), (42, 3, .goto 4, 0, 46), (45, 1, .iconst 0, 0, 0),
  (46, 2, .istore 4, 0, 0), (48, 2, .iload 4, 0, 0), (50, 3, .ifCond .eq 27, 0, 77), (53, 1, .iload_n 2, 0, 0),
  (54, 1, .iconst (-1), (-1), 0), (55, 3, .if_icmp .eq 18, 0, 73), (58, 1, .aload_n 0, 0, 0), (59, 1, .iload_n 3, 0, 0),
  (60, 1, .iconst 2, 2, 0), (61, 3, .invokevirtual 52, 0, 0), (64, 1, .aload_n 0, 0, 0), (65, 1, .iload_n 2, 0, 0),
  (66, 1, .iconst 2, 2, 0), (67, 3, .invokevirtual 52, 0, 0), (70, 3, .if_icmp .ge 7, 0, 77), (73, 1, .iload_n 3, 0, 0),
  (74, 3, .goto 4, 0, 78), (77, 1, .iload_n 2, 0, 0), (78, 1, .istore_n 2, 0, 0), (79, 3, .iinc 3 1, 1, 0),
  (82, 3, .goto (-78), 0, 4), (85, 1, .aload_n 0, 0, 0), (86, 1, .iload_n 1, 0, 0), (87, 1, .iconst 3, 3, 0),
  (88, 1, .iload_n 2, 0, 0), (89, 1, .iconst (-1), (-1), 0), (90, 3, .if_icmp .ne 7, 0, 97), (93, 1, .iconst 0, 0, 0),
  (94, 3, .goto 4, 0, 98), (97, 1, .iconst 1, 1, 0), (98, 3, .invokevirtual 48, 0, 0), (101, 1, .aload_n 0, 0, 0),
  (102, 1, .iload_n 1, 0, 0), (103, 1, .iconst 4, 4, 0), (104, 1, .iload_n 2, 0, 0), (105, 3, .invokevirtual 48, 0, 0),
  (108, 1, .return_, 0, 0)]
theorem kX6_chooses_ok : fw_chk cX6_chooses 5 kX6_chooses = true := by decide +kernel
theorem kX6_chooses_cst : ∀ en ∈ kX6_chooses, fw_CstOK RX6 cst_X6 en := by
  have h : kX6_chooses.all (fw_cstq cp_X6) = true := by decide +kernel
  exact fun en he => fw_cstX cp_X6_ok cst_X6_ok (List.all_eq_true.mp h en he)
def kX6_failsOf : List fw_Ent := [
  (0, 1, .aload_n 0, 0, 0), (1, 1, .iload_n 1, 0, 0), (2, 1, .iconst 4, 4, 0), (3, 1, .iconst 3, 3, 0),
  (4, 3, .invokevirtual 65, 0, 0), (7, 1, .iconst 0, 0, 0), (8, 1, .istore_n 2, 0, 0), (9, 1, .iload_n 2, 0, 0),
  (10, 1, .aload_n 0, 0, 0), (11, 3, .getfield 7, 0, 0), (14, 1, .iconst 2, 2, 0), (15, 1, .iaload, 0, 0),
  (16, 3, .if_icmp .ge 24, 0, 40), (19, 1, .aload_n 0, 0, 0), (20, 1, .iload_n 2, 0, 0), (21, 1, .iconst 4, 4, 0),
  (22, 3, .invokevirtual 44, 0, 0), (25, 1, .iload_n 1, 0, 0), (26, 3, .if_icmp .ne 8, 0, 34), (29, 1, .aload_n 0, 0, 0),
  (30, 1, .iload_n 2, 0, 0), (31, 3, .invokevirtual 72, 0, 0), (34, 3, .iinc 2 1, 1, 0), (37, 3, .goto (-28), 0, 9),
  (40, 1, .return_, 0, 0)]
theorem kX6_failsOf_ok : fw_chk cX6_failsOf 3 kX6_failsOf = true := by decide +kernel
theorem kX6_failsOf_cst : ∀ en ∈ kX6_failsOf, fw_CstOK RX6 cst_X6 en := by
  have h : kX6_failsOf.all (fw_cstq cp_X6) = true := by decide +kernel
  exact fun en he => fw_cstX cp_X6_ok cst_X6_ok (List.all_eq_true.mp h en he)
def kX6_tick : List fw_Ent := [
  (0, 1, .aload_n 0, 0, 0), (1, 3, .getfield 7, 0, 0), (4, 1, .iconst 0, 0, 0), (5, 1, .dup2, 0, 0),
  (6, 1, .iaload, 0, 0), (7, 1, .iconst 1, 1, 0), (8, 1, .iadd, 0, 0), (9, 1, .iastore, 0, 0),
  (10, 1, .iconst 0, 0, 0), (11, 1, .istore_n 1, 0, 0), (12, 1, .iload_n 1, 0, 0), (13, 1, .aload_n 0, 0, 0),
  (14, 3, .getfield 7, 0, 0), (17, 1, .iconst 2, 2, 0), (18, 1, .iaload, 0, 0), (19, 3, .if_icmp .ge 68, 0, 87),
  (22, 1, .aload_n 0, 0, 0), (23, 1, .iload_n 1, 0, 0), (24, 1, .iconst 4, 4, 0), (25, 3, .invokevirtual 44, 0, 0),
  (28, 1, .istore_n 2, 0, 0), (29, 1, .aload_n 0, 0, 0), (30, 1, .iload_n 1, 0, 0), (31, 1, .iconst 3, 3, 0),
  (32, 3, .invokevirtual 44, 0, 0), (35, 1, .iconst 2, 2, 0), (36, 3, .if_icmp .ne 12, 0, 48), (39, 1, .aload_n 0, 0, 0),
  (40, 1, .iload_n 1, 0, 0), (41, 1, .iload_n 2, 0, 0), (42, 3, .invokevirtual 85, 0, 0), (45, 3, .goto 36, 0, 81),
  (48, 1, .aload_n 0, 0, 0), (49, 1, .iload_n 1, 0, 0), (50, 1, .iconst 3, 3, 0), (51, 3, .invokevirtual 44, 0, 0),
  (54, 1, .iconst 1, 1, 0), (55, 3, .if_icmp .ne 21, 0, 76), (58, 1, .aload_n 0, 0, 0), (59, 1, .iload_n 2, 0, 0),
  (60, 1, .iconst 4, 4, 0), (61, 3, .invokevirtual 52, 0, 0), (64, 3, .ifCond .ne 12, 0, 76), (67, 1, .aload_n 0, 0, 0),
  (68, 1, .iload_n 1, 0, 0), (69, 1, .iload_n 2, 0, 0), (70, 3, .invokevirtual 88, 0, 0), (73, 3, .goto 8, 0, 81),
  (76, 1, .aload_n 0, 0, 0), (77, 1, .iload_n 1, 0, 0), (78, 3, .invokevirtual 91, 0, 0), (81, 3, .iinc 1 1, 1, 0),
  (84, 3, .goto (-72), 0, 12), (87, 1, .iconst 0, 0, 0), (88, 1, .istore_n 1, 0, 0), (89, 1, .iload_n 1, 0, 0),
  (90, 1, .aload_n 0, 0, 0), (91, 3, .getfield 7, 0, 0), (94, 1, .iconst 3, 3, 0), (95, 1, .iaload, 0, 0),
  (96, 3, .if_icmp .ge 46, 0, 142), (99, 1, .aload_n 0, 0, 0), (100, 1, .iload_n 1, 0, 0), (101, 1, .iconst 4, 4, 0),
  (102, 3, .invokevirtual 52, 0, 0), (105, 1, .iconst 2, 2, 0), (106, 3, .if_icmp .ge 30, 0, 136), (109, 1, .aload_n 0, 0, 0),
  (110, 1, .iload_n 1, 0, 0), (111, 1, .iconst 2, 2, 0), (112, 3, .invokevirtual 52, 0, 0), (115, 1, .aload_n 0, 0, 0),
  (116, 3, .getfield 7, 0, 0), (119, 1, .iconst 1, 1, 0), (120, 1, .iaload, 0, 0), (121, 1, .iadd, 0, 0),
  (122, 1, .aload_n 0, 0, 0), (123, 3, .getfield 7, 0, 0), (126, 1, .iconst 0, 0, 0), (127, 1, .iaload, 0, 0),
  (128, 3, .if_icmp .ge 8, 0, 136), (131, 1, .aload_n 0, 0, 0), (132, 1, .iload_n 1, 0, 0), (133, 3, .invokevirtual 94, 0, 0),
  (136, 3, .iinc 1 1, 1, 0), (139, 3, .goto (-50), 0, 89), (142, 1, .return_, 0, 0)]
theorem kX6_tick_ok : fw_chk cX6_tick 3 kX6_tick = true := by decide +kernel
theorem kX6_tick_cst : ∀ en ∈ kX6_tick, fw_CstOK RX6 cst_X6 en := by
  have h : kX6_tick.all (fw_cstq cp_X6) = true := by decide +kernel
  exact fun en he => fw_cstX cp_X6_ok cst_X6_ok (List.all_eq_true.mp h en he)
def kX6_inState : List fw_Ent := [
  (0, 1, .iconst 0, 0, 0), (1, 1, .istore_n 2, 0, 0), (2, 1, .iconst 0, 0, 0), (3, 1, .istore_n 3, 0, 0),
  (4, 1, .iload_n 3, 0, 0), (5, 1, .aload_n 0, 0, 0), (6, 3, .getfield 7, 0, 0), (9, 1, .iconst 3, 3, 0),
  (10, 1, .iaload, 0, 0), (11, 3, .if_icmp .ge 27, 0, 38), (14, 1, .iload_n 2, 0, 0), (15, 1, .aload_n 0, 0, 0),
  (16, 1, .iload_n 3, 0, 0), (17, 1, .iconst 4, 4, 0), (18, 3, .invokevirtual 52, 0, 0), (21, 1, .iload_n 1, 0, 0),
  (22, 3, .if_icmp .ne 7, 0, 29), (25, 1, .iconst 1, 1, 0), (26, 3, .goto 4, 0, 30), (29, 1, .iconst 0, 0, 0),
  (30, 1, .iadd, 0, 0), (31, 1, .istore_n 2, 0, 0), (32, 3, .iinc 3 1, 1, 0), (35, 3, .goto (-31), 0, 4),
  (38, 1, .iload_n 2, 0, 0), (39, 1, .ireturn, 0, 0)]
theorem kX6_inState_ok : fw_chk cX6_inState 4 kX6_inState = true := by decide +kernel
theorem kX6_inState_cst : ∀ en ∈ kX6_inState, fw_CstOK RX6 cst_X6 en := by
  have h : kX6_inState.all (fw_cstq cp_X6) = true := by decide +kernel
  exact fun en he => fw_cstX cp_X6_ok cst_X6_ok (List.all_eq_true.mp h en he)
def kX6_ticks : List fw_Ent := [
  (0, 1, .iconst 0, 0, 0), (1, 1, .istore_n 2, 0, 0), (2, 1, .iload_n 2, 0, 0), (3, 1, .iload_n 1, 0, 0),
  (4, 3, .if_icmp .ge 13, 0, 17), (7, 1, .aload_n 0, 0, 0), (8, 3, .invokevirtual 97, 0, 0), (11, 3, .iinc 2 1, 1, 0),
  (14, 3, .goto (-12), 0, 2), (17, 1, .return_, 0, 0)]
theorem kX6_ticks_ok : fw_chk cX6_ticks 3 kX6_ticks = true := by decide +kernel
theorem kX6_ticks_cst : ∀ en ∈ kX6_ticks, fw_CstOK RX6 cst_X6 en := by
  have h : kX6_ticks.all (fw_cstq cp_X6) = true := by decide +kernel
  exact fun en he => fw_cstX cp_X6_ok cst_X6_ok (List.all_eq_true.mp h en he)
def kX6_isArea : List fw_Ent := [
  (0, 1, .iload_n 0, 0, 0), (1, 1, .iconst 0, 0, 0), (2, 2, .ldc 100, 65535, 0), (4, 3, .invokestatic 40, 0, 0),
  (7, 1, .ireturn, 0, 0)]
theorem kX6_isArea_ok : fw_chk cX6_isArea 1 kX6_isArea = true := by decide +kernel
theorem kX6_isArea_cst : ∀ en ∈ kX6_isArea, fw_CstOK RX6 cst_X6 en := by
  have h : kX6_isArea.all (fw_cstq cp_X6) = true := by decide +kernel
  exact fun en he => fw_cstX cp_X6_ok cst_X6_ok (List.all_eq_true.mp h en he)
def kX6_addCourier : List fw_Ent := [
  (0, 1, .iload_n 1, 0, 0), (1, 3, .invokestatic 101, 0, 0), (4, 3, .ifCond .eq 10, 0, 14), (7, 1, .iload_n 2, 0, 0),
  (8, 3, .invokestatic 105, 0, 0), (11, 3, .ifCond .ne 9, 0, 20), (14, 1, .aload_n 0, 0, 0), (15, 1, .iconst 1, 1, 0),
  (16, 3, .invokevirtual 108, 0, 0), (19, 1, .ireturn, 0, 0), (20, 1, .aload_n 0, 0, 0), (21, 3, .getfield 7, 0, 0),
  (24, 1, .iconst 2, 2, 0), (25, 1, .iaload, 0, 0), (26, 2, .bipush 6, 6, 0), (28, 3, .if_icmp .ne 9, 0, 37),
  (31, 1, .aload_n 0, 0, 0), (32, 1, .iconst 2, 2, 0), (33, 3, .invokevirtual 108, 0, 0), (36, 1, .ireturn, 0, 0),
  (37, 1, .aload_n 0, 0, 0), (38, 3, .invokevirtual 111, 0, 0), (41, 1, .aload_n 0, 0, 0), (42, 3, .getfield 7, 0, 0),
  (45, 1, .iconst 2, 2, 0), (46, 1, .iaload, 0, 0), (47, 1, .istore_n 3, 0, 0), (48, 1, .aload_n 0, 0, 0),
  (49, 1, .iload_n 3, 0, 0), (50, 1, .iconst 0, 0, 0), (51, 1, .iload_n 1, 0, 0), (52, 3, .invokevirtual 48, 0, 0),
  (55, 1, .aload_n 0, 0, 0), (56, 1, .iload_n 3, 0, 0), (57, 1, .iconst 1, 1, 0), (58, 1, .iload_n 2, 0, 0),
  (59, 3, .invokevirtual 48, 0, 0), (62, 1, .aload_n 0, 0, 0), (63, 1, .iload_n 3, 0, 0), (64, 1, .iconst 2, 2, 0),
  (65, 1, .iconst 0, 0, 0), (66, 3, .invokevirtual 48, 0, 0), (69, 1, .aload_n 0, 0, 0), (70, 1, .iload_n 3, 0, 0),
  (71, 3, .invokevirtual 72, 0, 0), (74, 1, .aload_n 0, 0, 0), (75, 3, .getfield 7, 0, 0), (78, 1, .iconst 2, 2, 0),
  (79, 1, .dup2, 0, 0), (80, 1, .iaload, 0, 0), (81, 1, .iconst 1, 1, 0), (82, 1, .iadd, 0, 0),
  (83, 1, .iastore, 0, 0), (84, 1, .aload_n 0, 0, 0), (85, 1, .iload_n 3, 0, 0), (86, 3, .invokevirtual 114, 0, 0),
  (89, 1, .ireturn, 0, 0)]
theorem kX6_addCourier_ok : fw_chk cX6_addCourier 4 kX6_addCourier = true := by decide +kernel
theorem kX6_addCourier_cst : ∀ en ∈ kX6_addCourier, fw_CstOK RX6 cst_X6 en := by
  have h : kX6_addCourier.all (fw_cstq cp_X6) = true := by decide +kernel
  exact fun en he => fw_cstX cp_X6_ok cst_X6_ok (List.all_eq_true.mp h en he)
def kX6_setArea : List fw_Ent := [
  (0, 1, .aload_n 0, 0, 0), (1, 1, .iload_n 1, 0, 0), (2, 3, .invokevirtual 117, 0, 0), (5, 3, .ifCond .ne 9, 0, 14),
  (8, 1, .aload_n 0, 0, 0), (9, 1, .iconst 1, 1, 0), (10, 3, .invokevirtual 108, 0, 0), (13, 1, .ireturn, 0, 0),
  (14, 1, .iload_n 2, 0, 0), (15, 3, .invokestatic 101, 0, 0), (18, 3, .ifCond .ne 9, 0, 27), (21, 1, .aload_n 0, 0, 0),
  (22, 1, .iconst 2, 2, 0), (23, 3, .invokevirtual 108, 0, 0), (26, 1, .ireturn, 0, 0), (27, 1, .aload_n 0, 0, 0),
  (28, 3, .invokevirtual 111, 0, 0), (31, 1, .aload_n 0, 0, 0), (32, 1, .iload_n 1, 0, 0), (33, 1, .iconst 0, 0, 0),
  (34, 3, .invokevirtual 44, 0, 0), (37, 1, .istore_n 3, 0, 0), (38, 1, .aload_n 0, 0, 0), (39, 1, .iload_n 1, 0, 0),
  (40, 1, .iconst 0, 0, 0), (41, 1, .iload_n 2, 0, 0), (42, 3, .invokevirtual 48, 0, 0), (45, 1, .aload_n 0, 0, 0),
  (46, 1, .iload_n 3, 0, 0), (47, 3, .invokevirtual 114, 0, 0), (50, 1, .ireturn, 0, 0)]
theorem kX6_setArea_ok : fw_chk cX6_setArea 4 kX6_setArea = true := by decide +kernel
theorem kX6_setArea_cst : ∀ en ∈ kX6_setArea, fw_CstOK RX6 cst_X6 en := by
  have h : kX6_setArea.all (fw_cstq cp_X6) = true := by decide +kernel
  exact fun en he => fw_cstX cp_X6_ok cst_X6_ok (List.all_eq_true.mp h en he)
def kX6_comes : List fw_Ent := [
  (0, 1, .aload_n 0, 0, 0), (1, 3, .getfield 7, 0, 0), (4, 1, .iconst 3, 3, 0), (5, 1, .iaload, 0, 0),
  (6, 2, .istore 5, 0, 0), (8, 1, .iconst 0, 0, 0), (9, 2, .istore 6, 0, 0), (11, 2, .iload 6, 0, 0),
  (13, 2, .bipush 20, 20, 0), (15, 3, .if_icmp .ge 18, 0, 33), (18, 1, .aload_n 0, 0, 0), (19, 2, .iload 5, 0, 0),
  (21, 2, .iload 6, 0, 0), (23, 1, .iconst 0, 0, 0), (24, 3, .invokevirtual 65, 0, 0), (27, 3, .iinc 6 1, 1, 0),
  (30, 3, .goto (-19), 0, 11), (33, 1, .aload_n 0, 0, 0), (34, 2, .iload 5, 0, 0), (36, 1, .iconst 0, 0, 0),
  (37, 1, .iload_n 1, 0, 0), (38, 3, .invokevirtual 65, 0, 0), (41, 1, .aload_n 0, 0, 0), (42, 2, .iload 5, 0, 0),
  (44, 1, .iconst 1, 1, 0), (45, 1, .iload_n 2, 0, 0), (46, 3, .invokevirtual 65, 0, 0), (49, 1, .aload_n 0, 0, 0),
  (50, 2, .iload 5, 0, 0), (52, 1, .iconst 2, 2, 0), (53, 1, .iload_n 3, 0, 0), (54, 3, .invokevirtual 65, 0, 0),
  (57, 1, .aload_n 0, 0, 0), (58, 2, .iload 5, 0, 0), (60, 1, .iconst 3, 3, 0), (61, 2, .iload 4, 0, 0),
  (63, 3, .invokevirtual 65, 0, 0), (66, 1, .aload_n 0, 0, 0), (67, 2, .iload 5, 0, 0), (69, 1, .iconst 5, 5, 0),
  (70, 1, .iload_n 1, 0, 0), (71, 3, .invokevirtual 65, 0, 0), (74, 1, .aload_n 0, 0, 0), (75, 2, .iload 5, 0, 0),
  (77, 2, .bipush 6, 6, 0), (79, 1, .iconst (-1), (-1), 0), (80, 3, .invokevirtual 65, 0, 0), (83, 1, .aload_n 0, 0, 0),
  (84, 3, .getfield 7, 0, 0), (87, 1, .iconst 3, 3, 0), (88, 1, .dup2, 0, 0), (89, 1, .iaload, 0, 0),
  (90, 1, .iconst 1, 1, 0), (91, 1, .iadd, 0, 0), (92, 1, .iastore, 0, 0), (93, 1, .return_, 0, 0)]
theorem kX6_comes_ok : fw_chk cX6_comes 7 kX6_comes = true := by decide +kernel
theorem kX6_comes_cst : ∀ en ∈ kX6_comes, fw_CstOK RX6 cst_X6 en := by
  have h : kX6_comes.all (fw_cstq cp_X6) = true := by decide +kernel
  exact fun en he => fw_cstX cp_X6_ok cst_X6_ok (List.all_eq_true.mp h en he)
def kX6_give : List fw_Ent := [
  (0, 1, .iload_n 1, 0, 0), (1, 3, .invokestatic 105, 0, 0), (4, 3, .ifCond .eq 38, 0, 42), (7, 1, .iload_n 2, 0, 0),
  (8, 3, .invokestatic 105, 0, 0), (11, 3, .ifCond .eq 31, 0, 42), (14, 1, .iload_n 3, 0, 0), (15, 1, .iconst 1, 1, 0),
  (16, 3, .sipush 999, 999, 0), (19, 3, .invokestatic 40, 0, 0), (22, 3, .ifCond .eq 20, 0, 42), (25, 2, .iload 4, 0, 0),
  (27, 1, .iconst 0, 0, 0), (28, 3, .sipush 1000, 1000, 0), (31, 3, .invokestatic 40, 0, 0), (34, 3, .ifCond .eq 8, 0, 42),
  (37, 1, .iload_n 1, 0, 0), (38, 1, .iload_n 2, 0, 0), (39, 3, .if_icmp .ne 9, 0, 48), (42, 1, .aload_n 0, 0, 0),
  (43, 1, .iconst 1, 1, 0), (44, 3, .invokevirtual 108, 0, 0), (47, 1, .ireturn, 0, 0), (48, 1, .aload_n 0, 0, 0),
  (49, 3, .getfield 7, 0, 0), (52, 1, .iconst 3, 3, 0), (53, 1, .iaload, 0, 0), (54, 2, .bipush 24, 24, 0),
  (56, 3, .if_icmp .ne 9, 0, 65), (59, 1, .aload_n 0, 0, 0), (60, 1, .iconst 2, 2, 0), (61, 3, .invokevirtual 108, 0, 0),
  (64, 1, .ireturn, 0, 0), (65, 1, .aload_n 0, 0, 0), (66, 3, .invokevirtual 111, 0, 0), (69, 1, .aload_n 0, 0, 0),
  (70, 1, .iload_n 1, 0, 0), (71, 1, .iload_n 2, 0, 0), (72, 1, .iload_n 3, 0, 0), (73, 2, .iload 4, 0, 0),
  (75, 3, .invokevirtual 120, 0, 0), (78, 1, .aload_n 0, 0, 0), (79, 1, .aload_n 0, 0, 0), (80, 3, .getfield 7, 0, 0),
  (83, 1, .iconst 3, 3, 0), (84, 1, .iaload, 0, 0), (85, 1, .iconst 1, 1, 0), (86, 1, .isub, 0, 0),
  (87, 3, .invokevirtual 114, 0, 0), (90, 1, .ireturn, 0, 0)]
theorem kX6_give_ok : fw_chk cX6_give 5 kX6_give = true := by decide +kernel
theorem kX6_give_cst : ∀ en ∈ kX6_give, fw_CstOK RX6 cst_X6 en := by
  have h : kX6_give.all (fw_cstq cp_X6) = true := by decide +kernel
  exact fun en he => fw_cstX cp_X6_ok cst_X6_ok (List.all_eq_true.mp h en he)
def kX6_setGrace : List fw_Ent := [
  (0, 1, .iload_n 1, 0, 0), (1, 1, .iconst 0, 0, 0), (2, 2, .bipush 100, 100, 0), (4, 3, .invokestatic 40, 0, 0),
  (7, 3, .ifCond .ne 9, 0, 16), (10, 1, .aload_n 0, 0, 0), (11, 1, .iconst 1, 1, 0), (12, 3, .invokevirtual 108, 0, 0),
  (15, 1, .ireturn, 0, 0), (16, 1, .aload_n 0, 0, 0), (17, 3, .invokevirtual 111, 0, 0), (20, 1, .aload_n 0, 0, 0),
  (21, 3, .getfield 7, 0, 0), (24, 1, .iconst 1, 1, 0), (25, 1, .iaload, 0, 0), (26, 1, .istore_n 2, 0, 0),
  (27, 1, .aload_n 0, 0, 0), (28, 3, .getfield 7, 0, 0), (31, 1, .iconst 1, 1, 0), (32, 1, .iload_n 1, 0, 0),
  (33, 1, .iastore, 0, 0), (34, 1, .aload_n 0, 0, 0), (35, 1, .iload_n 2, 0, 0), (36, 3, .invokevirtual 114, 0, 0),
  (39, 1, .ireturn, 0, 0)]
theorem kX6_setGrace_ok : fw_chk cX6_setGrace 3 kX6_setGrace = true := by decide +kernel
theorem kX6_setGrace_cst : ∀ en ∈ kX6_setGrace, fw_CstOK RX6 cst_X6 en := by
  have h : kX6_setGrace.all (fw_cstq cp_X6) = true := by decide +kernel
  exact fun en he => fw_cstX cp_X6_ok cst_X6_ok (List.all_eq_true.mp h en he)
def kX6_drops : List fw_Ent := [
  (0, 1, .aload_n 0, 0, 0), (1, 1, .iload_n 1, 0, 0), (2, 1, .iconst 4, 4, 0), (3, 3, .invokevirtual 44, 0, 0),
  (6, 1, .istore_n 2, 0, 0), (7, 1, .aload_n 0, 0, 0), (8, 1, .iload_n 1, 0, 0), (9, 1, .iconst 3, 3, 0),
  (10, 3, .invokevirtual 44, 0, 0), (13, 1, .iconst 2, 2, 0), (14, 3, .if_icmp .ne 10, 0, 24), (17, 1, .aload_n 0, 0, 0),
  (18, 1, .iload_n 2, 0, 0), (19, 1, .iconst 4, 4, 0), (20, 1, .iconst 0, 0, 0), (21, 3, .invokevirtual 65, 0, 0),
  (24, 1, .aload_n 0, 0, 0), (25, 1, .iload_n 1, 0, 0), (26, 3, .invokevirtual 72, 0, 0), (29, 1, .iload_n 2, 0, 0),
  (30, 1, .ireturn, 0, 0)]
theorem kX6_drops_ok : fw_chk cX6_drops 3 kX6_drops = true := by decide +kernel
theorem kX6_drops_cst : ∀ en ∈ kX6_drops, fw_CstOK RX6 cst_X6 en := by
  have h : kX6_drops.all (fw_cstq cp_X6) = true := by decide +kernel
  exact fun en he => fw_cstX cp_X6_ok cst_X6_ok (List.all_eq_true.mp h en he)
def kX6_drop : List fw_Ent := [
  (0, 1, .aload_n 0, 0, 0), (1, 1, .iload_n 1, 0, 0), (2, 3, .invokevirtual 117, 0, 0), (5, 3, .ifCond .ne 9, 0, 14),
  (8, 1, .aload_n 0, 0, 0), (9, 1, .iconst 1, 1, 0), (10, 3, .invokevirtual 108, 0, 0), (13, 1, .ireturn, 0, 0),
  (14, 1, .aload_n 0, 0, 0), (15, 3, .invokevirtual 111, 0, 0), (18, 1, .aload_n 0, 0, 0), (19, 1, .aload_n 0, 0, 0),
  (20, 1, .iload_n 1, 0, 0), (21, 3, .invokevirtual 124, 0, 0), (24, 3, .invokevirtual 114, 0, 0), (27, 1, .ireturn, 0, 0)]
theorem kX6_drop_ok : fw_chk cX6_drop 2 kX6_drop = true := by decide +kernel
theorem kX6_drop_cst : ∀ en ∈ kX6_drop, fw_CstOK RX6 cst_X6 en := by
  have h : kX6_drop.all (fw_cstq cp_X6) = true := by decide +kernel
  exact fun en he => fw_cstX cp_X6_ok cst_X6_ok (List.all_eq_true.mp h en he)
def kX6_run : List fw_Ent := [
  (0, 1, .iload_n 1, 0, 0), (1, 1, .iconst 0, 0, 0), (2, 3, .sipush 200, 200, 0), (5, 3, .invokestatic 40, 0, 0),
  (8, 3, .ifCond .ne 9, 0, 17), (11, 1, .aload_n 0, 0, 0), (12, 1, .iconst 1, 1, 0), (13, 3, .invokevirtual 108, 0, 0),
  (16, 1, .ireturn, 0, 0), (17, 1, .aload_n 0, 0, 0), (18, 3, .getfield 7, 0, 0), (21, 1, .iconst 0, 0, 0),
  (22, 1, .iaload, 0, 0), (23, 1, .iload_n 1, 0, 0), (24, 1, .iadd, 0, 0), (25, 3, .sipush 2000, 2000, 0),
  (28, 3, .if_icmp .le 9, 0, 37), (31, 1, .aload_n 0, 0, 0), (32, 1, .iconst 2, 2, 0), (33, 3, .invokevirtual 108, 0, 0),
  (36, 1, .ireturn, 0, 0), (37, 1, .aload_n 0, 0, 0), (38, 3, .invokevirtual 111, 0, 0), (41, 1, .aload_n 0, 0, 0),
  (42, 1, .iconst 2, 2, 0), (43, 3, .invokevirtual 127, 0, 0), (46, 1, .istore_n 2, 0, 0), (47, 1, .aload_n 0, 0, 0),
  (48, 1, .iload_n 1, 0, 0), (49, 3, .invokevirtual 130, 0, 0), (52, 1, .aload_n 0, 0, 0), (53, 1, .aload_n 0, 0, 0),
  (54, 1, .iconst 2, 2, 0), (55, 3, .invokevirtual 127, 0, 0), (58, 1, .iload_n 2, 0, 0), (59, 1, .isub, 0, 0),
  (60, 3, .invokevirtual 114, 0, 0), (63, 1, .ireturn, 0, 0)]
theorem kX6_run_ok : fw_chk cX6_run 3 kX6_run = true := by decide +kernel
theorem kX6_run_cst : ∀ en ∈ kX6_run, fw_CstOK RX6 cst_X6 en := by
  have h : kX6_run.all (fw_cstq cp_X6) = true := by decide +kernel
  exact fun en he => fw_cstX cp_X6_ok cst_X6_ok (List.all_eq_true.mp h en he)
def kX6_valueOf : List fw_Ent := [
  (0, 1, .iload_n 1, 0, 0), (1, 55, .tableswitch 106 0 9 #[55, 62, 69, 76, 83, 83, 83, 83, 91, 99], 0, 0), (56, 1, .aload_n 0, 0, 0), (57, 3, .getfield 7, 0, 0),
  (60, 1, .iconst 0, 0, 0), (61, 1, .iaload, 0, 0), (62, 1, .ireturn, 0, 0), (63, 1, .aload_n 0, 0, 0),
  (64, 3, .getfield 7, 0, 0), (67, 1, .iconst 2, 2, 0), (68, 1, .iaload, 0, 0), (69, 1, .ireturn, 0, 0),
  (70, 1, .aload_n 0, 0, 0), (71, 3, .getfield 7, 0, 0), (74, 1, .iconst 3, 3, 0), (75, 1, .iaload, 0, 0),
  (76, 1, .ireturn, 0, 0), (77, 1, .aload_n 0, 0, 0), (78, 3, .getfield 7, 0, 0), (81, 1, .iconst 1, 1, 0),
  (82, 1, .iaload, 0, 0), (83, 1, .ireturn, 0, 0), (84, 1, .aload_n 0, 0, 0), (85, 1, .iload_n 1, 0, 0),
  (86, 1, .iconst 4, 4, 0), (87, 1, .isub, 0, 0), (88, 3, .invokevirtual 127, 0, 0), (91, 1, .ireturn, 0, 0),
  (92, 1, .aload_n 0, 0, 0), (93, 3, .getfield 7, 0, 0), (96, 2, .bipush 6, 6, 0), (98, 1, .iaload, 0, 0),
  (99, 1, .ireturn, 0, 0), (100, 1, .aload_n 0, 0, 0), (101, 3, .getfield 7, 0, 0), (104, 1, .iconst 4, 4, 0),
  (105, 1, .iaload, 0, 0), (106, 1, .ireturn, 0, 0), (107, 1, .aload_n 0, 0, 0), (108, 3, .getfield 7, 0, 0),
  (111, 1, .iconst 5, 5, 0), (112, 1, .iaload, 0, 0), (113, 1, .ireturn, 0, 0)]
theorem kX6_valueOf_ok : fw_chk cX6_valueOf 2 kX6_valueOf = true := by decide +kernel
theorem kX6_valueOf_cst : ∀ en ∈ kX6_valueOf, fw_CstOK RX6 cst_X6 en := by
  have h : kX6_valueOf.all (fw_cstq cp_X6) = true := by decide +kernel
  exact fun en he => fw_cstX cp_X6_ok cst_X6_ok (List.all_eq_true.mp h en he)
def kX6_value : List fw_Ent := [
  (0, 1, .iload_n 1, 0, 0), (1, 1, .iconst 0, 0, 0), (2, 2, .bipush 10, 10, 0), (4, 3, .invokestatic 40, 0, 0),
  (7, 3, .ifCond .eq 15, 0, 22), (10, 1, .aload_n 0, 0, 0), (11, 1, .aload_n 0, 0, 0), (12, 1, .iload_n 1, 0, 0),
  (13, 3, .invokevirtual 133, 0, 0), (16, 3, .invokevirtual 36, 0, 0), (19, 3, .goto 8, 0, 27), (22, 1, .aload_n 0, 0, 0),
  (23, 1, .iconst 1, 1, 0), (24, 3, .invokevirtual 108, 0, 0), (27, 1, .ireturn, 0, 0)]
theorem kX6_value_ok : fw_chk cX6_value 2 kX6_value = true := by decide +kernel
theorem kX6_value_cst : ∀ en ∈ kX6_value, fw_CstOK RX6 cst_X6 en := by
  have h : kX6_value.all (fw_cstq cp_X6) = true := by decide +kernel
  exact fun en he => fw_cstX cp_X6_ok cst_X6_ok (List.all_eq_true.mp h en he)
def kX6_courierOf : List fw_Ent := [
  (0, 1, .iload_n 2, 0, 0), (1, 1, .iconst 5, 5, 0), (2, 3, .if_icmp .ge 10, 0, 12), (5, 1, .aload_n 0, 0, 0),
  (6, 1, .iload_n 1, 0, 0), (7, 1, .iload_n 2, 0, 0), (8, 3, .invokevirtual 44, 0, 0), (11, 1, .ireturn, 0, 0),
  (12, 1, .iconst 0, 0, 0), (13, 1, .istore_n 3, 0, 0), (14, 1, .iconst 0, 0, 0), (15, 2, .istore 4, 0, 0),
  (17, 2, .iload 4, 0, 0), (19, 1, .aload_n 0, 0, 0), (20, 3, .getfield 7, 0, 0), (23, 1, .iconst 3, 3, 0),
  (24, 1, .iaload, 0, 0), (25, 3, .if_icmp .ge 22, 0, 47), (28, 1, .iload_n 3, 0, 0), (29, 1, .aload_n 0, 0, 0),
  (30, 2, .iload 4, 0, 0), (32, 2, .bipush 8, 8, 0), (34, 1, .iload_n 1, 0, 0), (35, 1, .iadd, 0, 0),
  (36, 3, .invokevirtual 52, 0, 0), (39, 1, .iadd, 0, 0), (40, 1, .istore_n 3, 0, 0), (41, 3, .iinc 4 1, 1, 0),
  (44, 3, .goto (-27), 0, 17), (47, 1, .iload_n 3, 0, 0), (48, 1, .ireturn, 0, 0)]
theorem kX6_courierOf_ok : fw_chk cX6_courierOf 5 kX6_courierOf = true := by decide +kernel
theorem kX6_courierOf_cst : ∀ en ∈ kX6_courierOf, fw_CstOK RX6 cst_X6 en := by
  have h : kX6_courierOf.all (fw_cstq cp_X6) = true := by decide +kernel
  exact fun en he => fw_cstX cp_X6_ok cst_X6_ok (List.all_eq_true.mp h en he)
def kX6_courier : List fw_Ent := [
  (0, 1, .aload_n 0, 0, 0), (1, 1, .iload_n 1, 0, 0), (2, 3, .invokevirtual 117, 0, 0), (5, 3, .ifCond .ne 9, 0, 14),
  (8, 1, .aload_n 0, 0, 0), (9, 1, .iconst 1, 1, 0), (10, 3, .invokevirtual 108, 0, 0), (13, 1, .ireturn, 0, 0),
  (14, 1, .iload_n 2, 0, 0), (15, 1, .iconst 0, 0, 0), (16, 1, .iconst 5, 5, 0), (17, 3, .invokestatic 40, 0, 0),
  (20, 3, .ifCond .eq 16, 0, 36), (23, 1, .aload_n 0, 0, 0), (24, 1, .aload_n 0, 0, 0), (25, 1, .iload_n 1, 0, 0),
  (26, 1, .iload_n 2, 0, 0), (27, 3, .invokevirtual 136, 0, 0), (30, 3, .invokevirtual 36, 0, 0), (33, 3, .goto 8, 0, 41),
  (36, 1, .aload_n 0, 0, 0), (37, 1, .iconst 2, 2, 0), (38, 3, .invokevirtual 108, 0, 0), (41, 1, .ireturn, 0, 0)]
theorem kX6_courier_ok : fw_chk cX6_courier 3 kX6_courier = true := by decide +kernel
theorem kX6_courier_cst : ∀ en ∈ kX6_courier, fw_CstOK RX6 cst_X6 en := by
  have h : kX6_courier.all (fw_cstq cp_X6) = true := by decide +kernel
  exact fun en he => fw_cstX cp_X6_ok cst_X6_ok (List.all_eq_true.mp h en he)
def kX6_parcelOf : List fw_Ent := [
  (0, 1, .iload_n 2, 0, 0), (1, 2, .bipush 8, 8, 0), (3, 3, .if_icmp .ge 12, 0, 15), (6, 1, .aload_n 0, 0, 0),
  (7, 1, .iload_n 1, 0, 0), (8, 1, .iload_n 2, 0, 0), (9, 3, .invokevirtual 52, 0, 0), (12, 3, .goto 8, 0, 20),
  (15, 1, .aload_n 0, 0, 0), (16, 1, .iload_n 1, 0, 0), (17, 3, .invokevirtual 62, 0, 0), (20, 1, .ireturn, 0, 0)]
theorem kX6_parcelOf_ok : fw_chk cX6_parcelOf 3 kX6_parcelOf = true := by decide +kernel
theorem kX6_parcelOf_cst : ∀ en ∈ kX6_parcelOf, fw_CstOK RX6 cst_X6 en := by
  have h : kX6_parcelOf.all (fw_cstq cp_X6) = true := by decide +kernel
  exact fun en he => fw_cstX cp_X6_ok cst_X6_ok (List.all_eq_true.mp h en he)
def kX6_parcel : List fw_Ent := [
  (0, 1, .aload_n 0, 0, 0), (1, 1, .iload_n 1, 0, 0), (2, 3, .invokevirtual 139, 0, 0), (5, 3, .ifCond .ne 9, 0, 14),
  (8, 1, .aload_n 0, 0, 0), (9, 1, .iconst 1, 1, 0), (10, 3, .invokevirtual 108, 0, 0), (13, 1, .ireturn, 0, 0),
  (14, 1, .iload_n 2, 0, 0), (15, 1, .iconst 0, 0, 0), (16, 2, .bipush 8, 8, 0), (18, 3, .invokestatic 40, 0, 0),
  (21, 3, .ifCond .eq 16, 0, 37), (24, 1, .aload_n 0, 0, 0), (25, 1, .aload_n 0, 0, 0), (26, 1, .iload_n 1, 0, 0),
  (27, 1, .iload_n 2, 0, 0), (28, 3, .invokevirtual 142, 0, 0), (31, 3, .invokevirtual 36, 0, 0), (34, 3, .goto 8, 0, 42),
  (37, 1, .aload_n 0, 0, 0), (38, 1, .iconst 2, 2, 0), (39, 3, .invokevirtual 108, 0, 0), (42, 1, .ireturn, 0, 0)]
theorem kX6_parcel_ok : fw_chk cX6_parcel 3 kX6_parcel = true := by decide +kernel
theorem kX6_parcel_cst : ∀ en ∈ kX6_parcel, fw_CstOK RX6 cst_X6 en := by
  have h : kX6_parcel.all (fw_cstq cp_X6) = true := by decide +kernel
  exact fun en he => fw_cstX cp_X6_ok cst_X6_ok (List.all_eq_true.mp h en he)
def kX6_legs : List fw_Ent := [
  (0, 1, .aload_n 0, 0, 0), (1, 1, .iload_n 1, 0, 0), (2, 3, .invokevirtual 139, 0, 0), (5, 3, .ifCond .eq 11, 0, 16),
  (8, 1, .aload_n 0, 0, 0), (9, 1, .iload_n 2, 0, 0), (10, 3, .invokevirtual 117, 0, 0), (13, 3, .ifCond .ne 9, 0, 22),
  (16, 1, .aload_n 0, 0, 0), (17, 1, .iconst 1, 1, 0), (18, 3, .invokevirtual 108, 0, 0), (21, 1, .ireturn, 0, 0),
  (22, 1, .aload_n 0, 0, 0), (23, 1, .aload_n 0, 0, 0), (24, 1, .iload_n 1, 0, 0), (25, 1, .iload_n 3, 0, 0),
  (26, 3, .ifCond .eq 8, 0, 34), (29, 2, .bipush 14, 14, 0), (31, 3, .goto 5, 0, 36), (34, 2, .bipush 8, 8, 0),
  (36, 1, .iload_n 2, 0, 0), (37, 1, .iadd, 0, 0), (38, 3, .invokevirtual 52, 0, 0), (41, 3, .invokevirtual 36, 0, 0),
  (44, 1, .ireturn, 0, 0)]
theorem kX6_legs_ok : fw_chk cX6_legs 4 kX6_legs = true := by decide +kernel
theorem kX6_legs_cst : ∀ en ∈ kX6_legs, fw_CstOK RX6 cst_X6 en := by
  have h : kX6_legs.all (fw_cstq cp_X6) = true := by decide +kernel
  exact fun en he => fw_cstX cp_X6_ok cst_X6_ok (List.all_eq_true.mp h en he)
def kX6_apart : List fw_Ent := [
  (0, 1, .iload_n 0, 0, 0), (1, 1, .iload_n 1, 0, 0), (2, 3, .if_icmp .ge 9, 0, 11), (5, 1, .iload_n 1, 0, 0),
  (6, 1, .iload_n 0, 0, 0), (7, 1, .isub, 0, 0), (8, 3, .goto 6, 0, 14), (11, 1, .iload_n 0, 0, 0),
  (12, 1, .iload_n 1, 0, 0), (13, 1, .isub, 0, 0), (14, 1, .ireturn, 0, 0)]
theorem kX6_apart_ok : fw_chk cX6_apart 2 kX6_apart = true := by decide +kernel
theorem kX6_apart_cst : ∀ en ∈ kX6_apart, fw_CstOK RX6 cst_X6 en := by
  have h : kX6_apart.all (fw_cstq cp_X6) = true := by decide +kernel
  exact fun en he => fw_cstX cp_X6_ok cst_X6_ok (List.all_eq_true.mp h en he)
def kX6_distance : List fw_Ent := [
  (0, 1, .iload_n 1, 0, 0), (1, 3, .invokestatic 105, 0, 0), (4, 3, .ifCond .eq 10, 0, 14), (7, 1, .iload_n 2, 0, 0),
  (8, 3, .invokestatic 105, 0, 0), (11, 3, .ifCond .ne 9, 0, 20), (14, 1, .aload_n 0, 0, 0), (15, 1, .iconst 1, 1, 0),
  (16, 3, .invokevirtual 108, 0, 0), (19, 1, .ireturn, 0, 0), (20, 1, .aload_n 0, 0, 0), (21, 1, .iload_n 1, 0, 0),
  (22, 1, .iconst 4, 4, 0), (23, 1, .irem, 0, 0), (24, 1, .iload_n 2, 0, 0), (25, 1, .iconst 4, 4, 0),
  (26, 1, .irem, 0, 0), (27, 3, .invokestatic 145, 0, 0), (30, 1, .iload_n 1, 0, 0), (31, 1, .iconst 4, 4, 0),
  (32, 1, .idiv, 0, 0), (33, 1, .iload_n 2, 0, 0), (34, 1, .iconst 4, 4, 0), (35, 1, .idiv, 0, 0),
  (36, 3, .invokestatic 145, 0, 0), (39, 1, .iadd, 0, 0), (40, 3, .invokevirtual 36, 0, 0), (43, 1, .ireturn, 0, 0)]
theorem kX6_distance_ok : fw_chk cX6_distance 3 kX6_distance = true := by decide +kernel
theorem kX6_distance_cst : ∀ en ∈ kX6_distance, fw_CstOK RX6 cst_X6 en := by
  have h : kX6_distance.all (fw_cstq cp_X6) = true := by decide +kernel
  exact fun en he => fw_cstX cp_X6_ok cst_X6_ok (List.all_eq_true.mp h en he)
def kX6_suited : List fw_Ent := [
  (0, 1, .aload_n 0, 0, 0), (1, 1, .iload_n 1, 0, 0), (2, 3, .invokevirtual 139, 0, 0), (5, 3, .ifCond .ne 9, 0, 14),
  (8, 1, .aload_n 0, 0, 0), (9, 1, .iconst 1, 1, 0), (10, 3, .invokevirtual 108, 0, 0), (13, 1, .ireturn, 0, 0),
  (14, 1, .iconst 0, 0, 0), (15, 1, .istore_n 2, 0, 0), (16, 1, .iconst 0, 0, 0), (17, 1, .istore_n 3, 0, 0),
  (18, 1, .iload_n 3, 0, 0), (19, 1, .aload_n 0, 0, 0), (20, 3, .getfield 7, 0, 0), (23, 1, .iconst 2, 2, 0),
  (24, 1, .iaload, 0, 0), (25, 3, .if_icmp .ge 38, 0, 63), (28, 1, .aload_n 0, 0, 0), (29, 1, .iload_n 1, 0, 0),
  (30, 1, .iconst 4, 4, 0), (31, 3, .invokevirtual 52, 0, 0), (34, 1, .iconst 2, 2, 0), (35, 3, .if_icmp .ge 28, 0, 63),
  (38, 1, .iload_n 2, 0, 0), (39, 1, .aload_n 0, 0, 0), (40, 1, .iload_n 1, 0, 0), (41, 1, .iload_n 3, 0, 0),
  (42, 3, .invokevirtual 79, 0, 0), (45, 3, .ifCond .eq 9, 0, 54), (48, 1, .iconst 1, 1, 0), (49, 1, .iload_n 3, 0, 0),
  (50, 1, .ishl, 0, 0), (51, 3, .goto 4, 0, 55), (54, 1, .iconst 0, 0, 0), (55, 1, .ior, 0, 0),
  (56, 1, .istore_n 2, 0, 0), (57, 3, .iinc 3 1, 1, 0), (60, 3, .goto (-42), 0, 18), (63, 1, .aload_n 0, 0, 0),
  (64, 1, .iload_n 2, 0, 0), (65, 3, .invokevirtual 36, 0, 0), (68, 1, .ireturn, 0, 0)]
theorem kX6_suited_ok : fw_chk cX6_suited 4 kX6_suited = true := by decide +kernel
theorem kX6_suited_cst : ∀ en ∈ kX6_suited, fw_CstOK RX6 cst_X6 en := by
  have h : kX6_suited.all (fw_cstq cp_X6) = true := by decide +kernel
  exact fun en he => fw_cstX cp_X6_ok cst_X6_ok (List.all_eq_true.mp h en he)
def kX6_reach : List fw_Ent := [
  (0, 1, .iload_n 2, 0, 0), (1, 2, .istore 4, 0, 0), (3, 2, .iload 4, 0, 0), (5, 1, .iload_n 3, 0, 0),
  (6, 3, .if_icmp .eq 38, 0, 44), (9, 1, .aload_n 0, 0, 0), (10, 1, .iload_n 1, 0, 0), (11, 2, .iload 4, 0, 0),
  (13, 3, .invokevirtual 55, 0, 0), (16, 3, .ifCond .eq 28, 0, 44), (19, 1, .aload_n 0, 0, 0), (20, 1, .iload_n 1, 0, 0),
  (21, 2, .iload 4, 0, 0), (23, 1, .iload_n 3, 0, 0), (24, 3, .invokestatic 59, 0, 0), (27, 3, .invokevirtual 55, 0, 0),
  (30, 3, .ifCond .eq 14, 0, 44), (33, 2, .iload 4, 0, 0), (35, 1, .iload_n 3, 0, 0), (36, 3, .invokestatic 59, 0, 0),
  (39, 2, .istore 4, 0, 0), (41, 3, .goto (-38), 0, 3), (44, 2, .iload 4, 0, 0), (46, 1, .ireturn, 0, 0)]
theorem kX6_reach_ok : fw_chk cX6_reach 5 kX6_reach = true := by decide +kernel
theorem kX6_reach_cst : ∀ en ∈ kX6_reach, fw_CstOK RX6 cst_X6 en := by
  have h : kX6_reach.all (fw_cstq cp_X6) = true := by decide +kernel
  exact fun en he => fw_cstX cp_X6_ok cst_X6_ok (List.all_eq_true.mp h en he)
def kX6_relays : List fw_Ent := [
  (0, 1, .aload_n 0, 0, 0), (1, 1, .iload_n 1, 0, 0), (2, 1, .iconst 0, 0, 0), (3, 3, .invokevirtual 52, 0, 0),
  (6, 1, .istore_n 2, 0, 0), (7, 1, .aload_n 0, 0, 0), (8, 1, .iload_n 1, 0, 0), (9, 1, .iconst 1, 1, 0),
  (10, 3, .invokevirtual 52, 0, 0), (13, 1, .istore_n 3, 0, 0), (14, 1, .iconst 0, 0, 0), (15, 2, .istore 4, 0, 0),
  (17, 1, .iload_n 2, 0, 0), (18, 1, .iload_n 3, 0, 0), (19, 3, .if_icmp .eq 119, 0, 138), (22, 1, .iload_n 2, 0, 0),
  (23, 2, .istore 5, 0, 0), (25, 1, .iconst 0, 0, 0), (26, 2, .istore 6, 0, 0), (28, 2, .iload 6, 0, 0),
  (30, 1, .aload_n 0, 0, 0), (31, 3, .getfield 7, 0, 0), (34, 1, .iconst 2, 2, 0), (35, 1, .iaload, 0, 0),
  (36, 3, .if_icmp .ge 85, 0, 121), (39, 1, .aload_n 0, 0, 0), (40, 2, .iload 6, 0, 0), (42, 1, .iload_n 2, 0, 0),
  (43, 1, .iload_n 3, 0, 0), (44, 3, .invokevirtual 148, 0, 0), (47, 2, .istore 7, 0, 0), (49, 2, .iload 7, 0, 0),
  (51, 1, .iconst 4, 4, 0), (52, 1, .irem, 0, 0), (53, 1, .iload_n 3, 0, 0), (54, 1, .iconst 4, 4, 0),
  (55, 1, .irem, 0, 0), (56, 3, .invokestatic 145, 0, 0), (59, 2, .iload 7, 0, 0), (61, 1, .iconst 4, 4, 0),
  (62, 1, .idiv, 0, 0), (63, 1, .iload_n 3, 0, 0), (64, 1, .iconst 4, 4, 0), (65, 1, .idiv, 0, 0),
  (66, 3, .invokestatic 145, 0, 0), (69, 1, .iadd, 0, 0), (70, 2, .iload 5, 0, 0), (72, 1, .iconst 4, 4, 0),
  (73, 1, .irem, 0, 0), (74, 1, .iload_n 3, 0, 0), (75, 1, .iconst 4, 4, 0), (76, 1, .irem, 0, 0),
  (77, 3, .invokestatic 145, 0, 0), (80, 2, .iload 5, 0, 0), (82, 1, .iconst 4, 4, 0), (83, 1, .idiv, 0, 0),
  (84, 1, .iload_n 3, 0, 0), (85, 1, .iconst 4, 4, 0), (86, 1, .idiv, 0, 0), (87, 3, .invokestatic 145, 0, 0),
  (90, 1, .iadd, 0, 0), (91, 3, .if_icmp .ge 7, 0, 98), (94, 1, .iconst 1, 1, 0), (95, 3, .goto 4, 0, 99),
  (98, 1, .iconst 0, 0, 0), (99, 2, .istore 8, 0, 0), (101, 2, .iload 8, 0, 0), (103, 3, .ifCond .eq 8, 0, 111),
  (106, 2, .iload 7, 0, 0), (108, 3, .goto 5, 0, 113), (111, 2, .iload 5, 0, 0), (113, 2, .istore 5, 0, 0),
  (115, 3, .iinc 6 1, 1, 0), (118, 3, .goto (-90), 0, 28), (121, 2, .iload 5, 0, 0), (123, 1, .iload_n 2, 0, 0),
  (124, 3, .if_icmp .ne 5, 0, 129), (127, 1, .iconst (-1), (-1), 0), (128, 1, .ireturn, 0, 0), (129, 2, .iload 5, 0, 0),
  (131, 1, .istore_n 2, 0, 0), (132, 3, .iinc 4 1, 1, 0), (135, 3, .goto (-118), 0, 17), (138, 2, .iload 4, 0, 0),
  (140, 1, .ireturn, 0, 0)]
theorem kX6_relays_ok : fw_chk cX6_relays 9 kX6_relays = true := by decide +kernel
theorem kX6_relays_cst : ∀ en ∈ kX6_relays, fw_CstOK RX6 cst_X6 en := by
  have h : kX6_relays.all (fw_cstq cp_X6) = true := by decide +kernel
  exact fun en he => fw_cstX cp_X6_ok cst_X6_ok (List.all_eq_true.mp h en he)
def kX6_leastRelay : List fw_Ent := [
  (0, 1, .aload_n 0, 0, 0), (1, 1, .iload_n 1, 0, 0), (2, 3, .invokevirtual 139, 0, 0), (5, 3, .ifCond .eq 15, 0, 20),
  (8, 1, .aload_n 0, 0, 0), (9, 1, .aload_n 0, 0, 0), (10, 1, .iload_n 1, 0, 0), (11, 3, .invokevirtual 152, 0, 0),
  (14, 3, .invokevirtual 36, 0, 0), (17, 3, .goto 8, 0, 25), (20, 1, .aload_n 0, 0, 0), (21, 1, .iconst 1, 1, 0),
  (22, 3, .invokevirtual 108, 0, 0), (25, 1, .ireturn, 0, 0)]
theorem kX6_leastRelay_ok : fw_chk cX6_leastRelay 2 kX6_leastRelay = true := by decide +kernel
theorem kX6_leastRelay_cst : ∀ en ∈ kX6_leastRelay, fw_CstOK RX6 cst_X6 en := by
  have h : kX6_leastRelay.all (fw_cstq cp_X6) = true := by decide +kernel
  exact fun en he => fw_cstX cp_X6_ok cst_X6_ok (List.all_eq_true.mp h en he)
def kX6_punctuality : List fw_Ent := [
  (0, 1, .aload_n 0, 0, 0), (1, 1, .iconst 0, 0, 0), (2, 3, .putfield 25, 0, 0), (5, 1, .iconst 0, 0, 0),
  (6, 1, .istore_n 1, 0, 0), (7, 1, .iconst 0, 0, 0), (8, 1, .istore_n 2, 0, 0), (9, 1, .iconst 0, 0, 0),
  (10, 1, .istore_n 3, 0, 0), (11, 1, .iload_n 3, 0, 0), (12, 1, .aload_n 0, 0, 0), (13, 3, .getfield 7, 0, 0),
  (16, 1, .iconst 3, 3, 0), (17, 1, .iaload, 0, 0), (18, 3, .if_icmp .ge 61, 0, 79), (21, 1, .iload_n 2, 0, 0),
  (22, 1, .aload_n 0, 0, 0), (23, 1, .iload_n 3, 0, 0), (24, 1, .iconst 4, 4, 0), (25, 3, .invokevirtual 52, 0, 0),
  (28, 1, .iconst 2, 2, 0), (29, 3, .if_icmp .lt 7, 0, 36), (32, 1, .iconst 1, 1, 0), (33, 3, .goto 4, 0, 37),
  (36, 1, .iconst 0, 0, 0), (37, 1, .iadd, 0, 0), (38, 1, .istore_n 2, 0, 0), (39, 1, .iload_n 1, 0, 0),
  (40, 1, .aload_n 0, 0, 0), (41, 1, .iload_n 3, 0, 0), (42, 1, .iconst 4, 4, 0), (43, 3, .invokevirtual 52, 0, 0),
  (46, 1, .iconst 2, 2, 0), (47, 3, .if_icmp .ne 23, 0, 70), (50, 1, .aload_n 0, 0, 0), (51, 1, .iload_n 3, 0, 0),
  (52, 2, .bipush 6, 6, 0), (54, 3, .invokevirtual 52, 0, 0), (57, 1, .aload_n 0, 0, 0), (58, 1, .iload_n 3, 0, 0),
  (59, 1, .iconst 2, 2, 0), (60, 3, .invokevirtual 52, 0, 0), (63, 3, .if_icmp .gt 7, 0, 70), (66, 1, .iconst 1, 1, 0),
  (67, 3, .goto 4, 0, 71), (70, 1, .iconst 0, 0, 0), (71, 1, .iadd, 0, 0), (72, 1, .istore_n 1, 0, 0),
  (73, 3, .iinc 3 1, 1, 0), (76, 3, .goto (-65), 0, 11), (79, 1, .iload_n 2, 0, 0), (80, 3, .ifCond .ne 7, 0, 87),
  (83, 1, .dconst 1, 0, 0), (84, 3, .goto 8, 0, 92), (87, 1, .iload_n 1, 0, 0), (88, 1, .i2d, 0, 0),
  (89, 1, .iload_n 2, 0, 0), (90, 1, .i2d, 0, 0), (91, 1, .ddiv, 0, 0), (92, 1, .dreturn, 0, 0)]
theorem kX6_punctuality_ok : fw_chk cX6_punctuality 4 kX6_punctuality = true := by decide +kernel
theorem kX6_punctuality_cst : ∀ en ∈ kX6_punctuality, fw_CstOK RX6 cst_X6 en := by
  have h : kX6_punctuality.all (fw_cstq cp_X6) = true := by decide +kernel
  exact fun en he => fw_cstX cp_X6_ok cst_X6_ok (List.all_eq_true.mp h en he)
def kX6_more : List fw_Ent := [
  (0, 1, .aload_n 0, 0, 0), (1, 3, .getfield 7, 0, 0), (4, 2, .bipush 6, 6, 0), (6, 1, .iaload, 0, 0),
  (7, 1, .istore_n 2, 0, 0), (8, 1, .aload_n 0, 0, 0), (9, 1, .iload_n 1, 0, 0), (10, 3, .invokevirtual 130, 0, 0),
  (13, 1, .aload_n 0, 0, 0), (14, 3, .getfield 7, 0, 0), (17, 2, .bipush 6, 6, 0), (19, 1, .iaload, 0, 0),
  (20, 1, .iload_n 2, 0, 0), (21, 1, .isub, 0, 0), (22, 1, .istore_n 3, 0, 0), (23, 1, .aload_n 0, 0, 0),
  (24, 3, .getfield 7, 0, 0), (27, 1, .aload_n 0, 0, 0), (28, 3, .getfield 19, 0, 0), (31, 3, .invokestatic 29, 0, 0),
  (34, 1, .iload_n 3, 0, 0), (35, 1, .ireturn, 0, 0)]
theorem kX6_more_ok : fw_chk cX6_more 4 kX6_more = true := by decide +kernel
theorem kX6_more_cst : ∀ en ∈ kX6_more, fw_CstOK RX6 cst_X6 en := by
  have h : kX6_more.all (fw_cstq cp_X6) = true := by decide +kernel
  exact fun en he => fw_cstX cp_X6_ok cst_X6_ok (List.all_eq_true.mp h en he)
def kX6_paidBy : List fw_Ent := [
  (0, 1, .aload_n 0, 0, 0), (1, 3, .getfield 19, 0, 0), (4, 1, .aload_n 0, 0, 0), (5, 3, .getfield 7, 0, 0),
  (8, 3, .invokestatic 29, 0, 0), (11, 1, .aload_n 0, 0, 0), (12, 1, .iload_n 1, 0, 0), (13, 3, .invokevirtual 155, 0, 0),
  (16, 1, .ireturn, 0, 0)]
theorem kX6_paidBy_ok : fw_chk cX6_paidBy 2 kX6_paidBy = true := by decide +kernel
theorem kX6_paidBy_cst : ∀ en ∈ kX6_paidBy, fw_CstOK RX6 cst_X6 en := by
  have h : kX6_paidBy.all (fw_cstq cp_X6) = true := by decide +kernel
  exact fun en he => fw_cstX cp_X6_ok cst_X6_ok (List.all_eq_true.mp h en he)
def kX6_isMany : List fw_Ent := [
  (0, 1, .iload_n 0, 0, 0), (1, 1, .iconst 0, 0, 0), (2, 3, .sipush 200, 200, 0), (5, 3, .invokestatic 40, 0, 0),
  (8, 1, .ireturn, 0, 0)]
theorem kX6_isMany_ok : fw_chk cX6_isMany 1 kX6_isMany = true := by decide +kernel
theorem kX6_isMany_cst : ∀ en ∈ kX6_isMany, fw_CstOK RX6 cst_X6 en := by
  have h : kX6_isMany.all (fw_cstq cp_X6) = true := by decide +kernel
  exact fun en he => fw_cstX cp_X6_ok cst_X6_ok (List.all_eq_true.mp h en he)
def kX6_paidIn : List fw_Ent := [
  (0, 1, .iload_n 1, 0, 0), (1, 3, .invokestatic 158, 0, 0), (4, 3, .ifCond .eq 15, 0, 19), (7, 1, .aload_n 0, 0, 0),
  (8, 1, .aload_n 0, 0, 0), (9, 1, .iload_n 1, 0, 0), (10, 3, .invokevirtual 161, 0, 0), (13, 3, .invokevirtual 36, 0, 0),
  (16, 3, .goto 8, 0, 24), (19, 1, .aload_n 0, 0, 0), (20, 1, .iconst 1, 1, 0), (21, 3, .invokevirtual 108, 0, 0),
  (24, 1, .ireturn, 0, 0)]
theorem kX6_paidIn_ok : fw_chk cX6_paidIn 2 kX6_paidIn = true := by decide +kernel
theorem kX6_paidIn_cst : ∀ en ∈ kX6_paidIn, fw_CstOK RX6 cst_X6 en := by
  have h : kX6_paidIn.all (fw_cstq cp_X6) = true := by decide +kernel
  exact fun en he => fw_cstX cp_X6_ok cst_X6_ok (List.all_eq_true.mp h en he)
def kX6_bestZone : List fw_Ent := [
  (0, 1, .aload_n 0, 0, 0), (1, 1, .iload_n 1, 0, 0), (2, 3, .invokevirtual 117, 0, 0), (5, 3, .ifCond .ne 9, 0, 14),
  (8, 1, .aload_n 0, 0, 0), (9, 1, .iconst 1, 1, 0), (10, 3, .invokevirtual 108, 0, 0), (13, 1, .ireturn, 0, 0),
  (14, 1, .iload_n 2, 0, 0), (15, 3, .invokestatic 158, 0, 0), (18, 3, .ifCond .ne 9, 0, 27), (21, 1, .aload_n 0, 0, 0),
  (22, 1, .iconst 2, 2, 0), (23, 3, .invokevirtual 108, 0, 0), (26, 1, .ireturn, 0, 0), (27, 1, .aload_n 0, 0, 0),
  (28, 1, .iload_n 2, 0, 0), (29, 3, .invokevirtual 161, 0, 0), (32, 1, .istore_n 3, 0, 0), (33, 1, .iconst (-1), (-1), 0),
  (34, 2, .istore 4, 0, 0), (36, 1, .iconst 0, 0, 0), (37, 2, .istore 5, 0, 0), (39, 2, .iload 5, 0, 0),
  (41, 2, .bipush 16, 16, 0), (43, 3, .if_icmp .ge 71, 0, 114), (46, 1, .aload_n 0, 0, 0), (47, 1, .iload_n 1, 0, 0),
  (48, 2, .iload 5, 0, 0), (50, 3, .invokevirtual 55, 0, 0), (53, 3, .ifCond .ne 55, 0, 108), (56, 1, .aload_n 0, 0, 0),
  (57, 1, .iload_n 1, 0, 0), (58, 1, .iconst 0, 0, 0), (59, 1, .aload_n 0, 0, 0), (60, 1, .iload_n 1, 0, 0),
  (61, 1, .iconst 0, 0, 0), (62, 3, .invokevirtual 44, 0, 0), (65, 1, .iconst 1, 1, 0), (66, 2, .iload 5, 0, 0),
  (68, 1, .ishl, 0, 0), (69, 1, .ior, 0, 0), (70, 3, .invokevirtual 48, 0, 0), (73, 1, .aload_n 0, 0, 0),
  (74, 1, .iload_n 2, 0, 0), (75, 3, .invokevirtual 155, 0, 0), (78, 2, .istore 6, 0, 0), (80, 2, .iload 6, 0, 0),
  (82, 1, .iload_n 3, 0, 0), (83, 3, .if_icmp .le 8, 0, 91), (86, 2, .iload 5, 0, 0), (88, 3, .goto 5, 0, 93),
  (91, 2, .iload 4, 0, 0), (93, 2, .istore 4, 0, 0), (95, 2, .iload 6, 0, 0), (97, 1, .iload_n 3, 0, 0),
  (98, 3, .if_icmp .le 8, 0, 106), (101, 2, .iload 6, 0, 0), (103, 3, .goto 4, 0, 107), (106, 1, .iload_n 3, 0, 0),
  (107, 1, .istore_n 3, 0, 0), (108, 3, .iinc 5 1, 1, 0), (111, 3, .goto (-72), 0, 39), (114, 1, .aload_n 0, 0, 0),
  (115, 2, .iload 4, 0, 0), (117, 3, .invokevirtual 36, 0, 0), (120, 1, .ireturn, 0, 0)]
theorem kX6_bestZone_ok : fw_chk cX6_bestZone 7 kX6_bestZone = true := by decide +kernel
theorem kX6_bestZone_cst : ∀ en ∈ kX6_bestZone, fw_CstOK RX6 cst_X6 en := by
  have h : kX6_bestZone.all (fw_cstq cp_X6) = true := by decide +kernel
  exact fun en he => fw_cstX cp_X6_ok cst_X6_ok (List.all_eq_true.mp h en he)
def kX6_worth : List fw_Ent := [
  (0, 1, .aload_n 0, 0, 0), (1, 1, .iload_n 1, 0, 0), (2, 3, .invokevirtual 117, 0, 0), (5, 3, .ifCond .ne 9, 0, 14),
  (8, 1, .aload_n 0, 0, 0), (9, 1, .iconst 1, 1, 0), (10, 3, .invokevirtual 108, 0, 0), (13, 1, .ireturn, 0, 0),
  (14, 1, .iload_n 2, 0, 0), (15, 3, .invokestatic 158, 0, 0), (18, 3, .ifCond .ne 9, 0, 27), (21, 1, .aload_n 0, 0, 0),
  (22, 1, .iconst 2, 2, 0), (23, 3, .invokevirtual 108, 0, 0), (26, 1, .ireturn, 0, 0), (27, 1, .aload_n 0, 0, 0),
  (28, 1, .iload_n 2, 0, 0), (29, 3, .invokevirtual 161, 0, 0), (32, 1, .istore_n 3, 0, 0), (33, 1, .aload_n 0, 0, 0),
  (34, 1, .iload_n 1, 0, 0), (35, 3, .invokevirtual 124, 0, 0), (38, 1, .pop, 0, 0), (39, 1, .aload_n 0, 0, 0),
  (40, 1, .iload_n 1, 0, 0), (41, 1, .iconst 0, 0, 0), (42, 1, .iconst 0, 0, 0), (43, 3, .invokevirtual 48, 0, 0),
  (46, 1, .aload_n 0, 0, 0), (47, 1, .iload_n 3, 0, 0), (48, 1, .aload_n 0, 0, 0), (49, 1, .iload_n 2, 0, 0),
  (50, 3, .invokevirtual 155, 0, 0), (53, 1, .isub, 0, 0), (54, 3, .invokevirtual 36, 0, 0), (57, 1, .ireturn, 0, 0)]
theorem kX6_worth_ok : fw_chk cX6_worth 4 kX6_worth = true := by decide +kernel
theorem kX6_worth_cst : ∀ en ∈ kX6_worth, fw_CstOK RX6 cst_X6 en := by
  have h : kX6_worth.all (fw_cstq cp_X6) = true := by decide +kernel
  exact fun en he => fw_cstX cp_X6_ok cst_X6_ok (List.all_eq_true.mp h en he)
def kX6_isDone : List fw_Ent := [
  (0, 1, .aload_n 0, 0, 0), (1, 1, .iconst 0, 0, 0), (2, 3, .invokevirtual 127, 0, 0), (5, 1, .aload_n 0, 0, 0),
  (6, 1, .iconst 1, 1, 0), (7, 3, .invokevirtual 127, 0, 0), (10, 1, .iadd, 0, 0), (11, 3, .ifCond .ne 7, 0, 18),
  (14, 1, .iconst 1, 1, 0), (15, 3, .goto 4, 0, 19), (18, 1, .iconst 0, 0, 0), (19, 1, .ireturn, 0, 0)]
theorem kX6_isDone_ok : fw_chk cX6_isDone 1 kX6_isDone = true := by decide +kernel
theorem kX6_isDone_cst : ∀ en ∈ kX6_isDone, fw_CstOK RX6 cst_X6 en := by
  have h : kX6_isDone.all (fw_cstq cp_X6) = true := by decide +kernel
  exact fun en he => fw_cstX cp_X6_ok cst_X6_ok (List.all_eq_true.mp h en he)
def kX6_doneIn : List fw_Ent := [
  (0, 1, .aload_n 0, 0, 0), (1, 3, .getfield 19, 0, 0), (4, 1, .aload_n 0, 0, 0), (5, 3, .getfield 7, 0, 0),
  (8, 3, .invokestatic 29, 0, 0), (11, 1, .iconst 0, 0, 0), (12, 1, .istore_n 1, 0, 0), (13, 1, .iload_n 1, 0, 0),
  (14, 3, .sipush 1200, 1200, 0), (17, 3, .if_icmp .ge 20, 0, 37), (20, 1, .aload_n 0, 0, 0), (21, 3, .invokevirtual 164, 0, 0),
  (24, 3, .ifCond .ne 13, 0, 37), (27, 1, .aload_n 0, 0, 0), (28, 3, .invokevirtual 97, 0, 0), (31, 3, .iinc 1 1, 1, 0),
  (34, 3, .goto (-21), 0, 13), (37, 1, .aload_n 0, 0, 0), (38, 3, .invokevirtual 164, 0, 0), (41, 1, .istore_n 2, 0, 0),
  (42, 1, .aload_n 0, 0, 0), (43, 3, .getfield 7, 0, 0), (46, 1, .aload_n 0, 0, 0), (47, 3, .getfield 19, 0, 0),
  (50, 3, .invokestatic 29, 0, 0), (53, 1, .aload_n 0, 0, 0), (54, 1, .iload_n 2, 0, 0), (55, 3, .ifCond .eq 7, 0, 62),
  (58, 1, .iload_n 1, 0, 0), (59, 3, .goto 4, 0, 63), (62, 1, .iconst (-1), (-1), 0), (63, 3, .invokevirtual 36, 0, 0),
  (66, 1, .ireturn, 0, 0)]
theorem kX6_doneIn_ok : fw_chk cX6_doneIn 3 kX6_doneIn = true := by decide +kernel
theorem kX6_doneIn_cst : ∀ en ∈ kX6_doneIn, fw_CstOK RX6 cst_X6 en := by
  have h : kX6_doneIn.all (fw_cstq cp_X6) = true := by decide +kernel
  exact fun en he => fw_cstX cp_X6_ok cst_X6_ok (List.all_eq_true.mp h en he)
def kX6_append : List fw_Ent := [
  (0, 1, .iload_n 1, 0, 0), (1, 1, .iconst 0, 0, 0), (2, 2, .bipush 127, 127, 0), (4, 3, .invokestatic 40, 0, 0),
  (7, 3, .ifCond .ne 9, 0, 16), (10, 1, .aload_n 0, 0, 0), (11, 1, .iconst 1, 1, 0), (12, 3, .invokevirtual 108, 0, 0),
  (15, 1, .ireturn, 0, 0), (16, 1, .aload_n 0, 0, 0), (17, 3, .getfield 168, 0, 0), (20, 3, .sipush 150, 150, 0),
  (23, 3, .if_icmp .ne 9, 0, 32), (26, 1, .aload_n 0, 0, 0), (27, 1, .iconst 2, 2, 0), (28, 3, .invokevirtual 108, 0, 0),
  (31, 1, .ireturn, 0, 0), (32, 1, .aload_n 0, 0, 0), (33, 3, .getfield 22, 0, 0), (36, 1, .aload_n 0, 0, 0),
  (37, 3, .getfield 168, 0, 0), (40, 1, .iload_n 1, 0, 0), (41, 1, .iastore, 0, 0), (42, 1, .aload_n 0, 0, 0),
  (43, 1, .dup, 0, 0), (44, 3, .getfield 168, 0, 0), (47, 1, .iconst 1, 1, 0), (48, 1, .iadd, 0, 0),
  (49, 3, .putfield 168, 0, 0), (52, 1, .aload_n 0, 0, 0), (53, 1, .aload_n 0, 0, 0), (54, 3, .getfield 168, 0, 0),
  (57, 3, .invokevirtual 36, 0, 0), (60, 1, .ireturn, 0, 0)]
theorem kX6_append_ok : fw_chk cX6_append 2 kX6_append = true := by decide +kernel
theorem kX6_append_cst : ∀ en ∈ kX6_append, fw_CstOK RX6 cst_X6 en := by
  have h : kX6_append.all (fw_cstq cp_X6) = true := by decide +kernel
  exact fun en he => fw_cstX cp_X6_ok cst_X6_ok (List.all_eq_true.mp h en he)
def kX6_clearText : List fw_Ent := [
  (0, 1, .aload_n 0, 0, 0), (1, 3, .getfield 168, 0, 0), (4, 1, .istore_n 1, 0, 0), (5, 1, .aload_n 0, 0, 0),
  (6, 1, .iconst 0, 0, 0), (7, 3, .putfield 168, 0, 0), (10, 1, .aload_n 0, 0, 0), (11, 1, .iload_n 1, 0, 0),
  (12, 3, .invokevirtual 36, 0, 0), (15, 1, .ireturn, 0, 0)]
theorem kX6_clearText_ok : fw_chk cX6_clearText 2 kX6_clearText = true := by decide +kernel
theorem kX6_clearText_cst : ∀ en ∈ kX6_clearText, fw_CstOK RX6 cst_X6 en := by
  have h : kX6_clearText.all (fw_cstq cp_X6) = true := by decide +kernel
  exact fun en he => fw_cstX cp_X6_ok cst_X6_ok (List.all_eq_true.mp h en he)
def kX6_isAt : List fw_Ent := [
  (0, 1, .aload_n 0, 0, 0), (1, 3, .getfield 171, 0, 0), (4, 1, .aload_n 0, 0, 0), (5, 3, .getfield 168, 0, 0),
  (8, 3, .if_icmp .ge 24, 0, 32), (11, 1, .aload_n 0, 0, 0), (12, 3, .getfield 22, 0, 0), (15, 1, .aload_n 0, 0, 0),
  (16, 3, .getfield 171, 0, 0), (19, 1, .iaload, 0, 0), (20, 1, .iload_n 1, 0, 0), (21, 1, .iload_n 2, 0, 0),
  (22, 3, .invokestatic 40, 0, 0), (25, 3, .ifCond .eq 7, 0, 32), (28, 1, .iconst 1, 1, 0), (29, 3, .goto 4, 0, 33),
  (32, 1, .iconst 0, 0, 0), (33, 1, .ireturn, 0, 0)]
theorem kX6_isAt_ok : fw_chk cX6_isAt 3 kX6_isAt = true := by decide +kernel
theorem kX6_isAt_cst : ∀ en ∈ kX6_isAt, fw_CstOK RX6 cst_X6 en := by
  have h : kX6_isAt.all (fw_cstq cp_X6) = true := by decide +kernel
  exact fun en he => fw_cstX cp_X6_ok cst_X6_ok (List.all_eq_true.mp h en he)
def kX6_isNumber : List fw_Ent := [
  (0, 1, .aload_n 0, 0, 0), (1, 3, .getfield 171, 0, 0), (4, 2, .istore 6, 0, 0), (6, 1, .aload_n 0, 0, 0),
  (7, 1, .iconst 0, 0, 0), (8, 3, .putfield 174, 0, 0), (11, 1, .aload_n 0, 0, 0), (12, 3, .getfield 171, 0, 0),
  (15, 2, .iload 6, 0, 0), (17, 1, .isub, 0, 0), (18, 1, .iload_n 1, 0, 0), (19, 3, .if_icmp .ge 51, 0, 70),
  (22, 1, .aload_n 0, 0, 0), (23, 2, .bipush 48, 48, 0), (25, 2, .bipush 57, 57, 0), (27, 3, .invokevirtual 177, 0, 0),
  (30, 3, .ifCond .eq 40, 0, 70), (33, 1, .aload_n 0, 0, 0), (34, 2, .bipush 10, 10, 0), (36, 1, .aload_n 0, 0, 0),
  (37, 3, .getfield 174, 0, 0), (40, 1, .imul, 0, 0), (41, 1, .aload_n 0, 0, 0), (42, 3, .getfield 22, 0, 0),
  (45, 1, .aload_n 0, 0, 0), (46, 3, .getfield 171, 0, 0), (49, 1, .iaload, 0, 0), (50, 1, .iadd, 0, 0),
  (51, 2, .bipush 48, 48, 0), (53, 1, .isub, 0, 0), (54, 3, .putfield 174, 0, 0), (57, 1, .aload_n 0, 0, 0),
  (58, 1, .dup, 0, 0), (59, 3, .getfield 171, 0, 0), (62, 1, .iconst 1, 1, 0), (63, 1, .iadd, 0, 0),
  (64, 3, .putfield 171, 0, 0), (67, 3, .goto (-56), 0, 11), (70, 1, .aload_n 0, 0, 0), (71, 3, .getfield 171, 0, 0),
  (74, 2, .iload 6, 0, 0), (76, 3, .if_icmp .eq 14, 0, 90), (79, 1, .aload_n 0, 0, 0), (80, 2, .bipush 48, 48, 0),
  (82, 2, .bipush 57, 57, 0), (84, 3, .invokevirtual 177, 0, 0), (87, 3, .ifCond .eq 5, 0, 92), (90, 1, .iconst 0, 0, 0),
  (91, 1, .ireturn, 0, 0), (92, 1, .aload_n 0, 0, 0), (93, 3, .getfield 174, 0, 0), (96, 1, .iload_n 2, 0, 0),
  (97, 1, .iload_n 3, 0, 0), (98, 3, .invokestatic 40, 0, 0), (101, 3, .ifCond .eq 12, 0, 113), (104, 1, .aload_n 0, 0, 0),
  (105, 3, .getfield 174, 0, 0), (108, 2, .iload 4, 0, 0), (110, 3, .if_icmp .ne 11, 0, 121), (113, 1, .aload_n 0, 0, 0),
  (114, 2, .iload 6, 0, 0), (116, 3, .putfield 171, 0, 0), (119, 1, .iconst 0, 0, 0), (120, 1, .ireturn, 0, 0),
  (121, 1, .aload_n 0, 0, 0), (122, 2, .iload 5, 0, 0), (124, 2, .iload 5, 0, 0), (126, 3, .invokevirtual 177, 0, 0),
  (129, 2, .istore 7, 0, 0), (131, 1, .aload_n 0, 0, 0), (132, 1, .dup, 0, 0), (133, 3, .getfield 171, 0, 0),
  (136, 2, .iload 7, 0, 0), (138, 3, .ifCond .eq 7, 0, 145), (141, 1, .iconst 1, 1, 0), (142, 3, .goto 4, 0, 146),
  (145, 1, .iconst 0, 0, 0), (146, 1, .iadd, 0, 0), (147, 3, .putfield 171, 0, 0), (150, 2, .iload 7, 0, 0),
  (152, 1, .ireturn, 0, 0)]
theorem kX6_isNumber_ok : fw_chk cX6_isNumber 8 kX6_isNumber = true := by decide +kernel
theorem kX6_isNumber_cst : ∀ en ∈ kX6_isNumber, fw_CstOK RX6 cst_X6 en := by
  have h : kX6_isNumber.all (fw_cstq cp_X6) = true := by decide +kernel
  exact fun en he => fw_cstX cp_X6_ok cst_X6_ok (List.all_eq_true.mp h en he)
def kX6_isItem : List fw_Ent := [
  (0, 1, .aload_n 0, 0, 0), (1, 3, .getfield 7, 0, 0), (4, 1, .iconst 3, 3, 0), (5, 1, .iaload, 0, 0),
  (6, 2, .bipush 24, 24, 0), (8, 3, .if_icmp .eq 17, 0, 25), (11, 1, .aload_n 0, 0, 0), (12, 1, .iconst 2, 2, 0),
  (13, 1, .iconst 0, 0, 0), (14, 2, .bipush 15, 15, 0), (16, 1, .iconst (-1), (-1), 0), (17, 2, .bipush 44, 44, 0),
  (19, 3, .invokevirtual 180, 0, 0), (22, 3, .ifCond .ne 5, 0, 27), (25, 1, .iconst 0, 0, 0), (26, 1, .ireturn, 0, 0),
  (27, 1, .aload_n 0, 0, 0), (28, 3, .getfield 174, 0, 0), (31, 1, .istore_n 1, 0, 0), (32, 1, .aload_n 0, 0, 0),
  (33, 1, .iconst 2, 2, 0), (34, 1, .iconst 0, 0, 0), (35, 2, .bipush 15, 15, 0), (37, 1, .iload_n 1, 0, 0),
  (38, 2, .bipush 44, 44, 0), (40, 3, .invokevirtual 180, 0, 0), (43, 3, .ifCond .ne 5, 0, 48), (46, 1, .iconst 0, 0, 0),
  (47, 1, .ireturn, 0, 0), (48, 1, .aload_n 0, 0, 0), (49, 3, .getfield 174, 0, 0), (52, 1, .istore_n 2, 0, 0),
  (53, 1, .aload_n 0, 0, 0), (54, 1, .iconst 3, 3, 0), (55, 1, .iconst 1, 1, 0), (56, 3, .sipush 999, 999, 0),
  (59, 1, .iconst (-1), (-1), 0), (60, 2, .bipush 44, 44, 0), (62, 3, .invokevirtual 180, 0, 0), (65, 3, .ifCond .ne 5, 0, 70),
  (68, 1, .iconst 0, 0, 0), (69, 1, .ireturn, 0, 0), (70, 1, .aload_n 0, 0, 0), (71, 3, .getfield 174, 0, 0),
  (74, 1, .istore_n 3, 0, 0), (75, 1, .aload_n 0, 0, 0), (76, 1, .iconst 4, 4, 0), (77, 1, .iconst 0, 0, 0),
  (78, 3, .sipush 1000, 1000, 0), (81, 1, .iconst (-1), (-1), 0), (82, 2, .bipush 59, 59, 0), (84, 3, .invokevirtual 180, 0, 0),
  (87, 3, .ifCond .ne 5, 0, 92), (90, 1, .iconst 0, 0, 0), (91, 1, .ireturn, 0, 0), (92, 1, .aload_n 0, 0, 0),
  (93, 1, .iload_n 1, 0, 0), (94, 1, .iload_n 2, 0, 0), (95, 1, .iload_n 3, 0, 0), (96, 1, .aload_n 0, 0, 0),
  (97, 3, .getfield 174, 0, 0), (100, 3, .invokevirtual 120, 0, 0), (103, 1, .iconst 1, 1, 0), (104, 1, .ireturn, 0, 0)]
theorem kX6_isItem_ok : fw_chk cX6_isItem 4 kX6_isItem = true := by decide +kernel
theorem kX6_isItem_cst : ∀ en ∈ kX6_isItem, fw_CstOK RX6 cst_X6 en := by
  have h : kX6_isItem.all (fw_cstq cp_X6) = true := by decide +kernel
  exact fun en he => fw_cstX cp_X6_ok cst_X6_ok (List.all_eq_true.mp h en he)
def kX6_parse : List fw_Ent := [
  (0, 1, .aload_n 0, 0, 0), (1, 1, .iconst 0, 0, 0), (2, 3, .putfield 25, 0, 0), (5, 1, .aload_n 0, 0, 0),
  (6, 3, .invokevirtual 111, 0, 0), (9, 1, .aload_n 0, 0, 0), (10, 1, .iconst 0, 0, 0), (11, 3, .putfield 171, 0, 0),
  (14, 1, .aload_n 0, 0, 0), (15, 3, .getfield 171, 0, 0), (18, 1, .aload_n 0, 0, 0), (19, 3, .getfield 168, 0, 0),
  (22, 3, .if_icmp .ge 29, 0, 51), (25, 1, .aload_n 0, 0, 0), (26, 3, .invokevirtual 184, 0, 0), (29, 3, .ifCond .ne (-15), 0, 14),
  (32, 1, .aload_n 0, 0, 0), (33, 3, .getfield 7, 0, 0), (36, 1, .aload_n 0, 0, 0), (37, 3, .getfield 16, 0, 0),
  (40, 3, .invokestatic 29, 0, 0), (43, 2, .bipush (-10), (-10), 0), (45, 1, .aload_n 0, 0, 0), (46, 3, .getfield 171, 0, 0),
  (49, 1, .isub, 0, 0), (50, 1, .ireturn, 0, 0), (51, 1, .aload_n 0, 0, 0), (52, 1, .aload_n 0, 0, 0),
  (53, 3, .getfield 7, 0, 0), (56, 1, .iconst 3, 3, 0), (57, 1, .iaload, 0, 0), (58, 3, .invokevirtual 114, 0, 0),
  (61, 1, .ireturn, 0, 0)]
theorem kX6_parse_ok : fw_chk cX6_parse 1 kX6_parse = true := by decide +kernel
theorem kX6_parse_cst : ∀ en ∈ kX6_parse, fw_CstOK RX6 cst_X6 en := by
  have h : kX6_parse.all (fw_cstq cp_X6) = true := by decide +kernel
  exact fun en he => fw_cstX cp_X6_ok cst_X6_ok (List.all_eq_true.mp h en he)
def kX6_undo : List fw_Ent := [
  (0, 1, .aload_n 0, 0, 0), (1, 3, .getfield 33, 0, 0), (4, 3, .ifCond .ne 9, 0, 13), (7, 1, .aload_n 0, 0, 0),
  (8, 1, .iconst 1, 1, 0), (9, 3, .invokevirtual 108, 0, 0), (12, 1, .ireturn, 0, 0), (13, 1, .aload_n 0, 0, 0),
  (14, 1, .dup, 0, 0), (15, 3, .getfield 33, 0, 0), (18, 1, .iconst 1, 1, 0), (19, 1, .isub, 0, 0),
  (20, 3, .putfield 33, 0, 0), (23, 1, .iconst 0, 0, 0), (24, 1, .istore_n 1, 0, 0), (25, 1, .iload_n 1, 0, 0),
  (26, 3, .sipush 517, 517, 0), (29, 3, .if_icmp .ge 30, 0, 59), (32, 1, .aload_n 0, 0, 0), (33, 3, .getfield 7, 0, 0),
  (36, 1, .iload_n 1, 0, 0), (37, 1, .aload_n 0, 0, 0), (38, 3, .getfield 13, 0, 0), (41, 3, .sipush 517, 517, 0),
  (44, 1, .aload_n 0, 0, 0), (45, 3, .getfield 33, 0, 0), (48, 1, .imul, 0, 0), (49, 1, .iload_n 1, 0, 0),
  (50, 1, .iadd, 0, 0), (51, 1, .iaload, 0, 0), (52, 1, .iastore, 0, 0), (53, 3, .iinc 1 1, 1, 0),
  (56, 3, .goto (-31), 0, 25), (59, 1, .aload_n 0, 0, 0), (60, 1, .aload_n 0, 0, 0), (61, 3, .getfield 33, 0, 0),
  (64, 3, .invokevirtual 36, 0, 0), (67, 1, .ireturn, 0, 0)]
theorem kX6_undo_ok : fw_chk cX6_undo 2 kX6_undo = true := by decide +kernel
theorem kX6_undo_cst : ∀ en ∈ kX6_undo, fw_CstOK RX6 cst_X6 en := by
  have h : kX6_undo.all (fw_cstq cp_X6) = true := by decide +kernel
  exact fun en he => fw_cstX cp_X6_ok cst_X6_ok (List.all_eq_true.mp h en he)
def kX6_mix : List fw_Ent := [
  (0, 1, .aload_n 0, 0, 0), (1, 3, .ldc2_w 187, 0, 0), (4, 1, .aload_n 0, 0, 0), (5, 3, .getfield 189, 0, 0),
  (8, 1, .lmul, 0, 0), (9, 1, .iload_n 1, 0, 0), (10, 1, .i2l, 0, 0), (11, 1, .ladd, 0, 0),
  (12, 3, .putfield 189, 0, 0), (15, 1, .return_, 0, 0)]
theorem kX6_mix_ok : fw_chk cX6_mix 2 kX6_mix = true := by decide +kernel
theorem kX6_mix_cst : ∀ en ∈ kX6_mix, fw_CstOK RX6 cst_X6 en := by
  have h : kX6_mix.all (fw_cstq cp_X6) = true := by decide +kernel
  exact fun en he => fw_cstX cp_X6_ok cst_X6_ok (List.all_eq_true.mp h en he)
def kX6_digest : List fw_Ent := [
  (0, 1, .aload_n 0, 0, 0), (1, 1, .iconst 0, 0, 0), (2, 3, .putfield 25, 0, 0), (5, 1, .aload_n 0, 0, 0),
  (6, 3, .ldc2_w 193, 0, 0), (9, 3, .putfield 189, 0, 0), (12, 1, .aload_n 0, 0, 0), (13, 1, .aload_n 0, 0, 0),
  (14, 3, .getfield 168, 0, 0), (17, 3, .invokevirtual 195, 0, 0), (20, 1, .iconst 0, 0, 0), (21, 1, .istore_n 1, 0, 0),
  (22, 1, .iload_n 1, 0, 0), (23, 2, .bipush 11, 11, 0), (25, 3, .if_icmp .ge 18, 0, 43), (28, 1, .aload_n 0, 0, 0),
  (29, 1, .aload_n 0, 0, 0), (30, 1, .iload_n 1, 0, 0), (31, 3, .invokevirtual 133, 0, 0), (34, 3, .invokevirtual 195, 0, 0),
  (37, 3, .iinc 1 1, 1, 0), (40, 3, .goto (-18), 0, 22), (43, 1, .iconst 0, 0, 0), (44, 1, .istore_n 1, 0, 0),
  (45, 1, .iload_n 1, 0, 0), (46, 1, .aload_n 0, 0, 0), (47, 3, .getfield 7, 0, 0), (50, 1, .iconst 2, 2, 0),
  (51, 1, .iaload, 0, 0), (52, 3, .if_icmp .ge 33, 0, 85), (55, 1, .iconst 0, 0, 0), (56, 1, .istore_n 2, 0, 0),
  (57, 1, .iload_n 2, 0, 0), (58, 2, .bipush 6, 6, 0), (60, 3, .if_icmp .ge 19, 0, 79), (63, 1, .aload_n 0, 0, 0),
  (64, 1, .aload_n 0, 0, 0), (65, 1, .iload_n 1, 0, 0), (66, 1, .iload_n 2, 0, 0), (67, 3, .invokevirtual 136, 0, 0),
  (70, 3, .invokevirtual 195, 0, 0), (73, 3, .iinc 2 1, 1, 0), (76, 3, .goto (-19), 0, 57), (79, 3, .iinc 1 1, 1, 0),
  (82, 3, .goto (-37), 0, 45), (85, 1, .iconst 0, 0, 0), (86, 1, .istore_n 1, 0, 0), (87, 1, .iload_n 1, 0, 0),
  (88, 1, .aload_n 0, 0, 0), (89, 3, .getfield 7, 0, 0), (92, 1, .iconst 3, 3, 0), (93, 1, .iaload, 0, 0),
  (94, 3, .if_icmp .ge 77, 0, 171), (97, 1, .iconst 0, 0, 0), (98, 1, .istore_n 2, 0, 0), (99, 1, .iload_n 2, 0, 0),
  (100, 2, .bipush 9, 9, 0), (102, 3, .if_icmp .ge 19, 0, 121), (105, 1, .aload_n 0, 0, 0), (106, 1, .aload_n 0, 0, 0),
  (107, 1, .iload_n 1, 0, 0), (108, 1, .iload_n 2, 0, 0), (109, 3, .invokevirtual 142, 0, 0), (112, 3, .invokevirtual 195, 0, 0),
  (115, 3, .iinc 2 1, 1, 0), (118, 3, .goto (-19), 0, 99), (121, 1, .iconst 0, 0, 0), (122, 1, .istore_n 2, 0, 0),
  (123, 1, .iload_n 2, 0, 0), (124, 1, .aload_n 0, 0, 0), (125, 3, .getfield 7, 0, 0), (128, 1, .iconst 2, 2, 0),
  (129, 1, .iaload, 0, 0), (130, 3, .if_icmp .ge 35, 0, 165), (133, 1, .aload_n 0, 0, 0), (134, 1, .aload_n 0, 0, 0),
  (135, 1, .iload_n 1, 0, 0), (136, 2, .bipush 8, 8, 0), (138, 1, .iload_n 2, 0, 0), (139, 1, .iadd, 0, 0),
  (140, 3, .invokevirtual 52, 0, 0), (143, 3, .invokevirtual 195, 0, 0), (146, 1, .aload_n 0, 0, 0), (147, 1, .aload_n 0, 0, 0),
  (148, 1, .iload_n 1, 0, 0), (149, 2, .bipush 14, 14, 0), (151, 1, .iload_n 2, 0, 0), (152, 1, .iadd, 0, 0),
  (153, 3, .invokevirtual 52, 0, 0), (156, 3, .invokevirtual 195, 0, 0), (159, 3, .iinc 2 1, 1, 0), (162, 3, .goto (-39), 0, 123),
  (165, 3, .iinc 1 1, 1, 0), (168, 3, .goto (-81), 0, 87), (171, 1, .aload_n 0, 0, 0), (172, 1, .aload_n 0, 0, 0),
  (173, 3, .getfield 33, 0, 0), (176, 3, .invokevirtual 195, 0, 0), (179, 1, .aload_n 0, 0, 0), (180, 3, .getfield 189, 0, 0),
  (183, 1, .lreturn, 0, 0)]
theorem kX6_digest_ok : fw_chk cX6_digest 3 kX6_digest = true := by decide +kernel
theorem kX6_digest_cst : ∀ en ∈ kX6_digest, fw_CstOK RX6 cst_X6 en := by
  have h : kX6_digest.all (fw_cstq cp_X6) = true := by decide +kernel
  exact fun en he => fw_cstX cp_X6_ok cst_X6_ok (List.all_eq_true.mp h en he)

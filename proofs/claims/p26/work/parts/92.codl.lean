/-! THE LAW: its methods as lists of decoded rows (printed by program) -/
abbrev fw_rowq (cc : ByteArray) (nL : Nat) (en : fw_Ent) : Bool := decide (decode cc en.1 = .ok (en.2.2.1, en.2.1)) && fw_lt nL en && fw_newq cc en
def kL_cell : List fw_Ent := [
  (0, 1, .iload_n 1, 0, 0), (1, 1, .aload_n 0, 0, 0), (2, 1, .arraylength, 0, 0), (3, 3, .if_icmp .ge 9, 0, 12),
  (6, 1, .aload_n 0, 0, 0), (7, 1, .iload_n 1, 0, 0), (8, 1, .iaload, 0, 0), (9, 3, .goto 9, 0, 18),
  (12, 2, .ldc 7, 40503, 0), (14, 1, .iload_n 1, 0, 0), (15, 1, .iconst 3, 3, 0), (16, 1, .iadd, 0, 0),
  (17, 1, .imul, 0, 0), (18, 1, .ireturn, 0, 0)]
theorem kL_cell_ok : fw_chk cL_cell 2 kL_cell = true := by decide +kernel
set_option maxRecDepth 100000 in
theorem kL_cell_cst : ∀ en ∈ kL_cell, fw_CstOK RL [] en := by
  have h : kL_cell.all (fw_cstq cp_L) = true := by decide +kernel
  exact fun en he => fw_cstX cp_L_ok (fun i v hq => nomatch hq) (List.all_eq_true.mp h en he)
def kL_low : List fw_Ent := [
  (0, 1, .iload_n 0, 0, 0), (1, 2, .ldc 8, 2147483647, 0), (3, 1, .iand, 0, 0), (4, 1, .iload_n 1, 0, 0),
  (5, 1, .irem, 0, 0), (6, 1, .ireturn, 0, 0)]
theorem kL_low_ok : fw_chk cL_low 2 kL_low = true := by decide +kernel
set_option maxRecDepth 100000 in
theorem kL_low_cst : ∀ en ∈ kL_low, fw_CstOK RL [] en := by
  have h : kL_low.all (fw_cstq cp_L) = true := by decide +kernel
  exact fun en he => fw_cstX cp_L_ok (fun i v hq => nomatch hq) (List.all_eq_true.mp h en he)
def kL_towards : List fw_Ent := [
  (0, 1, .iload_n 1, 0, 0), (1, 1, .iconst 4, 4, 0), (2, 1, .irem, 0, 0), (3, 1, .iload_n 0, 0, 0),
  (4, 1, .iconst 4, 4, 0), (5, 1, .irem, 0, 0), (6, 1, .isub, 0, 0), (7, 1, .istore_n 2, 0, 0),
  (8, 1, .iload_n 1, 0, 0), (9, 1, .iconst 4, 4, 0), (10, 1, .idiv, 0, 0), (11, 1, .iload_n 0, 0, 0),
  (12, 1, .iconst 4, 4, 0), (13, 1, .idiv, 0, 0), (14, 1, .isub, 0, 0), (15, 1, .istore_n 3, 0, 0),
  (16, 1, .iload_n 2, 0, 0), (17, 3, .ifCond .le 9, 0, 26), (20, 1, .iload_n 0, 0, 0), (21, 1, .iconst 1, 1, 0),
  (22, 1, .iadd, 0, 0), (23, 3, .goto 34, 0, 57), (26, 1, .iload_n 2, 0, 0), (27, 3, .ifCond .ge 9, 0, 36),
  (30, 1, .iload_n 0, 0, 0), (31, 1, .iconst 1, 1, 0), (32, 1, .isub, 0, 0), (33, 3, .goto 24, 0, 57),
  (36, 1, .iload_n 3, 0, 0), (37, 3, .ifCond .le 9, 0, 46), (40, 1, .iload_n 0, 0, 0), (41, 1, .iconst 4, 4, 0),
  (42, 1, .iadd, 0, 0), (43, 3, .goto 14, 0, 57), (46, 1, .iload_n 3, 0, 0), (47, 3, .ifCond .ge 9, 0, 56),
  (50, 1, .iload_n 0, 0, 0), (51, 1, .iconst 4, 4, 0), (52, 1, .isub, 0, 0), (53, 3, .goto 4, 0, 57),
  (56, 1, .iload_n 0, 0, 0), (57, 1, .ireturn, 0, 0)]
theorem kL_towards_ok : fw_chk cL_towards 4 kL_towards = true := by decide +kernel
set_option maxRecDepth 100000 in
theorem kL_towards_cst : ∀ en ∈ kL_towards, fw_CstOK RL [] en := by
  have h : kL_towards.all (fw_cstq cp_L) = true := by decide +kernel
  exact fun en he => fw_cstX cp_L_ok (fun i v hq => nomatch hq) (List.all_eq_true.mp h en he)
def kL_has : List fw_Ent := [
  (0, 1, .iload_n 0, 0, 0), (1, 1, .iload_n 1, 0, 0), (2, 1, .ishr, 0, 0), (3, 1, .iconst 1, 1, 0),
  (4, 1, .iand, 0, 0), (5, 1, .iconst 1, 1, 0), (6, 3, .if_icmp .ne 7, 0, 13), (9, 1, .iconst 1, 1, 0),
  (10, 3, .goto 4, 0, 14), (13, 1, .iconst 0, 0, 0), (14, 1, .ireturn, 0, 0)]
theorem kL_has_ok : fw_chk cL_has 2 kL_has = true := by decide +kernel
set_option maxRecDepth 100000 in
theorem kL_has_cst : ∀ en ∈ kL_has, fw_CstOK RL [] en := by
  have h : kL_has.all (fw_cstq cp_L) = true := by decide +kernel
  exact fun en he => fw_cstX cp_L_ok (fun i v hq => nomatch hq) (List.all_eq_true.mp h en he)
def kL_suits : List fw_Ent := [
  (0, 1, .aload_n 0, 0, 0), (1, 1, .iconst 5, 5, 0), (2, 1, .iload_n 2, 0, 0), (3, 1, .imul, 0, 0),
  (4, 1, .iaload, 0, 0), (5, 1, .aload_n 1, 0, 0), (6, 2, .bipush 8, 8, 0), (8, 1, .iload_n 3, 0, 0),
  (9, 1, .imul, 0, 0), (10, 1, .iconst 5, 5, 0), (11, 1, .iadd, 0, 0), (12, 1, .iaload, 0, 0),
  (13, 3, .invokestatic 9, 0, 0), (16, 3, .ifCond .eq 37, 0, 53), (19, 1, .aload_n 0, 0, 0), (20, 1, .iconst 5, 5, 0),
  (21, 1, .iload_n 2, 0, 0), (22, 1, .imul, 0, 0), (23, 1, .iaload, 0, 0), (24, 1, .aload_n 1, 0, 0),
  (25, 2, .bipush 8, 8, 0), (27, 1, .iload_n 3, 0, 0), (28, 1, .imul, 0, 0), (29, 1, .iconst 5, 5, 0),
  (30, 1, .iadd, 0, 0), (31, 1, .iaload, 0, 0), (32, 1, .aload_n 1, 0, 0), (33, 2, .bipush 8, 8, 0),
  (35, 1, .iload_n 3, 0, 0), (36, 1, .imul, 0, 0), (37, 1, .iconst 1, 1, 0), (38, 1, .iadd, 0, 0),
  (39, 1, .iaload, 0, 0), (40, 3, .invokestatic 15, 0, 0), (43, 3, .invokestatic 9, 0, 0), (46, 3, .ifCond .eq 7, 0, 53),
  (49, 1, .iconst 1, 1, 0), (50, 3, .goto 4, 0, 54), (53, 1, .iconst 0, 0, 0), (54, 1, .ireturn, 0, 0)]
theorem kL_suits_ok : fw_chk cL_suits 4 kL_suits = true := by decide +kernel
set_option maxRecDepth 100000 in
theorem kL_suits_cst : ∀ en ∈ kL_suits, fw_CstOK RL [] en := by
  have h : kL_suits.all (fw_cstq cp_L) = true := by decide +kernel
  exact fun en he => fw_cstX cp_L_ok (fun i v hq => nomatch hq) (List.all_eq_true.mp h en he)
def kL_pays : List fw_Ent := [
  (0, 1, .aload_n 0, 0, 0), (1, 1, .iconst 0, 0, 0), (2, 1, .iaload, 0, 0), (3, 1, .aload_n 2, 0, 0),
  (4, 2, .bipush 8, 8, 0), (6, 2, .iload 5, 0, 0), (8, 1, .imul, 0, 0), (9, 1, .iconst 2, 2, 0),
  (10, 1, .iadd, 0, 0), (11, 1, .iaload, 0, 0), (12, 3, .if_icmp .gt 15, 0, 27), (15, 1, .aload_n 2, 0, 0),
  (16, 2, .bipush 8, 8, 0), (18, 2, .iload 5, 0, 0), (20, 1, .imul, 0, 0), (21, 1, .iconst 3, 3, 0),
  (22, 1, .iadd, 0, 0), (23, 1, .iaload, 0, 0), (24, 3, .goto 14, 0, 38), (27, 1, .aload_n 2, 0, 0),
  (28, 2, .bipush 8, 8, 0), (30, 2, .iload 5, 0, 0), (32, 1, .imul, 0, 0), (33, 1, .iconst 3, 3, 0),
  (34, 1, .iadd, 0, 0), (35, 1, .iaload, 0, 0), (36, 1, .iconst 2, 2, 0), (37, 1, .idiv, 0, 0),
  (38, 2, .istore 6, 0, 0), (40, 1, .iconst 0, 0, 0), (41, 2, .istore 7, 0, 0), (43, 2, .iload 6, 0, 0),
  (45, 2, .istore 8, 0, 0), (47, 1, .iconst 0, 0, 0), (48, 2, .istore 9, 0, 0), (50, 2, .iload 9, 0, 0),
  (52, 2, .bipush 6, 6, 0), (54, 3, .if_icmp .ge 24, 0, 78), (57, 2, .iload 7, 0, 0), (59, 1, .aload_n 3, 0, 0),
  (60, 2, .bipush 6, 6, 0), (62, 2, .iload 5, 0, 0), (64, 1, .imul, 0, 0), (65, 2, .iload 9, 0, 0),
  (67, 1, .iadd, 0, 0), (68, 1, .iaload, 0, 0), (69, 1, .iadd, 0, 0), (70, 2, .istore 7, 0, 0),
  (72, 3, .iinc 9 1, 1, 0), (75, 3, .goto (-25), 0, 50), (78, 1, .iconst 0, 0, 0), (79, 2, .istore 9, 0, 0),
  (81, 2, .iload 9, 0, 0), (83, 2, .bipush 6, 6, 0), (85, 3, .if_icmp .ge 52, 0, 137), (88, 2, .aload 4, 0, 0),
  (90, 2, .bipush 6, 6, 0), (92, 2, .iload 5, 0, 0), (94, 1, .imul, 0, 0), (95, 2, .iload 9, 0, 0),
  (97, 1, .iadd, 0, 0), (98, 2, .iload 6, 0, 0), (100, 1, .aload_n 3, 0, 0), (101, 2, .bipush 6, 6, 0),
  (103, 2, .iload 5, 0, 0), (105, 1, .imul, 0, 0), (106, 2, .iload 9, 0, 0), (108, 1, .iadd, 0, 0),
  (109, 1, .iaload, 0, 0), (110, 1, .imul, 0, 0), (111, 2, .iload 7, 0, 0), (113, 1, .idiv, 0, 0),
  (114, 1, .iastore, 0, 0), (115, 2, .iload 8, 0, 0), (117, 2, .aload 4, 0, 0), (119, 2, .bipush 6, 6, 0),
  (121, 2, .iload 5, 0, 0), (123, 1, .imul, 0, 0), (124, 2, .iload 9, 0, 0), (126, 1, .iadd, 0, 0),
  (127, 1, .iaload, 0, 0), (128, 1, .isub, 0, 0), (129, 2, .istore 8, 0, 0), (131, 3, .iinc 9 1, 1, 0),
  (134, 3, .goto (-53), 0, 81), (137, 1, .iconst 0, 0, 0), (138, 2, .istore 9, 0, 0), (140, 2, .iload 9, 0, 0),
  (142, 2, .bipush 6, 6, 0), (144, 3, .if_icmp .ge 155, 0, 299), (147, 1, .iconst 0, 0, 0), (148, 2, .istore 10, 0, 0),
  (150, 2, .iload 6, 0, 0), (152, 1, .aload_n 3, 0, 0), (153, 2, .bipush 6, 6, 0), (155, 2, .iload 5, 0, 0),
  (157, 1, .imul, 0, 0), (158, 2, .iload 9, 0, 0), (160, 1, .iadd, 0, 0), (161, 1, .iaload, 0, 0),
  (162, 1, .imul, 0, 0), (163, 2, .iload 7, 0, 0), (165, 1, .irem, 0, 0), (166, 2, .istore 11, 0, 0),
  (168, 1, .iconst 0, 0, 0), (169, 2, .istore 12, 0, 0), (171, 2, .iload 12, 0, 0), (173, 2, .bipush 6, 6, 0),
  (175, 3, .if_icmp .ge 58, 0, 233), (178, 2, .iload 6, 0, 0), (180, 1, .aload_n 3, 0, 0), (181, 2, .bipush 6, 6, 0),
  (183, 2, .iload 5, 0, 0), (185, 1, .imul, 0, 0), (186, 2, .iload 12, 0, 0), (188, 1, .iadd, 0, 0),
  (189, 1, .iaload, 0, 0), (190, 1, .imul, 0, 0), (191, 2, .iload 7, 0, 0), (193, 1, .irem, 0, 0),
  (194, 2, .istore 13, 0, 0), (196, 2, .iload 10, 0, 0), (198, 2, .iload 13, 0, 0), (200, 2, .iload 11, 0, 0),
  (202, 3, .if_icmp .gt 17, 0, 219), (205, 2, .iload 13, 0, 0), (207, 2, .iload 11, 0, 0), (209, 3, .if_icmp .ne 14, 0, 223),
  (212, 2, .iload 12, 0, 0), (214, 2, .iload 9, 0, 0), (216, 3, .if_icmp .ge 7, 0, 223), (219, 1, .iconst 1, 1, 0),
  (220, 3, .goto 4, 0, 224), (223, 1, .iconst 0, 0, 0), (224, 1, .iadd, 0, 0), (225, 2, .istore 10, 0, 0),
  (227, 3, .iinc 12 1, 1, 0), (230, 3, .goto (-59), 0, 171), (233, 2, .aload 4, 0, 0), (235, 2, .bipush 6, 6, 0),
  (237, 2, .iload 5, 0, 0), (239, 1, .imul, 0, 0), (240, 2, .iload 9, 0, 0), (242, 1, .iadd, 0, 0),
  (243, 1, .dup2, 0, 0), (244, 1, .iaload, 0, 0), (245, 2, .iload 10, 0, 0), (247, 2, .iload 8, 0, 0),
  (249, 3, .if_icmp .ge 7, 0, 256), (252, 1, .iconst 1, 1, 0), (253, 3, .goto 4, 0, 257), (256, 1, .iconst 0, 0, 0),
  (257, 1, .iadd, 0, 0), (258, 1, .iastore, 0, 0), (259, 1, .aload_n 1, 0, 0), (260, 1, .iconst 5, 5, 0),
  (261, 2, .iload 9, 0, 0), (263, 1, .imul, 0, 0), (264, 1, .iconst 2, 2, 0), (265, 1, .iadd, 0, 0),
  (266, 1, .dup2, 0, 0), (267, 1, .iaload, 0, 0), (268, 2, .iload 9, 0, 0), (270, 1, .aload_n 0, 0, 0),
  (271, 1, .iconst 2, 2, 0), (272, 1, .iaload, 0, 0), (273, 3, .if_icmp .ge 17, 0, 290), (276, 2, .aload 4, 0, 0),
  (278, 2, .bipush 6, 6, 0), (280, 2, .iload 5, 0, 0), (282, 1, .imul, 0, 0), (283, 2, .iload 9, 0, 0),
  (285, 1, .iadd, 0, 0), (286, 1, .iaload, 0, 0), (287, 3, .goto 4, 0, 291), (290, 1, .iconst 0, 0, 0),
  (291, 1, .iadd, 0, 0), (292, 1, .iastore, 0, 0), (293, 3, .iinc 9 1, 1, 0), (296, 3, .goto (-156), 0, 140),
  (299, 1, .aload_n 2, 0, 0), (300, 2, .bipush 8, 8, 0), (302, 2, .iload 5, 0, 0), (304, 1, .imul, 0, 0),
  (305, 1, .iconst 4, 4, 0), (306, 1, .iadd, 0, 0), (307, 1, .iconst 2, 2, 0), (308, 1, .iastore, 0, 0),
  (309, 1, .aload_n 2, 0, 0), (310, 2, .bipush 8, 8, 0), (312, 2, .iload 5, 0, 0), (314, 1, .imul, 0, 0),
  (315, 2, .bipush 6, 6, 0), (317, 1, .iadd, 0, 0), (318, 1, .aload_n 0, 0, 0), (319, 1, .iconst 0, 0, 0),
  (320, 1, .iaload, 0, 0), (321, 1, .iastore, 0, 0), (322, 1, .aload_n 2, 0, 0), (323, 2, .bipush 8, 8, 0),
  (325, 2, .iload 5, 0, 0), (327, 1, .imul, 0, 0), (328, 2, .bipush 7, 7, 0), (330, 1, .iadd, 0, 0),
  (331, 2, .iload 6, 0, 0), (333, 1, .iastore, 0, 0), (334, 1, .aload_n 0, 0, 0), (335, 2, .bipush 6, 6, 0),
  (337, 1, .dup2, 0, 0), (338, 1, .iaload, 0, 0), (339, 2, .iload 6, 0, 0), (341, 1, .iadd, 0, 0),
  (342, 1, .iastore, 0, 0), (343, 1, .return_, 0, 0)]
def kL_pays_0 : List fw_Ent := [
  (0, 1, .aload_n 0, 0, 0), (1, 1, .iconst 0, 0, 0), (2, 1, .iaload, 0, 0), (3, 1, .aload_n 2, 0, 0),
  (4, 2, .bipush 8, 8, 0), (6, 2, .iload 5, 0, 0), (8, 1, .imul, 0, 0), (9, 1, .iconst 2, 2, 0),
  (10, 1, .iadd, 0, 0), (11, 1, .iaload, 0, 0), (12, 3, .if_icmp .gt 15, 0, 27), (15, 1, .aload_n 2, 0, 0),
  (16, 2, .bipush 8, 8, 0), (18, 2, .iload 5, 0, 0), (20, 1, .imul, 0, 0), (21, 1, .iconst 3, 3, 0),
  (22, 1, .iadd, 0, 0), (23, 1, .iaload, 0, 0), (24, 3, .goto 14, 0, 38), (27, 1, .aload_n 2, 0, 0),
  (28, 2, .bipush 8, 8, 0), (30, 2, .iload 5, 0, 0), (32, 1, .imul, 0, 0), (33, 1, .iconst 3, 3, 0),
  (34, 1, .iadd, 0, 0), (35, 1, .iaload, 0, 0), (36, 1, .iconst 2, 2, 0), (37, 1, .idiv, 0, 0),
  (38, 2, .istore 6, 0, 0), (40, 1, .iconst 0, 0, 0), (41, 2, .istore 7, 0, 0), (43, 2, .iload 6, 0, 0),
  (45, 2, .istore 8, 0, 0), (47, 1, .iconst 0, 0, 0), (48, 2, .istore 9, 0, 0), (50, 2, .iload 9, 0, 0),
  (52, 2, .bipush 6, 6, 0), (54, 3, .if_icmp .ge 24, 0, 78), (57, 2, .iload 7, 0, 0), (59, 1, .aload_n 3, 0, 0),
  (60, 2, .bipush 6, 6, 0), (62, 2, .iload 5, 0, 0), (64, 1, .imul, 0, 0), (65, 2, .iload 9, 0, 0),
  (67, 1, .iadd, 0, 0), (68, 1, .iaload, 0, 0), (69, 1, .iadd, 0, 0), (70, 2, .istore 7, 0, 0),
  (72, 3, .iinc 9 1, 1, 0), (75, 3, .goto (-25), 0, 50)]
set_option maxRecDepth 100000 in
theorem kL_pays_0_ok : kL_pays_0.all (fw_rowq cL_pays 14) = true := by decide +kernel
def kL_pays_1 : List fw_Ent := [
  (78, 1, .iconst 0, 0, 0), (79, 2, .istore 9, 0, 0), (81, 2, .iload 9, 0, 0), (83, 2, .bipush 6, 6, 0),
  (85, 3, .if_icmp .ge 52, 0, 137), (88, 2, .aload 4, 0, 0), (90, 2, .bipush 6, 6, 0), (92, 2, .iload 5, 0, 0),
  (94, 1, .imul, 0, 0), (95, 2, .iload 9, 0, 0), (97, 1, .iadd, 0, 0), (98, 2, .iload 6, 0, 0),
  (100, 1, .aload_n 3, 0, 0), (101, 2, .bipush 6, 6, 0), (103, 2, .iload 5, 0, 0), (105, 1, .imul, 0, 0),
  (106, 2, .iload 9, 0, 0), (108, 1, .iadd, 0, 0), (109, 1, .iaload, 0, 0), (110, 1, .imul, 0, 0),
  (111, 2, .iload 7, 0, 0), (113, 1, .idiv, 0, 0), (114, 1, .iastore, 0, 0), (115, 2, .iload 8, 0, 0),
  (117, 2, .aload 4, 0, 0), (119, 2, .bipush 6, 6, 0), (121, 2, .iload 5, 0, 0), (123, 1, .imul, 0, 0),
  (124, 2, .iload 9, 0, 0), (126, 1, .iadd, 0, 0), (127, 1, .iaload, 0, 0), (128, 1, .isub, 0, 0),
  (129, 2, .istore 8, 0, 0), (131, 3, .iinc 9 1, 1, 0), (134, 3, .goto (-53), 0, 81), (137, 1, .iconst 0, 0, 0),
  (138, 2, .istore 9, 0, 0), (140, 2, .iload 9, 0, 0), (142, 2, .bipush 6, 6, 0), (144, 3, .if_icmp .ge 155, 0, 299),
  (147, 1, .iconst 0, 0, 0), (148, 2, .istore 10, 0, 0), (150, 2, .iload 6, 0, 0), (152, 1, .aload_n 3, 0, 0),
  (153, 2, .bipush 6, 6, 0), (155, 2, .iload 5, 0, 0), (157, 1, .imul, 0, 0), (158, 2, .iload 9, 0, 0),
  (160, 1, .iadd, 0, 0), (161, 1, .iaload, 0, 0)]
set_option maxRecDepth 100000 in
theorem kL_pays_1_ok : kL_pays_1.all (fw_rowq cL_pays 14) = true := by decide +kernel
def kL_pays_2 : List fw_Ent := [
  (162, 1, .imul, 0, 0), (163, 2, .iload 7, 0, 0), (165, 1, .irem, 0, 0), (166, 2, .istore 11, 0, 0),
  (168, 1, .iconst 0, 0, 0), (169, 2, .istore 12, 0, 0), (171, 2, .iload 12, 0, 0), (173, 2, .bipush 6, 6, 0),
  (175, 3, .if_icmp .ge 58, 0, 233), (178, 2, .iload 6, 0, 0), (180, 1, .aload_n 3, 0, 0), (181, 2, .bipush 6, 6, 0),
  (183, 2, .iload 5, 0, 0), (185, 1, .imul, 0, 0), (186, 2, .iload 12, 0, 0), (188, 1, .iadd, 0, 0),
  (189, 1, .iaload, 0, 0), (190, 1, .imul, 0, 0), (191, 2, .iload 7, 0, 0), (193, 1, .irem, 0, 0),
  (194, 2, .istore 13, 0, 0), (196, 2, .iload 10, 0, 0), (198, 2, .iload 13, 0, 0), (200, 2, .iload 11, 0, 0),
  (202, 3, .if_icmp .gt 17, 0, 219), (205, 2, .iload 13, 0, 0), (207, 2, .iload 11, 0, 0), (209, 3, .if_icmp .ne 14, 0, 223),
  (212, 2, .iload 12, 0, 0), (214, 2, .iload 9, 0, 0), (216, 3, .if_icmp .ge 7, 0, 223), (219, 1, .iconst 1, 1, 0),
  (220, 3, .goto 4, 0, 224), (223, 1, .iconst 0, 0, 0), (224, 1, .iadd, 0, 0), (225, 2, .istore 10, 0, 0),
  (227, 3, .iinc 12 1, 1, 0), (230, 3, .goto (-59), 0, 171), (233, 2, .aload 4, 0, 0), (235, 2, .bipush 6, 6, 0),
  (237, 2, .iload 5, 0, 0), (239, 1, .imul, 0, 0), (240, 2, .iload 9, 0, 0), (242, 1, .iadd, 0, 0),
  (243, 1, .dup2, 0, 0), (244, 1, .iaload, 0, 0), (245, 2, .iload 10, 0, 0), (247, 2, .iload 8, 0, 0),
  (249, 3, .if_icmp .ge 7, 0, 256), (252, 1, .iconst 1, 1, 0)]
set_option maxRecDepth 100000 in
theorem kL_pays_2_ok : kL_pays_2.all (fw_rowq cL_pays 14) = true := by decide +kernel
def kL_pays_3 : List fw_Ent := [
  (253, 3, .goto 4, 0, 257), (256, 1, .iconst 0, 0, 0), (257, 1, .iadd, 0, 0), (258, 1, .iastore, 0, 0),
  (259, 1, .aload_n 1, 0, 0), (260, 1, .iconst 5, 5, 0), (261, 2, .iload 9, 0, 0), (263, 1, .imul, 0, 0),
  (264, 1, .iconst 2, 2, 0), (265, 1, .iadd, 0, 0), (266, 1, .dup2, 0, 0), (267, 1, .iaload, 0, 0),
  (268, 2, .iload 9, 0, 0), (270, 1, .aload_n 0, 0, 0), (271, 1, .iconst 2, 2, 0), (272, 1, .iaload, 0, 0),
  (273, 3, .if_icmp .ge 17, 0, 290), (276, 2, .aload 4, 0, 0), (278, 2, .bipush 6, 6, 0), (280, 2, .iload 5, 0, 0),
  (282, 1, .imul, 0, 0), (283, 2, .iload 9, 0, 0), (285, 1, .iadd, 0, 0), (286, 1, .iaload, 0, 0),
  (287, 3, .goto 4, 0, 291), (290, 1, .iconst 0, 0, 0), (291, 1, .iadd, 0, 0), (292, 1, .iastore, 0, 0),
  (293, 3, .iinc 9 1, 1, 0), (296, 3, .goto (-156), 0, 140), (299, 1, .aload_n 2, 0, 0), (300, 2, .bipush 8, 8, 0),
  (302, 2, .iload 5, 0, 0), (304, 1, .imul, 0, 0), (305, 1, .iconst 4, 4, 0), (306, 1, .iadd, 0, 0),
  (307, 1, .iconst 2, 2, 0), (308, 1, .iastore, 0, 0), (309, 1, .aload_n 2, 0, 0), (310, 2, .bipush 8, 8, 0),
  (312, 2, .iload 5, 0, 0), (314, 1, .imul, 0, 0), (315, 2, .bipush 6, 6, 0), (317, 1, .iadd, 0, 0),
  (318, 1, .aload_n 0, 0, 0), (319, 1, .iconst 0, 0, 0), (320, 1, .iaload, 0, 0), (321, 1, .iastore, 0, 0),
  (322, 1, .aload_n 2, 0, 0), (323, 2, .bipush 8, 8, 0)]
set_option maxRecDepth 100000 in
theorem kL_pays_3_ok : kL_pays_3.all (fw_rowq cL_pays 14) = true := by decide +kernel
def kL_pays_4 : List fw_Ent := [
  (325, 2, .iload 5, 0, 0), (327, 1, .imul, 0, 0), (328, 2, .bipush 7, 7, 0), (330, 1, .iadd, 0, 0),
  (331, 2, .iload 6, 0, 0), (333, 1, .iastore, 0, 0), (334, 1, .aload_n 0, 0, 0), (335, 2, .bipush 6, 6, 0),
  (337, 1, .dup2, 0, 0), (338, 1, .iaload, 0, 0), (339, 2, .iload 6, 0, 0), (341, 1, .iadd, 0, 0),
  (342, 1, .iastore, 0, 0), (343, 1, .return_, 0, 0)]
set_option maxRecDepth 100000 in
theorem kL_pays_4_ok : kL_pays_4.all (fw_rowq cL_pays 14) = true := by decide +kernel
set_option maxRecDepth 100000 in
theorem kL_pays_eq : kL_pays = kL_pays_0 ++ (kL_pays_1 ++ (kL_pays_2 ++ (kL_pays_3 ++ (kL_pays_4)))) := rfl
theorem kL_pays_all : kL_pays.all (fw_rowq cL_pays 14) = true := by
  rw [kL_pays_eq]
  simp only [List.all_append, Bool.and_eq_true]
  exact ⟨kL_pays_0_ok, ⟨kL_pays_1_ok, ⟨kL_pays_2_ok, ⟨kL_pays_3_ok, kL_pays_4_ok⟩⟩⟩⟩
set_option maxRecDepth 100000 in
theorem kL_pays_chain : fw_chain kL_pays = true := by decide +kernel
theorem kL_pays_ok : fw_chk cL_pays 14 kL_pays = true := by
  show (kL_pays.all (fw_rowq cL_pays 14) && fw_chain kL_pays) = true
  rw [kL_pays_all, kL_pays_chain]
  rfl
set_option maxRecDepth 100000 in
theorem kL_pays_cst : ∀ en ∈ kL_pays, fw_CstOK RL [] en := by
  have h : kL_pays.all (fw_cstq cp_L) = true := by decide +kernel
  exact fun en he => fw_cstX cp_L_ok (fun i v hq => nomatch hq) (List.all_eq_true.mp h en he)
def kL_free : List fw_Ent := [
  (0, 1, .aload_n 0, 0, 0), (1, 1, .iconst 5, 5, 0), (2, 1, .iload_n 1, 0, 0), (3, 1, .imul, 0, 0),
  (4, 1, .iconst 3, 3, 0), (5, 1, .iadd, 0, 0), (6, 1, .iconst 0, 0, 0), (7, 1, .iastore, 0, 0),
  (8, 1, .aload_n 0, 0, 0), (9, 1, .iconst 5, 5, 0), (10, 1, .iload_n 1, 0, 0), (11, 1, .imul, 0, 0),
  (12, 1, .iconst 4, 4, 0), (13, 1, .iadd, 0, 0), (14, 1, .iconst (-1), (-1), 0), (15, 1, .iastore, 0, 0),
  (16, 1, .return_, 0, 0)]
theorem kL_free_ok : fw_chk cL_free 2 kL_free = true := by decide +kernel
set_option maxRecDepth 100000 in
theorem kL_free_cst : ∀ en ∈ kL_free, fw_CstOK RL [] en := by
  have h : kL_free.all (fw_cstq cp_L) = true := by decide +kernel
  exact fun en he => fw_cstX cp_L_ok (fun i v hq => nomatch hq) (List.all_eq_true.mp h en he)
def kL_does : List fw_Ent := [
  (0, 1, .iconst 5, 5, 0), (1, 2, .iload 5, 0, 0), (3, 1, .imul, 0, 0), (4, 2, .istore 6, 0, 0),
  (6, 1, .aload_n 1, 0, 0), (7, 2, .iload 6, 0, 0), (9, 1, .iconst 4, 4, 0), (10, 1, .iadd, 0, 0),
  (11, 1, .iaload, 0, 0), (12, 2, .istore 7, 0, 0), (14, 1, .aload_n 1, 0, 0), (15, 2, .iload 6, 0, 0),
  (17, 1, .iconst 3, 3, 0), (18, 1, .iadd, 0, 0), (19, 1, .iaload, 0, 0), (20, 1, .iconst 2, 2, 0),
  (21, 3, .if_icmp .ne 131, 0, 152), (24, 1, .aload_n 1, 0, 0), (25, 2, .iload 6, 0, 0), (27, 1, .iconst 1, 1, 0),
  (28, 1, .iadd, 0, 0), (29, 1, .iaload, 0, 0), (30, 1, .aload_n 2, 0, 0), (31, 2, .bipush 8, 8, 0),
  (33, 2, .iload 7, 0, 0), (35, 1, .imul, 0, 0), (36, 1, .iconst 1, 1, 0), (37, 1, .iadd, 0, 0),
  (38, 1, .iaload, 0, 0), (39, 3, .invokestatic 15, 0, 0), (42, 2, .istore 8, 0, 0), (44, 1, .aload_n 1, 0, 0),
  (45, 2, .iload 6, 0, 0), (47, 1, .iaload, 0, 0), (48, 2, .iload 8, 0, 0), (50, 3, .invokestatic 9, 0, 0),
  (53, 3, .ifCond .ne 27, 0, 80), (56, 1, .aload_n 2, 0, 0), (57, 2, .bipush 8, 8, 0), (59, 2, .iload 7, 0, 0),
  (61, 1, .imul, 0, 0), (62, 1, .iconst 4, 4, 0), (63, 1, .iadd, 0, 0), (64, 1, .iconst 0, 0, 0),
  (65, 1, .iastore, 0, 0), (66, 1, .aload_n 0, 0, 0), (67, 1, .iconst 4, 4, 0), (68, 1, .dup2, 0, 0),
  (69, 1, .iaload, 0, 0), (70, 1, .iconst 1, 1, 0), (71, 1, .iadd, 0, 0), (72, 1, .iastore, 0, 0),
  (73, 1, .aload_n 1, 0, 0), (74, 2, .iload 5, 0, 0), (76, 3, .invokestatic 19, 0, 0), (79, 1, .return_, 0, 0),
  (80, 1, .aload_n 1, 0, 0), (81, 2, .iload 6, 0, 0), (83, 1, .iconst 1, 1, 0), (84, 1, .iadd, 0, 0),
  (85, 2, .iload 8, 0, 0), (87, 1, .iastore, 0, 0), (88, 1, .aload_n 2, 0, 0), (89, 2, .bipush 8, 8, 0),
  (91, 2, .iload 7, 0, 0), (93, 1, .imul, 0, 0), (94, 1, .iconst 5, 5, 0), (95, 1, .iadd, 0, 0),
  (96, 2, .iload 8, 0, 0), (98, 1, .iastore, 0, 0), (99, 1, .aload_n 3, 0, 0), (100, 2, .bipush 6, 6, 0),
  (102, 2, .iload 7, 0, 0), (104, 1, .imul, 0, 0), (105, 2, .iload 5, 0, 0), (107, 1, .iadd, 0, 0),
  (108, 1, .dup2, 0, 0), (109, 1, .iaload, 0, 0), (110, 1, .iconst 1, 1, 0), (111, 1, .iadd, 0, 0),
  (112, 1, .iastore, 0, 0), (113, 1, .aload_n 0, 0, 0), (114, 1, .iconst 5, 5, 0), (115, 1, .dup2, 0, 0),
  (116, 1, .iaload, 0, 0), (117, 1, .iconst 1, 1, 0), (118, 1, .iadd, 0, 0), (119, 1, .iastore, 0, 0),
  (120, 2, .iload 8, 0, 0), (122, 1, .aload_n 2, 0, 0), (123, 2, .bipush 8, 8, 0), (125, 2, .iload 7, 0, 0),
  (127, 1, .imul, 0, 0), (128, 1, .iconst 1, 1, 0), (129, 1, .iadd, 0, 0), (130, 1, .iaload, 0, 0),
  (131, 3, .if_icmp .ne 20, 0, 151), (134, 1, .aload_n 0, 0, 0), (135, 1, .aload_n 1, 0, 0), (136, 1, .aload_n 2, 0, 0),
  (137, 1, .aload_n 3, 0, 0), (138, 2, .aload 4, 0, 0), (140, 2, .iload 7, 0, 0), (142, 3, .invokestatic 23, 0, 0),
  (145, 1, .aload_n 1, 0, 0), (146, 2, .iload 5, 0, 0), (148, 3, .invokestatic 19, 0, 0), (151, 1, .return_, 0, 0),
  (152, 1, .aload_n 1, 0, 0), (153, 2, .iload 6, 0, 0), (155, 1, .iconst 3, 3, 0), (156, 1, .iadd, 0, 0),
  (157, 1, .iaload, 0, 0), (158, 1, .iconst 1, 1, 0), (159, 3, .if_icmp .ne 116, 0, 275), (162, 1, .aload_n 2, 0, 0),
  (163, 2, .bipush 8, 8, 0), (165, 2, .iload 7, 0, 0), (167, 1, .imul, 0, 0), (168, 1, .iconst 4, 4, 0),
  (169, 1, .iadd, 0, 0), (170, 1, .iaload, 0, 0), (171, 3, .ifCond .ne 104, 0, 275), (174, 1, .aload_n 1, 0, 0),
  (175, 2, .iload 6, 0, 0), (177, 1, .iconst 1, 1, 0), (178, 1, .iadd, 0, 0), (179, 1, .iaload, 0, 0),
  (180, 1, .aload_n 2, 0, 0), (181, 2, .bipush 8, 8, 0), (183, 2, .iload 7, 0, 0), (185, 1, .imul, 0, 0),
  (186, 1, .iconst 5, 5, 0), (187, 1, .iadd, 0, 0), (188, 1, .iaload, 0, 0), (189, 3, .if_icmp .ne 7, 0, 196),
  (192, 1, .iconst 1, 1, 0), (193, 3, .goto 4, 0, 197), (196, 1, .iconst 0, 0, 0), (197, 2, .istore 8, 0, 0),
  (199, 1, .aload_n 1, 0, 0), (200, 2, .iload 6, 0, 0), (202, 1, .iconst 3, 3, 0), (203, 1, .iadd, 0, 0),
  (204, 2, .iload 8, 0, 0), (206, 3, .ifCond .eq 7, 0, 213), (209, 1, .iconst 2, 2, 0), (210, 3, .goto 4, 0, 214),
  (213, 1, .iconst 1, 1, 0), (214, 1, .iastore, 0, 0), (215, 1, .aload_n 2, 0, 0), (216, 2, .bipush 8, 8, 0),
  (218, 2, .iload 7, 0, 0), (220, 1, .imul, 0, 0), (221, 1, .iconst 4, 4, 0), (222, 1, .iadd, 0, 0),
  (223, 2, .iload 8, 0, 0), (225, 3, .ifCond .eq 7, 0, 232), (228, 1, .iconst 1, 1, 0), (229, 3, .goto 4, 0, 233),
  (232, 1, .iconst 0, 0, 0), (233, 1, .iastore, 0, 0), (234, 1, .aload_n 0, 0, 0), (235, 1, .iconst 5, 5, 0),
  (236, 1, .dup2, 0, 0), (237, 1, .iaload, 0, 0), (238, 2, .iload 8, 0, 0), (240, 3, .ifCond .eq 7, 0, 247),
  (243, 1, .iconst 0, 0, 0), (244, 3, .goto 4, 0, 248), (247, 1, .iconst 1, 1, 0), (248, 1, .iadd, 0, 0),
  (249, 1, .iastore, 0, 0), (250, 1, .aload_n 1, 0, 0), (251, 2, .iload 6, 0, 0), (253, 1, .iconst 1, 1, 0),
  (254, 1, .iadd, 0, 0), (255, 1, .aload_n 1, 0, 0), (256, 2, .iload 6, 0, 0), (258, 1, .iconst 1, 1, 0),
  (259, 1, .iadd, 0, 0), (260, 1, .iaload, 0, 0), (261, 1, .aload_n 2, 0, 0), (262, 2, .bipush 8, 8, 0),
  (264, 2, .iload 7, 0, 0), (266, 1, .imul, 0, 0), (267, 1, .iconst 5, 5, 0), (268, 1, .iadd, 0, 0),
  (269, 1, .iaload, 0, 0), (270, 3, .invokestatic 15, 0, 0), (273, 1, .iastore, 0, 0), (274, 1, .return_, 0, 0),
  (275, 1, .iconst (-1), (-1), 0), (276, 2, .istore 8, 0, 0), (278, 1, .aload_n 0, 0, 0), (279, 1, .iconst 3, 3, 0),
  (280, 1, .iaload, 0, 0), (281, 1, .iconst 1, 1, 0), (282, 1, .isub, 0, 0), (283, 2, .istore 9, 0, 0),
  (285, 2, .iload 9, 0, 0), (287, 3, .ifCond .lt 141, 0, 428), (290, 1, .aload_n 2, 0, 0), (291, 2, .bipush 8, 8, 0),
  (293, 2, .iload 9, 0, 0), (295, 1, .imul, 0, 0), (296, 1, .iconst 4, 4, 0), (297, 1, .iadd, 0, 0),
  (298, 1, .iaload, 0, 0), (299, 3, .ifCond .ne 19, 0, 318), (302, 1, .aload_n 1, 0, 0), (303, 1, .aload_n 2, 0, 0),
  (304, 2, .iload 5, 0, 0), (306, 2, .iload 9, 0, 0), (308, 3, .invokestatic 27, 0, 0), (311, 3, .ifCond .eq 7, 0, 318),
  (314, 1, .iconst 1, 1, 0), (315, 3, .goto 4, 0, 319), (318, 1, .iconst 0, 0, 0), (319, 2, .istore 10, 0, 0),
  (321, 1, .iconst 0, 0, 0), (322, 2, .istore 11, 0, 0), (324, 2, .iload 11, 0, 0), (326, 1, .aload_n 0, 0, 0),
  (327, 1, .iconst 2, 2, 0), (328, 1, .iaload, 0, 0), (329, 3, .if_icmp .ge 53, 0, 382), (332, 2, .iload 10, 0, 0),
  (334, 3, .ifCond .eq 39, 0, 373), (337, 2, .iload 11, 0, 0), (339, 2, .iload 5, 0, 0), (341, 3, .if_icmp .eq 28, 0, 369),
  (344, 1, .aload_n 1, 0, 0), (345, 1, .iconst 5, 5, 0), (346, 2, .iload 11, 0, 0), (348, 1, .imul, 0, 0),
  (349, 1, .iconst 3, 3, 0), (350, 1, .iadd, 0, 0), (351, 1, .iaload, 0, 0), (352, 1, .iconst 1, 1, 0),
  (353, 3, .if_icmp .ne 16, 0, 369), (356, 1, .aload_n 1, 0, 0), (357, 1, .iconst 5, 5, 0), (358, 2, .iload 11, 0, 0),
  (360, 1, .imul, 0, 0), (361, 1, .iconst 4, 4, 0), (362, 1, .iadd, 0, 0), (363, 1, .iaload, 0, 0),
  (364, 2, .iload 9, 0, 0), (366, 3, .if_icmp .eq 7, 0, 373), (369, 1, .iconst 1, 1, 0), (370, 3, .goto 4, 0, 374),
  (373, 1, .iconst 0, 0, 0), (374, 2, .istore 10, 0, 0), (376, 3, .iinc 11 1, 1, 0), (379, 3, .goto (-55), 0, 324),
  (382, 2, .iload 10, 0, 0), (384, 3, .ifCond .eq 34, 0, 418), (387, 2, .iload 8, 0, 0), (389, 3, .ifCond .lt 24, 0, 413),
  (392, 1, .aload_n 2, 0, 0), (393, 2, .bipush 8, 8, 0), (395, 2, .iload 9, 0, 0), (397, 1, .imul, 0, 0),
  (398, 1, .iconst 2, 2, 0), (399, 1, .iadd, 0, 0), (400, 1, .iaload, 0, 0), (401, 1, .aload_n 2, 0, 0),
  (402, 2, .bipush 8, 8, 0), (404, 2, .iload 8, 0, 0), (406, 1, .imul, 0, 0), (407, 1, .iconst 2, 2, 0),
  (408, 1, .iadd, 0, 0), (409, 1, .iaload, 0, 0), (410, 3, .if_icmp .gt 8, 0, 418), (413, 2, .iload 9, 0, 0),
  (415, 3, .goto 5, 0, 420), (418, 2, .iload 8, 0, 0), (420, 2, .istore 8, 0, 0), (422, 3, .iinc 9 (-1), (-1), 0),
  (425, 3, .goto (-140), 0, 285), (428, 1, .aload_n 1, 0, 0), (429, 2, .iload 6, 0, 0), (431, 1, .iconst 3, 3, 0),
  (432, 1, .iadd, 0, 0), (433, 2, .iload 8, 0, 0), (435, 3, .ifCond .ge 7, 0, 442), (438, 1, .iconst 0, 0, 0),
  (439, 3, .goto 4, 0, 443), (442, 1, .iconst 1, 1, 0), (443, 1, .iastore, 0, 0), (444, 1, .aload_n 1, 0, 0),
  (445, 2, .iload 6, 0, 0), (447, 1, .iconst 4, 4, 0), (448, 1, .iadd, 0, 0), (449, 2, .iload 8, 0, 0),
  (451, 1, .iastore, 0, 0), (452, 1, .return_, 0, 0)]
def kL_does_0 : List fw_Ent := [
  (0, 1, .iconst 5, 5, 0), (1, 2, .iload 5, 0, 0), (3, 1, .imul, 0, 0), (4, 2, .istore 6, 0, 0),
  (6, 1, .aload_n 1, 0, 0), (7, 2, .iload 6, 0, 0), (9, 1, .iconst 4, 4, 0), (10, 1, .iadd, 0, 0),
  (11, 1, .iaload, 0, 0), (12, 2, .istore 7, 0, 0), (14, 1, .aload_n 1, 0, 0), (15, 2, .iload 6, 0, 0),
  (17, 1, .iconst 3, 3, 0), (18, 1, .iadd, 0, 0), (19, 1, .iaload, 0, 0), (20, 1, .iconst 2, 2, 0),
  (21, 3, .if_icmp .ne 131, 0, 152), (24, 1, .aload_n 1, 0, 0), (25, 2, .iload 6, 0, 0), (27, 1, .iconst 1, 1, 0),
  (28, 1, .iadd, 0, 0), (29, 1, .iaload, 0, 0), (30, 1, .aload_n 2, 0, 0), (31, 2, .bipush 8, 8, 0),
  (33, 2, .iload 7, 0, 0), (35, 1, .imul, 0, 0), (36, 1, .iconst 1, 1, 0), (37, 1, .iadd, 0, 0),
  (38, 1, .iaload, 0, 0), (39, 3, .invokestatic 15, 0, 0), (42, 2, .istore 8, 0, 0), (44, 1, .aload_n 1, 0, 0),
  (45, 2, .iload 6, 0, 0), (47, 1, .iaload, 0, 0), (48, 2, .iload 8, 0, 0), (50, 3, .invokestatic 9, 0, 0),
  (53, 3, .ifCond .ne 27, 0, 80), (56, 1, .aload_n 2, 0, 0), (57, 2, .bipush 8, 8, 0), (59, 2, .iload 7, 0, 0),
  (61, 1, .imul, 0, 0), (62, 1, .iconst 4, 4, 0), (63, 1, .iadd, 0, 0), (64, 1, .iconst 0, 0, 0),
  (65, 1, .iastore, 0, 0), (66, 1, .aload_n 0, 0, 0), (67, 1, .iconst 4, 4, 0), (68, 1, .dup2, 0, 0),
  (69, 1, .iaload, 0, 0), (70, 1, .iconst 1, 1, 0)]
set_option maxRecDepth 100000 in
theorem kL_does_0_ok : kL_does_0.all (fw_rowq cL_does 12) = true := by decide +kernel
def kL_does_1 : List fw_Ent := [
  (71, 1, .iadd, 0, 0), (72, 1, .iastore, 0, 0), (73, 1, .aload_n 1, 0, 0), (74, 2, .iload 5, 0, 0),
  (76, 3, .invokestatic 19, 0, 0), (79, 1, .return_, 0, 0), (80, 1, .aload_n 1, 0, 0), (81, 2, .iload 6, 0, 0),
  (83, 1, .iconst 1, 1, 0), (84, 1, .iadd, 0, 0), (85, 2, .iload 8, 0, 0), (87, 1, .iastore, 0, 0),
  (88, 1, .aload_n 2, 0, 0), (89, 2, .bipush 8, 8, 0), (91, 2, .iload 7, 0, 0), (93, 1, .imul, 0, 0),
  (94, 1, .iconst 5, 5, 0), (95, 1, .iadd, 0, 0), (96, 2, .iload 8, 0, 0), (98, 1, .iastore, 0, 0),
  (99, 1, .aload_n 3, 0, 0), (100, 2, .bipush 6, 6, 0), (102, 2, .iload 7, 0, 0), (104, 1, .imul, 0, 0),
  (105, 2, .iload 5, 0, 0), (107, 1, .iadd, 0, 0), (108, 1, .dup2, 0, 0), (109, 1, .iaload, 0, 0),
  (110, 1, .iconst 1, 1, 0), (111, 1, .iadd, 0, 0), (112, 1, .iastore, 0, 0), (113, 1, .aload_n 0, 0, 0),
  (114, 1, .iconst 5, 5, 0), (115, 1, .dup2, 0, 0), (116, 1, .iaload, 0, 0), (117, 1, .iconst 1, 1, 0),
  (118, 1, .iadd, 0, 0), (119, 1, .iastore, 0, 0), (120, 2, .iload 8, 0, 0), (122, 1, .aload_n 2, 0, 0),
  (123, 2, .bipush 8, 8, 0), (125, 2, .iload 7, 0, 0), (127, 1, .imul, 0, 0), (128, 1, .iconst 1, 1, 0),
  (129, 1, .iadd, 0, 0), (130, 1, .iaload, 0, 0), (131, 3, .if_icmp .ne 20, 0, 151), (134, 1, .aload_n 0, 0, 0),
  (135, 1, .aload_n 1, 0, 0), (136, 1, .aload_n 2, 0, 0)]
set_option maxRecDepth 100000 in
theorem kL_does_1_ok : kL_does_1.all (fw_rowq cL_does 12) = true := by decide +kernel
def kL_does_2 : List fw_Ent := [
  (137, 1, .aload_n 3, 0, 0), (138, 2, .aload 4, 0, 0), (140, 2, .iload 7, 0, 0), (142, 3, .invokestatic 23, 0, 0),
  (145, 1, .aload_n 1, 0, 0), (146, 2, .iload 5, 0, 0), (148, 3, .invokestatic 19, 0, 0), (151, 1, .return_, 0, 0),
  (152, 1, .aload_n 1, 0, 0), (153, 2, .iload 6, 0, 0), (155, 1, .iconst 3, 3, 0), (156, 1, .iadd, 0, 0),
  (157, 1, .iaload, 0, 0), (158, 1, .iconst 1, 1, 0), (159, 3, .if_icmp .ne 116, 0, 275), (162, 1, .aload_n 2, 0, 0),
  (163, 2, .bipush 8, 8, 0), (165, 2, .iload 7, 0, 0), (167, 1, .imul, 0, 0), (168, 1, .iconst 4, 4, 0),
  (169, 1, .iadd, 0, 0), (170, 1, .iaload, 0, 0), (171, 3, .ifCond .ne 104, 0, 275), (174, 1, .aload_n 1, 0, 0),
  (175, 2, .iload 6, 0, 0), (177, 1, .iconst 1, 1, 0), (178, 1, .iadd, 0, 0), (179, 1, .iaload, 0, 0),
  (180, 1, .aload_n 2, 0, 0), (181, 2, .bipush 8, 8, 0), (183, 2, .iload 7, 0, 0), (185, 1, .imul, 0, 0),
  (186, 1, .iconst 5, 5, 0), (187, 1, .iadd, 0, 0), (188, 1, .iaload, 0, 0), (189, 3, .if_icmp .ne 7, 0, 196),
  (192, 1, .iconst 1, 1, 0), (193, 3, .goto 4, 0, 197), (196, 1, .iconst 0, 0, 0), (197, 2, .istore 8, 0, 0),
  (199, 1, .aload_n 1, 0, 0), (200, 2, .iload 6, 0, 0), (202, 1, .iconst 3, 3, 0), (203, 1, .iadd, 0, 0),
  (204, 2, .iload 8, 0, 0), (206, 3, .ifCond .eq 7, 0, 213), (209, 1, .iconst 2, 2, 0), (210, 3, .goto 4, 0, 214),
  (213, 1, .iconst 1, 1, 0), (214, 1, .iastore, 0, 0)]
set_option maxRecDepth 100000 in
theorem kL_does_2_ok : kL_does_2.all (fw_rowq cL_does 12) = true := by decide +kernel
def kL_does_3 : List fw_Ent := [
  (215, 1, .aload_n 2, 0, 0), (216, 2, .bipush 8, 8, 0), (218, 2, .iload 7, 0, 0), (220, 1, .imul, 0, 0),
  (221, 1, .iconst 4, 4, 0), (222, 1, .iadd, 0, 0), (223, 2, .iload 8, 0, 0), (225, 3, .ifCond .eq 7, 0, 232),
  (228, 1, .iconst 1, 1, 0), (229, 3, .goto 4, 0, 233), (232, 1, .iconst 0, 0, 0), (233, 1, .iastore, 0, 0),
  (234, 1, .aload_n 0, 0, 0), (235, 1, .iconst 5, 5, 0), (236, 1, .dup2, 0, 0), (237, 1, .iaload, 0, 0),
  (238, 2, .iload 8, 0, 0), (240, 3, .ifCond .eq 7, 0, 247), (243, 1, .iconst 0, 0, 0), (244, 3, .goto 4, 0, 248),
  (247, 1, .iconst 1, 1, 0), (248, 1, .iadd, 0, 0), (249, 1, .iastore, 0, 0), (250, 1, .aload_n 1, 0, 0),
  (251, 2, .iload 6, 0, 0), (253, 1, .iconst 1, 1, 0), (254, 1, .iadd, 0, 0), (255, 1, .aload_n 1, 0, 0),
  (256, 2, .iload 6, 0, 0), (258, 1, .iconst 1, 1, 0), (259, 1, .iadd, 0, 0), (260, 1, .iaload, 0, 0),
  (261, 1, .aload_n 2, 0, 0), (262, 2, .bipush 8, 8, 0), (264, 2, .iload 7, 0, 0), (266, 1, .imul, 0, 0),
  (267, 1, .iconst 5, 5, 0), (268, 1, .iadd, 0, 0), (269, 1, .iaload, 0, 0), (270, 3, .invokestatic 15, 0, 0),
  (273, 1, .iastore, 0, 0), (274, 1, .return_, 0, 0), (275, 1, .iconst (-1), (-1), 0), (276, 2, .istore 8, 0, 0),
  (278, 1, .aload_n 0, 0, 0), (279, 1, .iconst 3, 3, 0), (280, 1, .iaload, 0, 0), (281, 1, .iconst 1, 1, 0),
  (282, 1, .isub, 0, 0), (283, 2, .istore 9, 0, 0)]
set_option maxRecDepth 100000 in
theorem kL_does_3_ok : kL_does_3.all (fw_rowq cL_does 12) = true := by decide +kernel
def kL_does_4 : List fw_Ent := [
  (285, 2, .iload 9, 0, 0), (287, 3, .ifCond .lt 141, 0, 428), (290, 1, .aload_n 2, 0, 0), (291, 2, .bipush 8, 8, 0),
  (293, 2, .iload 9, 0, 0), (295, 1, .imul, 0, 0), (296, 1, .iconst 4, 4, 0), (297, 1, .iadd, 0, 0),
  (298, 1, .iaload, 0, 0), (299, 3, .ifCond .ne 19, 0, 318), (302, 1, .aload_n 1, 0, 0), (303, 1, .aload_n 2, 0, 0),
  (304, 2, .iload 5, 0, 0), (306, 2, .iload 9, 0, 0), (308, 3, .invokestatic 27, 0, 0), (311, 3, .ifCond .eq 7, 0, 318),
  (314, 1, .iconst 1, 1, 0), (315, 3, .goto 4, 0, 319), (318, 1, .iconst 0, 0, 0), (319, 2, .istore 10, 0, 0),
  (321, 1, .iconst 0, 0, 0), (322, 2, .istore 11, 0, 0), (324, 2, .iload 11, 0, 0), (326, 1, .aload_n 0, 0, 0),
  (327, 1, .iconst 2, 2, 0), (328, 1, .iaload, 0, 0), (329, 3, .if_icmp .ge 53, 0, 382), (332, 2, .iload 10, 0, 0),
  (334, 3, .ifCond .eq 39, 0, 373), (337, 2, .iload 11, 0, 0), (339, 2, .iload 5, 0, 0), (341, 3, .if_icmp .eq 28, 0, 369),
  (344, 1, .aload_n 1, 0, 0), (345, 1, .iconst 5, 5, 0), (346, 2, .iload 11, 0, 0), (348, 1, .imul, 0, 0),
  (349, 1, .iconst 3, 3, 0), (350, 1, .iadd, 0, 0), (351, 1, .iaload, 0, 0), (352, 1, .iconst 1, 1, 0),
  (353, 3, .if_icmp .ne 16, 0, 369), (356, 1, .aload_n 1, 0, 0), (357, 1, .iconst 5, 5, 0), (358, 2, .iload 11, 0, 0),
  (360, 1, .imul, 0, 0), (361, 1, .iconst 4, 4, 0), (362, 1, .iadd, 0, 0), (363, 1, .iaload, 0, 0),
  (364, 2, .iload 9, 0, 0), (366, 3, .if_icmp .eq 7, 0, 373)]
set_option maxRecDepth 100000 in
theorem kL_does_4_ok : kL_does_4.all (fw_rowq cL_does 12) = true := by decide +kernel
def kL_does_5 : List fw_Ent := [
  (369, 1, .iconst 1, 1, 0), (370, 3, .goto 4, 0, 374), (373, 1, .iconst 0, 0, 0), (374, 2, .istore 10, 0, 0),
  (376, 3, .iinc 11 1, 1, 0), (379, 3, .goto (-55), 0, 324), (382, 2, .iload 10, 0, 0), (384, 3, .ifCond .eq 34, 0, 418),
  (387, 2, .iload 8, 0, 0), (389, 3, .ifCond .lt 24, 0, 413), (392, 1, .aload_n 2, 0, 0), (393, 2, .bipush 8, 8, 0),
  (395, 2, .iload 9, 0, 0), (397, 1, .imul, 0, 0), (398, 1, .iconst 2, 2, 0), (399, 1, .iadd, 0, 0),
  (400, 1, .iaload, 0, 0), (401, 1, .aload_n 2, 0, 0), (402, 2, .bipush 8, 8, 0), (404, 2, .iload 8, 0, 0),
  (406, 1, .imul, 0, 0), (407, 1, .iconst 2, 2, 0), (408, 1, .iadd, 0, 0), (409, 1, .iaload, 0, 0),
  (410, 3, .if_icmp .gt 8, 0, 418), (413, 2, .iload 9, 0, 0), (415, 3, .goto 5, 0, 420), (418, 2, .iload 8, 0, 0),
  (420, 2, .istore 8, 0, 0), (422, 3, .iinc 9 (-1), (-1), 0), (425, 3, .goto (-140), 0, 285), (428, 1, .aload_n 1, 0, 0),
  (429, 2, .iload 6, 0, 0), (431, 1, .iconst 3, 3, 0), (432, 1, .iadd, 0, 0), (433, 2, .iload 8, 0, 0),
  (435, 3, .ifCond .ge 7, 0, 442), (438, 1, .iconst 0, 0, 0), (439, 3, .goto 4, 0, 443), (442, 1, .iconst 1, 1, 0),
  (443, 1, .iastore, 0, 0), (444, 1, .aload_n 1, 0, 0), (445, 2, .iload 6, 0, 0), (447, 1, .iconst 4, 4, 0),
  (448, 1, .iadd, 0, 0), (449, 2, .iload 8, 0, 0), (451, 1, .iastore, 0, 0), (452, 1, .return_, 0, 0)]
set_option maxRecDepth 100000 in
theorem kL_does_5_ok : kL_does_5.all (fw_rowq cL_does 12) = true := by decide +kernel
set_option maxRecDepth 100000 in
theorem kL_does_eq : kL_does = kL_does_0 ++ (kL_does_1 ++ (kL_does_2 ++ (kL_does_3 ++ (kL_does_4 ++ (kL_does_5))))) := rfl
theorem kL_does_all : kL_does.all (fw_rowq cL_does 12) = true := by
  rw [kL_does_eq]
  simp only [List.all_append, Bool.and_eq_true]
  exact ⟨kL_does_0_ok, ⟨kL_does_1_ok, ⟨kL_does_2_ok, ⟨kL_does_3_ok, ⟨kL_does_4_ok, kL_does_5_ok⟩⟩⟩⟩⟩
set_option maxRecDepth 100000 in
theorem kL_does_chain : fw_chain kL_does = true := by decide +kernel
theorem kL_does_ok : fw_chk cL_does 12 kL_does = true := by
  show (kL_does.all (fw_rowq cL_does 12) && fw_chain kL_does) = true
  rw [kL_does_all, kL_does_chain]
  rfl
set_option maxRecDepth 100000 in
theorem kL_does_cst : ∀ en ∈ kL_does, fw_CstOK RL [] en := by
  have h : kL_does.all (fw_cstq cp_L) = true := by decide +kernel
  exact fun en he => fw_cstX cp_L_ok (fun i v hq => nomatch hq) (List.all_eq_true.mp h en he)
def kL_ticks : List fw_Ent := [
  (0, 1, .iconst 0, 0, 0), (1, 2, .istore 6, 0, 0), (3, 2, .iload 6, 0, 0), (5, 2, .iload 5, 0, 0),
  (7, 3, .if_icmp .ge 168, 0, 175), (10, 1, .aload_n 0, 0, 0), (11, 1, .iconst 0, 0, 0), (12, 1, .dup2, 0, 0),
  (13, 1, .iaload, 0, 0), (14, 1, .iconst 1, 1, 0), (15, 1, .iadd, 0, 0), (16, 1, .iastore, 0, 0),
  (17, 1, .iconst 0, 0, 0), (18, 2, .istore 7, 0, 0), (20, 2, .iload 7, 0, 0), (22, 1, .aload_n 0, 0, 0),
  (23, 1, .iconst 2, 2, 0), (24, 1, .iaload, 0, 0), (25, 3, .if_icmp .ge 20, 0, 45), (28, 1, .aload_n 0, 0, 0),
  (29, 1, .aload_n 1, 0, 0), (30, 1, .aload_n 2, 0, 0), (31, 1, .aload_n 3, 0, 0), (32, 2, .aload 4, 0, 0),
  (34, 2, .iload 7, 0, 0), (36, 3, .invokestatic 31, 0, 0), (39, 3, .iinc 7 1, 1, 0), (42, 3, .goto (-22), 0, 20),
  (45, 1, .iconst 0, 0, 0), (46, 2, .istore 7, 0, 0), (48, 2, .iload 7, 0, 0), (50, 1, .aload_n 0, 0, 0),
  (51, 1, .iconst 3, 3, 0), (52, 1, .iaload, 0, 0), (53, 3, .if_icmp .ge 116, 0, 169), (56, 1, .aload_n 2, 0, 0),
  (57, 2, .bipush 8, 8, 0), (59, 2, .iload 7, 0, 0), (61, 1, .imul, 0, 0), (62, 1, .iconst 4, 4, 0),
  (63, 1, .iadd, 0, 0), (64, 1, .iaload, 0, 0), (65, 1, .iconst 2, 2, 0), (66, 3, .if_icmp .ge 26, 0, 92),
  (69, 1, .aload_n 2, 0, 0), (70, 2, .bipush 8, 8, 0), (72, 2, .iload 7, 0, 0), (74, 1, .imul, 0, 0),
  (75, 1, .iconst 2, 2, 0), (76, 1, .iadd, 0, 0), (77, 1, .iaload, 0, 0), (78, 1, .aload_n 0, 0, 0),
  (79, 1, .iconst 1, 1, 0), (80, 1, .iaload, 0, 0), (81, 1, .iadd, 0, 0), (82, 1, .aload_n 0, 0, 0),
  (83, 1, .iconst 0, 0, 0), (84, 1, .iaload, 0, 0), (85, 3, .if_icmp .ge 7, 0, 92), (88, 1, .iconst 1, 1, 0),
  (89, 3, .goto 4, 0, 93), (92, 1, .iconst 0, 0, 0), (93, 2, .istore 8, 0, 0), (95, 1, .aload_n 2, 0, 0),
  (96, 2, .bipush 8, 8, 0), (98, 2, .iload 7, 0, 0), (100, 1, .imul, 0, 0), (101, 1, .iconst 4, 4, 0),
  (102, 1, .iadd, 0, 0), (103, 2, .iload 8, 0, 0), (105, 3, .ifCond .eq 7, 0, 112), (108, 1, .iconst 3, 3, 0),
  (109, 3, .goto 12, 0, 121), (112, 1, .aload_n 2, 0, 0), (113, 2, .bipush 8, 8, 0), (115, 2, .iload 7, 0, 0),
  (117, 1, .imul, 0, 0), (118, 1, .iconst 4, 4, 0), (119, 1, .iadd, 0, 0), (120, 1, .iaload, 0, 0),
  (121, 1, .iastore, 0, 0), (122, 1, .iconst 0, 0, 0), (123, 2, .istore 9, 0, 0), (125, 2, .iload 9, 0, 0),
  (127, 1, .aload_n 0, 0, 0), (128, 1, .iconst 2, 2, 0), (129, 1, .iaload, 0, 0), (130, 3, .if_icmp .ge 33, 0, 163),
  (133, 2, .iload 8, 0, 0), (135, 3, .ifCond .eq 22, 0, 157), (138, 1, .aload_n 1, 0, 0), (139, 1, .iconst 5, 5, 0),
  (140, 2, .iload 9, 0, 0), (142, 1, .imul, 0, 0), (143, 1, .iconst 4, 4, 0), (144, 1, .iadd, 0, 0),
  (145, 1, .iaload, 0, 0), (146, 2, .iload 7, 0, 0), (148, 3, .if_icmp .ne 9, 0, 157), (151, 1, .aload_n 1, 0, 0),
  (152, 2, .iload 9, 0, 0), (154, 3, .invokestatic 19, 0, 0), (157, 3, .iinc 9 1, 1, 0), (160, 3, .goto (-35), 0, 125),
  (163, 3, .iinc 7 1, 1, 0), (166, 3, .goto (-118), 0, 48), (169, 3, .iinc 6 1, 1, 0), (172, 3, .goto (-169), 0, 3),
  (175, 1, .return_, 0, 0)]
def kL_ticks_0 : List fw_Ent := [
  (0, 1, .iconst 0, 0, 0), (1, 2, .istore 6, 0, 0), (3, 2, .iload 6, 0, 0), (5, 2, .iload 5, 0, 0),
  (7, 3, .if_icmp .ge 168, 0, 175), (10, 1, .aload_n 0, 0, 0), (11, 1, .iconst 0, 0, 0), (12, 1, .dup2, 0, 0),
  (13, 1, .iaload, 0, 0), (14, 1, .iconst 1, 1, 0), (15, 1, .iadd, 0, 0), (16, 1, .iastore, 0, 0),
  (17, 1, .iconst 0, 0, 0), (18, 2, .istore 7, 0, 0), (20, 2, .iload 7, 0, 0), (22, 1, .aload_n 0, 0, 0),
  (23, 1, .iconst 2, 2, 0), (24, 1, .iaload, 0, 0), (25, 3, .if_icmp .ge 20, 0, 45), (28, 1, .aload_n 0, 0, 0),
  (29, 1, .aload_n 1, 0, 0), (30, 1, .aload_n 2, 0, 0), (31, 1, .aload_n 3, 0, 0), (32, 2, .aload 4, 0, 0),
  (34, 2, .iload 7, 0, 0), (36, 3, .invokestatic 31, 0, 0), (39, 3, .iinc 7 1, 1, 0), (42, 3, .goto (-22), 0, 20),
  (45, 1, .iconst 0, 0, 0), (46, 2, .istore 7, 0, 0), (48, 2, .iload 7, 0, 0), (50, 1, .aload_n 0, 0, 0),
  (51, 1, .iconst 3, 3, 0), (52, 1, .iaload, 0, 0), (53, 3, .if_icmp .ge 116, 0, 169), (56, 1, .aload_n 2, 0, 0),
  (57, 2, .bipush 8, 8, 0), (59, 2, .iload 7, 0, 0), (61, 1, .imul, 0, 0), (62, 1, .iconst 4, 4, 0),
  (63, 1, .iadd, 0, 0), (64, 1, .iaload, 0, 0), (65, 1, .iconst 2, 2, 0), (66, 3, .if_icmp .ge 26, 0, 92),
  (69, 1, .aload_n 2, 0, 0), (70, 2, .bipush 8, 8, 0), (72, 2, .iload 7, 0, 0), (74, 1, .imul, 0, 0),
  (75, 1, .iconst 2, 2, 0), (76, 1, .iadd, 0, 0)]
set_option maxRecDepth 100000 in
theorem kL_ticks_0_ok : kL_ticks_0.all (fw_rowq cL_ticks 10) = true := by decide +kernel
def kL_ticks_1 : List fw_Ent := [
  (77, 1, .iaload, 0, 0), (78, 1, .aload_n 0, 0, 0), (79, 1, .iconst 1, 1, 0), (80, 1, .iaload, 0, 0),
  (81, 1, .iadd, 0, 0), (82, 1, .aload_n 0, 0, 0), (83, 1, .iconst 0, 0, 0), (84, 1, .iaload, 0, 0),
  (85, 3, .if_icmp .ge 7, 0, 92), (88, 1, .iconst 1, 1, 0), (89, 3, .goto 4, 0, 93), (92, 1, .iconst 0, 0, 0),
  (93, 2, .istore 8, 0, 0), (95, 1, .aload_n 2, 0, 0), (96, 2, .bipush 8, 8, 0), (98, 2, .iload 7, 0, 0),
  (100, 1, .imul, 0, 0), (101, 1, .iconst 4, 4, 0), (102, 1, .iadd, 0, 0), (103, 2, .iload 8, 0, 0),
  (105, 3, .ifCond .eq 7, 0, 112), (108, 1, .iconst 3, 3, 0), (109, 3, .goto 12, 0, 121), (112, 1, .aload_n 2, 0, 0),
  (113, 2, .bipush 8, 8, 0), (115, 2, .iload 7, 0, 0), (117, 1, .imul, 0, 0), (118, 1, .iconst 4, 4, 0),
  (119, 1, .iadd, 0, 0), (120, 1, .iaload, 0, 0), (121, 1, .iastore, 0, 0), (122, 1, .iconst 0, 0, 0),
  (123, 2, .istore 9, 0, 0), (125, 2, .iload 9, 0, 0), (127, 1, .aload_n 0, 0, 0), (128, 1, .iconst 2, 2, 0),
  (129, 1, .iaload, 0, 0), (130, 3, .if_icmp .ge 33, 0, 163), (133, 2, .iload 8, 0, 0), (135, 3, .ifCond .eq 22, 0, 157),
  (138, 1, .aload_n 1, 0, 0), (139, 1, .iconst 5, 5, 0), (140, 2, .iload 9, 0, 0), (142, 1, .imul, 0, 0),
  (143, 1, .iconst 4, 4, 0), (144, 1, .iadd, 0, 0), (145, 1, .iaload, 0, 0), (146, 2, .iload 7, 0, 0),
  (148, 3, .if_icmp .ne 9, 0, 157), (151, 1, .aload_n 1, 0, 0)]
set_option maxRecDepth 100000 in
theorem kL_ticks_1_ok : kL_ticks_1.all (fw_rowq cL_ticks 10) = true := by decide +kernel
def kL_ticks_2 : List fw_Ent := [
  (152, 2, .iload 9, 0, 0), (154, 3, .invokestatic 19, 0, 0), (157, 3, .iinc 9 1, 1, 0), (160, 3, .goto (-35), 0, 125),
  (163, 3, .iinc 7 1, 1, 0), (166, 3, .goto (-118), 0, 48), (169, 3, .iinc 6 1, 1, 0), (172, 3, .goto (-169), 0, 3),
  (175, 1, .return_, 0, 0)]
set_option maxRecDepth 100000 in
theorem kL_ticks_2_ok : kL_ticks_2.all (fw_rowq cL_ticks 10) = true := by decide +kernel
set_option maxRecDepth 100000 in
theorem kL_ticks_eq : kL_ticks = kL_ticks_0 ++ (kL_ticks_1 ++ (kL_ticks_2)) := rfl
theorem kL_ticks_all : kL_ticks.all (fw_rowq cL_ticks 10) = true := by
  rw [kL_ticks_eq]
  simp only [List.all_append, Bool.and_eq_true]
  exact ⟨kL_ticks_0_ok, ⟨kL_ticks_1_ok, kL_ticks_2_ok⟩⟩
set_option maxRecDepth 100000 in
theorem kL_ticks_chain : fw_chain kL_ticks = true := by decide +kernel
theorem kL_ticks_ok : fw_chk cL_ticks 10 kL_ticks = true := by
  show (kL_ticks.all (fw_rowq cL_ticks 10) && fw_chain kL_ticks) = true
  rw [kL_ticks_all, kL_ticks_chain]
  rfl
set_option maxRecDepth 100000 in
theorem kL_ticks_cst : ∀ en ∈ kL_ticks, fw_CstOK RL [] en := by
  have h : kL_ticks.all (fw_cstq cp_L) = true := by decide +kernel
  exact fun en he => fw_cstX cp_L_ok (fun i v hq => nomatch hq) (List.all_eq_true.mp h en he)
def kL_drops : List fw_Ent := [
  (0, 1, .aload_n 0, 0, 0), (1, 1, .iconst 5, 5, 0), (2, 1, .iload_n 2, 0, 0), (3, 1, .imul, 0, 0),
  (4, 1, .iconst 4, 4, 0), (5, 1, .iadd, 0, 0), (6, 1, .iaload, 0, 0), (7, 1, .istore_n 3, 0, 0),
  (8, 1, .aload_n 0, 0, 0), (9, 1, .iconst 5, 5, 0), (10, 1, .iload_n 2, 0, 0), (11, 1, .imul, 0, 0),
  (12, 1, .iconst 3, 3, 0), (13, 1, .iadd, 0, 0), (14, 1, .iaload, 0, 0), (15, 1, .iconst 2, 2, 0),
  (16, 3, .if_icmp .ne 12, 0, 28), (19, 1, .aload_n 1, 0, 0), (20, 2, .bipush 8, 8, 0), (22, 1, .iload_n 3, 0, 0),
  (23, 1, .imul, 0, 0), (24, 1, .iconst 4, 4, 0), (25, 1, .iadd, 0, 0), (26, 1, .iconst 0, 0, 0),
  (27, 1, .iastore, 0, 0), (28, 1, .aload_n 0, 0, 0), (29, 1, .iload_n 2, 0, 0), (30, 3, .invokestatic 19, 0, 0),
  (33, 1, .iload_n 3, 0, 0), (34, 1, .ireturn, 0, 0)]
theorem kL_drops_ok : fw_chk cL_drops 4 kL_drops = true := by decide +kernel
set_option maxRecDepth 100000 in
theorem kL_drops_cst : ∀ en ∈ kL_drops, fw_CstOK RL [] en := by
  have h : kL_drops.all (fw_cstq cp_L) = true := by decide +kernel
  exact fun en he => fw_cstX cp_L_ok (fun i v hq => nomatch hq) (List.all_eq_true.mp h en he)
def kL_delivered : List fw_Ent := [
  (0, 1, .iconst 0, 0, 0), (1, 1, .istore_n 2, 0, 0), (2, 1, .iconst 0, 0, 0), (3, 1, .istore_n 3, 0, 0),
  (4, 1, .iload_n 3, 0, 0), (5, 1, .aload_n 0, 0, 0), (6, 1, .iconst 3, 3, 0), (7, 1, .iaload, 0, 0),
  (8, 3, .if_icmp .ge 29, 0, 37), (11, 1, .iload_n 2, 0, 0), (12, 1, .aload_n 1, 0, 0), (13, 2, .bipush 8, 8, 0),
  (15, 1, .iload_n 3, 0, 0), (16, 1, .imul, 0, 0), (17, 1, .iconst 4, 4, 0), (18, 1, .iadd, 0, 0),
  (19, 1, .iaload, 0, 0), (20, 1, .iconst 2, 2, 0), (21, 3, .if_icmp .ne 7, 0, 28), (24, 1, .iconst 1, 1, 0),
  (25, 3, .goto 4, 0, 29), (28, 1, .iconst 0, 0, 0), (29, 1, .iadd, 0, 0), (30, 1, .istore_n 2, 0, 0),
  (31, 3, .iinc 3 1, 1, 0), (34, 3, .goto (-30), 0, 4), (37, 1, .iload_n 2, 0, 0), (38, 1, .ireturn, 0, 0)]
theorem kL_delivered_ok : fw_chk cL_delivered 4 kL_delivered = true := by decide +kernel
set_option maxRecDepth 100000 in
theorem kL_delivered_cst : ∀ en ∈ kL_delivered, fw_CstOK RL [] en := by
  have h : kL_delivered.all (fw_cstq cp_L) = true := by decide +kernel
  exact fun en he => fw_cstX cp_L_ok (fun i v hq => nomatch hq) (List.all_eq_true.mp h en he)
def kL_area : List fw_Ent := [
  (0, 2, .bipush 15, 15, 0), (2, 1, .iconst 4, 4, 0), (3, 1, .iload_n 0, 0, 0), (4, 1, .iconst 4, 4, 0),
  (5, 1, .irem, 0, 0), (6, 1, .imul, 0, 0), (7, 1, .ishl, 0, 0), (8, 2, .bipush 15, 15, 0),
  (10, 1, .iconst 4, 4, 0), (11, 1, .iload_n 0, 0, 0), (12, 1, .iconst 4, 4, 0), (13, 1, .idiv, 0, 0),
  (14, 1, .iconst 4, 4, 0), (15, 1, .irem, 0, 0), (16, 1, .imul, 0, 0), (17, 1, .ishl, 0, 0),
  (18, 1, .ior, 0, 0), (19, 1, .istore_n 1, 0, 0), (20, 3, .sipush 4369, 4369, 0), (23, 1, .iload_n 0, 0, 0),
  (24, 1, .iconst 4, 4, 0), (25, 1, .irem, 0, 0), (26, 1, .ishl, 0, 0), (27, 3, .sipush 4369, 4369, 0),
  (30, 1, .iload_n 0, 0, 0), (31, 1, .iconst 4, 4, 0), (32, 1, .idiv, 0, 0), (33, 1, .iconst 4, 4, 0),
  (34, 1, .irem, 0, 0), (35, 1, .ishl, 0, 0), (36, 1, .ior, 0, 0), (37, 1, .istore_n 2, 0, 0),
  (38, 1, .iload_n 0, 0, 0), (39, 1, .iconst 5, 5, 0), (40, 1, .irem, 0, 0), (41, 3, .ifCond .ne 13, 0, 54),
  (44, 1, .iload_n 0, 0, 0), (45, 2, .bipush 7, 7, 0), (47, 1, .imul, 0, 0), (48, 2, .ldc 34, 65535, 0),
  (50, 1, .iand, 0, 0), (51, 3, .goto 29, 0, 80), (54, 1, .iload_n 0, 0, 0), (55, 1, .iconst 5, 5, 0),
  (56, 1, .irem, 0, 0), (57, 1, .iconst 1, 1, 0), (58, 3, .if_icmp .ne 8, 0, 66), (61, 2, .ldc 34, 65535, 0),
  (63, 3, .goto 17, 0, 80), (66, 1, .iload_n 0, 0, 0), (67, 1, .iconst 5, 5, 0), (68, 1, .irem, 0, 0),
  (69, 1, .iconst 4, 4, 0), (70, 3, .if_icmp .ge 9, 0, 79), (73, 1, .iload_n 1, 0, 0), (74, 1, .iload_n 2, 0, 0),
  (75, 1, .ior, 0, 0), (76, 3, .goto 4, 0, 80), (79, 1, .iload_n 2, 0, 0), (80, 1, .ireturn, 0, 0)]
theorem kL_area_ok : fw_chk cL_area 3 kL_area = true := by decide +kernel
set_option maxRecDepth 100000 in
theorem kL_area_cst : ∀ en ∈ kL_area, fw_CstOK RL [] en := by
  have h : kL_area.all (fw_cstq cp_L) = true := by decide +kernel
  exact fun en he => fw_cstX cp_L_ok (fun i v hq => nomatch hq) (List.all_eq_true.mp h en he)
def kL_acts : List fw_Ent := [
  (0, 2, .iload 6, 0, 0), (2, 1, .iconst 4, 4, 0), (3, 1, .ishr, 0, 0), (4, 2, .ldc 35, 100000, 0),
  (6, 3, .invokestatic 36, 0, 0), (9, 2, .istore 7, 0, 0), (11, 1, .aload_n 1, 0, 0), (12, 1, .iconst 2, 2, 0),
  (13, 1, .iaload, 0, 0), (14, 3, .ifCond .ne 7, 0, 21), (17, 1, .iconst 0, 0, 0), (18, 3, .goto 9, 0, 27),
  (21, 2, .iload 7, 0, 0), (23, 1, .aload_n 1, 0, 0), (24, 1, .iconst 2, 2, 0), (25, 1, .iaload, 0, 0),
  (26, 1, .irem, 0, 0), (27, 2, .istore 8, 0, 0), (29, 2, .iload 6, 0, 0), (31, 2, .bipush 16, 16, 0),
  (33, 3, .invokestatic 36, 0, 0), (36, 56, .tableswitch 567 0 9 #[56, 56, 167, 237, 237, 237, 237, 490, 521, 521], 0, 0), (92, 1, .aload_n 1, 0, 0), (93, 1, .iconst 2, 2, 0),
  (94, 1, .iaload, 0, 0), (95, 2, .bipush 6, 6, 0), (97, 3, .if_icmp .ne 28, 0, 125), (100, 1, .aload_n 0, 0, 0),
  (101, 2, .iload 7, 0, 0), (103, 3, .invokestatic 39, 0, 0), (106, 2, .iload 7, 0, 0), (108, 2, .bipush 16, 16, 0),
  (110, 1, .irem, 0, 0), (111, 3, .invokestatic 43, 0, 0), (114, 2, .ldc 47, (-100003), 0), (116, 3, .if_icmp .ne 7, 0, 123),
  (119, 1, .iconst 1, 1, 0), (120, 3, .goto 4, 0, 124), (123, 1, .iconst 0, 0, 0), (124, 1, .ireturn, 0, 0),
  (125, 1, .aload_n 2, 0, 0), (126, 1, .iconst 5, 5, 0), (127, 1, .aload_n 1, 0, 0), (128, 1, .iconst 2, 2, 0),
  (129, 1, .iaload, 0, 0), (130, 1, .imul, 0, 0), (131, 2, .iload 7, 0, 0), (133, 3, .invokestatic 39, 0, 0),
  (136, 1, .iastore, 0, 0), (137, 1, .aload_n 2, 0, 0), (138, 1, .iconst 5, 5, 0), (139, 1, .aload_n 1, 0, 0),
  (140, 1, .iconst 2, 2, 0), (141, 1, .iaload, 0, 0), (142, 1, .imul, 0, 0), (143, 1, .iconst 1, 1, 0),
  (144, 1, .iadd, 0, 0), (145, 2, .iload 7, 0, 0), (147, 2, .bipush 16, 16, 0), (149, 1, .irem, 0, 0),
  (150, 1, .iastore, 0, 0), (151, 1, .aload_n 2, 0, 0), (152, 1, .iconst 5, 5, 0), (153, 1, .aload_n 1, 0, 0),
  (154, 1, .iconst 2, 2, 0), (155, 1, .iaload, 0, 0), (156, 1, .imul, 0, 0), (157, 1, .iconst 2, 2, 0),
  (158, 1, .iadd, 0, 0), (159, 1, .iconst 0, 0, 0), (160, 1, .iastore, 0, 0), (161, 1, .aload_n 2, 0, 0),
  (162, 1, .aload_n 1, 0, 0), (163, 1, .iconst 2, 2, 0), (164, 1, .iaload, 0, 0), (165, 3, .invokestatic 19, 0, 0),
  (168, 1, .aload_n 1, 0, 0), (169, 1, .iconst 2, 2, 0), (170, 1, .dup2, 0, 0), (171, 1, .iaload, 0, 0),
  (172, 1, .iconst 1, 1, 0), (173, 1, .iadd, 0, 0), (174, 1, .iastore, 0, 0), (175, 1, .aload_n 0, 0, 0),
  (176, 2, .iload 7, 0, 0), (178, 3, .invokestatic 39, 0, 0), (181, 2, .iload 7, 0, 0), (183, 2, .bipush 16, 16, 0),
  (185, 1, .irem, 0, 0), (186, 3, .invokestatic 43, 0, 0), (189, 1, .aload_n 1, 0, 0), (190, 1, .iconst 2, 2, 0),
  (191, 1, .iaload, 0, 0), (192, 1, .iconst 1, 1, 0), (193, 1, .isub, 0, 0), (194, 3, .if_icmp .ne 7, 0, 201),
  (197, 1, .iconst 1, 1, 0), (198, 3, .goto 4, 0, 202), (201, 1, .iconst 0, 0, 0), (202, 1, .ireturn, 0, 0),
  (203, 1, .aload_n 1, 0, 0), (204, 1, .iconst 2, 2, 0), (205, 1, .iaload, 0, 0), (206, 3, .ifCond .ne 20, 0, 226),
  (209, 1, .aload_n 0, 0, 0), (210, 1, .iconst 0, 0, 0), (211, 1, .iconst 0, 0, 0), (212, 3, .invokestatic 48, 0, 0),
  (215, 2, .ldc 51, (-100001), 0), (217, 3, .if_icmp .ne 7, 0, 224), (220, 1, .iconst 1, 1, 0), (221, 3, .goto 4, 0, 225),
  (224, 1, .iconst 0, 0, 0), (225, 1, .ireturn, 0, 0), (226, 1, .aload_n 2, 0, 0), (227, 1, .iconst 5, 5, 0),
  (228, 2, .iload 8, 0, 0), (230, 1, .imul, 0, 0), (231, 1, .iaload, 0, 0), (232, 2, .istore 9, 0, 0),
  (234, 1, .aload_n 2, 0, 0), (235, 1, .iconst 5, 5, 0), (236, 2, .iload 8, 0, 0), (238, 1, .imul, 0, 0),
  (239, 2, .iload 7, 0, 0), (241, 2, .bipush 6, 6, 0), (243, 1, .idiv, 0, 0), (244, 3, .invokestatic 39, 0, 0),
  (247, 1, .iastore, 0, 0), (248, 1, .aload_n 0, 0, 0), (249, 2, .iload 8, 0, 0), (251, 2, .iload 7, 0, 0),
  (253, 2, .bipush 6, 6, 0), (255, 1, .idiv, 0, 0), (256, 3, .invokestatic 39, 0, 0), (259, 3, .invokestatic 48, 0, 0),
  (262, 2, .iload 9, 0, 0), (264, 3, .if_icmp .ne 7, 0, 271), (267, 1, .iconst 1, 1, 0), (268, 3, .goto 4, 0, 272),
  (271, 1, .iconst 0, 0, 0), (272, 1, .ireturn, 0, 0), (273, 2, .iload 7, 0, 0), (275, 2, .bipush 16, 16, 0),
  (277, 1, .irem, 0, 0), (278, 2, .istore 10, 0, 0), (280, 2, .iload 7, 0, 0), (282, 2, .bipush 16, 16, 0),
  (284, 1, .idiv, 0, 0), (285, 2, .bipush 16, 16, 0), (287, 1, .irem, 0, 0), (288, 2, .istore 11, 0, 0),
  (290, 1, .iconst 1, 1, 0), (291, 2, .iload 7, 0, 0), (293, 3, .sipush 256, 256, 0), (296, 1, .idiv, 0, 0),
  (297, 2, .iload 7, 0, 0), (299, 1, .iconst 3, 3, 0), (300, 1, .irem, 0, 0), (301, 3, .ifCond .ne 9, 0, 310),
  (304, 3, .sipush 390, 390, 0), (307, 3, .goto 5, 0, 312), (310, 2, .bipush 25, 25, 0), (312, 1, .irem, 0, 0),
  (313, 1, .iadd, 0, 0), (314, 2, .iload 7, 0, 0), (316, 1, .iconst 2, 2, 0), (317, 1, .irem, 0, 0),
  (318, 3, .ifCond .ne 9, 0, 327), (321, 1, .aload_n 1, 0, 0), (322, 1, .iconst 0, 0, 0), (323, 1, .iaload, 0, 0),
  (324, 3, .goto 4, 0, 328), (327, 1, .iconst 0, 0, 0), (328, 1, .iadd, 0, 0), (329, 2, .istore 12, 0, 0),
  (331, 2, .iload 12, 0, 0), (333, 3, .sipush 999, 999, 0), (336, 3, .if_icmp .le 9, 0, 345), (339, 3, .sipush 999, 999, 0),
  (342, 3, .goto 5, 0, 347), (345, 2, .iload 12, 0, 0), (347, 2, .istore 12, 0, 0), (349, 2, .iload 10, 0, 0),
  (351, 2, .iload 11, 0, 0), (353, 3, .if_icmp .eq 11, 0, 364), (356, 1, .aload_n 1, 0, 0), (357, 1, .iconst 3, 3, 0),
  (358, 1, .iaload, 0, 0), (359, 2, .bipush 8, 8, 0), (361, 3, .if_icmp .ne 25, 0, 386), (364, 1, .aload_n 0, 0, 0),
  (365, 2, .iload 10, 0, 0), (367, 2, .iload 10, 0, 0), (369, 2, .iload 12, 0, 0), (371, 1, .iconst 1, 1, 0),
  (372, 3, .invokestatic 52, 0, 0), (375, 2, .ldc 56, (-100002), 0), (377, 3, .if_icmp .ne 7, 0, 384), (380, 1, .iconst 1, 1, 0),
  (381, 3, .goto 4, 0, 385), (384, 1, .iconst 0, 0, 0), (385, 1, .ireturn, 0, 0), (386, 1, .aload_n 3, 0, 0),
  (387, 2, .bipush 8, 8, 0), (389, 1, .aload_n 1, 0, 0), (390, 1, .iconst 3, 3, 0), (391, 1, .iaload, 0, 0),
  (392, 1, .imul, 0, 0), (393, 2, .iload 10, 0, 0), (395, 1, .iastore, 0, 0), (396, 1, .aload_n 3, 0, 0),
  (397, 2, .bipush 8, 8, 0), (399, 1, .aload_n 1, 0, 0), (400, 1, .iconst 3, 3, 0), (401, 1, .iaload, 0, 0),
  (402, 1, .imul, 0, 0), (403, 1, .iconst 1, 1, 0), (404, 1, .iadd, 0, 0), (405, 2, .iload 11, 0, 0),
  (407, 1, .iastore, 0, 0), (408, 1, .aload_n 3, 0, 0), (409, 2, .bipush 8, 8, 0), (411, 1, .aload_n 1, 0, 0),
  (412, 1, .iconst 3, 3, 0), (413, 1, .iaload, 0, 0), (414, 1, .imul, 0, 0), (415, 1, .iconst 2, 2, 0),
  (416, 1, .iadd, 0, 0), (417, 2, .iload 12, 0, 0), (419, 1, .iastore, 0, 0), (420, 1, .aload_n 3, 0, 0),
  (421, 2, .bipush 8, 8, 0), (423, 1, .aload_n 1, 0, 0), (424, 1, .iconst 3, 3, 0), (425, 1, .iaload, 0, 0),
  (426, 1, .imul, 0, 0), (427, 1, .iconst 3, 3, 0), (428, 1, .iadd, 0, 0), (429, 2, .iload 7, 0, 0),
  (431, 2, .bipush 7, 7, 0), (433, 1, .idiv, 0, 0), (434, 3, .sipush 1001, 1001, 0), (437, 1, .irem, 0, 0),
  (438, 1, .iastore, 0, 0), (439, 1, .aload_n 3, 0, 0), (440, 2, .bipush 8, 8, 0), (442, 1, .aload_n 1, 0, 0),
  (443, 1, .iconst 3, 3, 0), (444, 1, .iaload, 0, 0), (445, 1, .imul, 0, 0), (446, 1, .iconst 4, 4, 0),
  (447, 1, .iadd, 0, 0), (448, 1, .iconst 0, 0, 0), (449, 1, .iastore, 0, 0), (450, 1, .aload_n 3, 0, 0),
  (451, 2, .bipush 8, 8, 0), (453, 1, .aload_n 1, 0, 0), (454, 1, .iconst 3, 3, 0), (455, 1, .iaload, 0, 0),
  (456, 1, .imul, 0, 0), (457, 1, .iconst 5, 5, 0), (458, 1, .iadd, 0, 0), (459, 2, .iload 10, 0, 0),
  (461, 1, .iastore, 0, 0), (462, 1, .aload_n 3, 0, 0), (463, 2, .bipush 8, 8, 0), (465, 1, .aload_n 1, 0, 0),
  (466, 1, .iconst 3, 3, 0), (467, 1, .iaload, 0, 0), (468, 1, .imul, 0, 0), (469, 2, .bipush 6, 6, 0),
  (471, 1, .iadd, 0, 0), (472, 1, .iconst (-1), (-1), 0), (473, 1, .iastore, 0, 0), (474, 1, .aload_n 3, 0, 0),
  (475, 2, .bipush 8, 8, 0), (477, 1, .aload_n 1, 0, 0), (478, 1, .iconst 3, 3, 0), (479, 1, .iaload, 0, 0),
  (480, 1, .imul, 0, 0), (481, 2, .bipush 7, 7, 0), (483, 1, .iadd, 0, 0), (484, 1, .iconst 0, 0, 0),
  (485, 1, .iastore, 0, 0), (486, 1, .aload_n 1, 0, 0), (487, 1, .iconst 3, 3, 0), (488, 1, .dup2, 0, 0),
  (489, 1, .iaload, 0, 0), (490, 1, .iconst 1, 1, 0), (491, 1, .iadd, 0, 0), (492, 1, .iastore, 0, 0),
  (493, 1, .aload_n 0, 0, 0), (494, 2, .iload 10, 0, 0), (496, 2, .iload 11, 0, 0), (498, 2, .iload 12, 0, 0),
  (500, 2, .iload 7, 0, 0), (502, 2, .bipush 7, 7, 0), (504, 1, .idiv, 0, 0), (505, 3, .sipush 1001, 1001, 0),
  (508, 1, .irem, 0, 0), (509, 3, .invokestatic 52, 0, 0), (512, 1, .aload_n 1, 0, 0), (513, 1, .iconst 3, 3, 0),
  (514, 1, .iaload, 0, 0), (515, 1, .iconst 1, 1, 0), (516, 1, .isub, 0, 0), (517, 3, .if_icmp .ne 7, 0, 524),
  (520, 1, .iconst 1, 1, 0), (521, 3, .goto 4, 0, 525), (524, 1, .iconst 0, 0, 0), (525, 1, .ireturn, 0, 0),
  (526, 1, .aload_n 1, 0, 0), (527, 1, .iconst 1, 1, 0), (528, 1, .iaload, 0, 0), (529, 2, .istore 13, 0, 0),
  (531, 1, .aload_n 1, 0, 0), (532, 1, .iconst 1, 1, 0), (533, 2, .iload 7, 0, 0), (535, 2, .bipush 101, 101, 0),
  (537, 1, .irem, 0, 0), (538, 1, .iastore, 0, 0), (539, 1, .aload_n 0, 0, 0), (540, 1, .aload_n 1, 0, 0),
  (541, 1, .iconst 1, 1, 0), (542, 1, .iaload, 0, 0), (543, 3, .invokestatic 57, 0, 0), (546, 2, .iload 13, 0, 0),
  (548, 3, .if_icmp .ne 7, 0, 555), (551, 1, .iconst 1, 1, 0), (552, 3, .goto 4, 0, 556), (555, 1, .iconst 0, 0, 0),
  (556, 1, .ireturn, 0, 0), (557, 1, .aload_n 1, 0, 0), (558, 1, .iconst 2, 2, 0), (559, 1, .iaload, 0, 0),
  (560, 3, .ifCond .ne 21, 0, 581), (563, 1, .aload_n 0, 0, 0), (564, 1, .iconst 0, 0, 0), (565, 3, .invokestatic 61, 0, 0),
  (568, 2, .ldc 51, (-100001), 0), (570, 3, .if_icmp .ne 7, 0, 577), (573, 1, .iconst 1, 1, 0), (574, 3, .goto 28, 0, 602),
  (577, 1, .iconst 0, 0, 0), (578, 3, .goto 24, 0, 602), (581, 1, .aload_n 0, 0, 0), (582, 2, .iload 8, 0, 0),
  (584, 3, .invokestatic 61, 0, 0), (587, 1, .aload_n 2, 0, 0), (588, 1, .aload_n 3, 0, 0), (589, 2, .iload 8, 0, 0),
  (591, 3, .invokestatic 64, 0, 0), (594, 3, .if_icmp .ne 7, 0, 601), (597, 1, .iconst 1, 1, 0), (598, 3, .goto 4, 0, 602),
  (601, 1, .iconst 0, 0, 0), (602, 1, .ireturn, 0, 0), (603, 2, .iload 7, 0, 0), (605, 2, .bipush 9, 9, 0),
  (607, 1, .irem, 0, 0), (608, 3, .ifCond .ne 11, 0, 619), (611, 2, .iload 7, 0, 0), (613, 2, .bipush 60, 60, 0),
  (615, 1, .irem, 0, 0), (616, 3, .goto 8, 0, 624), (619, 2, .iload 7, 0, 0), (621, 2, .bipush 6, 6, 0),
  (623, 1, .irem, 0, 0), (624, 2, .istore 14, 0, 0), (626, 1, .aload_n 1, 0, 0), (627, 1, .iconst 0, 0, 0),
  (628, 1, .iaload, 0, 0), (629, 2, .iload 14, 0, 0), (631, 1, .iadd, 0, 0), (632, 3, .sipush 2000, 2000, 0),
  (635, 3, .if_icmp .le 20, 0, 655), (638, 1, .aload_n 0, 0, 0), (639, 2, .iload 14, 0, 0), (641, 3, .invokestatic 68, 0, 0),
  (644, 2, .ldc 47, (-100003), 0), (646, 3, .if_icmp .ne 7, 0, 653), (649, 1, .iconst 1, 1, 0), (650, 3, .goto 4, 0, 654),
  (653, 1, .iconst 0, 0, 0), (654, 1, .ireturn, 0, 0), (655, 1, .aload_n 1, 0, 0), (656, 1, .aload_n 3, 0, 0),
  (657, 3, .invokestatic 71, 0, 0), (660, 2, .istore 15, 0, 0), (662, 1, .aload_n 1, 0, 0), (663, 1, .aload_n 2, 0, 0),
  (664, 1, .aload_n 3, 0, 0), (665, 2, .aload 4, 0, 0), (667, 2, .aload 5, 0, 0), (669, 2, .iload 14, 0, 0),
  (671, 3, .invokestatic 75, 0, 0), (674, 1, .aload_n 0, 0, 0), (675, 2, .iload 14, 0, 0), (677, 3, .invokestatic 68, 0, 0),
  (680, 1, .aload_n 1, 0, 0), (681, 1, .aload_n 3, 0, 0), (682, 3, .invokestatic 71, 0, 0), (685, 2, .iload 15, 0, 0),
  (687, 1, .isub, 0, 0), (688, 3, .if_icmp .ne 7, 0, 695), (691, 1, .iconst 1, 1, 0), (692, 3, .goto 4, 0, 696),
  (695, 1, .iconst 0, 0, 0), (696, 1, .ireturn, 0, 0)]
def kL_acts_0 : List fw_Ent := [
  (0, 2, .iload 6, 0, 0), (2, 1, .iconst 4, 4, 0), (3, 1, .ishr, 0, 0), (4, 2, .ldc 35, 100000, 0),
  (6, 3, .invokestatic 36, 0, 0), (9, 2, .istore 7, 0, 0), (11, 1, .aload_n 1, 0, 0), (12, 1, .iconst 2, 2, 0),
  (13, 1, .iaload, 0, 0), (14, 3, .ifCond .ne 7, 0, 21), (17, 1, .iconst 0, 0, 0), (18, 3, .goto 9, 0, 27),
  (21, 2, .iload 7, 0, 0), (23, 1, .aload_n 1, 0, 0), (24, 1, .iconst 2, 2, 0), (25, 1, .iaload, 0, 0),
  (26, 1, .irem, 0, 0), (27, 2, .istore 8, 0, 0), (29, 2, .iload 6, 0, 0), (31, 2, .bipush 16, 16, 0),
  (33, 3, .invokestatic 36, 0, 0), (36, 56, .tableswitch 567 0 9 #[56, 56, 167, 237, 237, 237, 237, 490, 521, 521], 0, 0), (92, 1, .aload_n 1, 0, 0), (93, 1, .iconst 2, 2, 0),
  (94, 1, .iaload, 0, 0), (95, 2, .bipush 6, 6, 0), (97, 3, .if_icmp .ne 28, 0, 125), (100, 1, .aload_n 0, 0, 0),
  (101, 2, .iload 7, 0, 0), (103, 3, .invokestatic 39, 0, 0), (106, 2, .iload 7, 0, 0), (108, 2, .bipush 16, 16, 0),
  (110, 1, .irem, 0, 0), (111, 3, .invokestatic 43, 0, 0), (114, 2, .ldc 47, (-100003), 0), (116, 3, .if_icmp .ne 7, 0, 123),
  (119, 1, .iconst 1, 1, 0), (120, 3, .goto 4, 0, 124), (123, 1, .iconst 0, 0, 0), (124, 1, .ireturn, 0, 0),
  (125, 1, .aload_n 2, 0, 0), (126, 1, .iconst 5, 5, 0), (127, 1, .aload_n 1, 0, 0), (128, 1, .iconst 2, 2, 0),
  (129, 1, .iaload, 0, 0), (130, 1, .imul, 0, 0), (131, 2, .iload 7, 0, 0), (133, 3, .invokestatic 39, 0, 0),
  (136, 1, .iastore, 0, 0), (137, 1, .aload_n 2, 0, 0)]
set_option maxRecDepth 100000 in
theorem kL_acts_0_ok : kL_acts_0.all (fw_rowq cL_acts 16) = true := by decide +kernel
def kL_acts_1 : List fw_Ent := [
  (138, 1, .iconst 5, 5, 0), (139, 1, .aload_n 1, 0, 0), (140, 1, .iconst 2, 2, 0), (141, 1, .iaload, 0, 0),
  (142, 1, .imul, 0, 0), (143, 1, .iconst 1, 1, 0), (144, 1, .iadd, 0, 0), (145, 2, .iload 7, 0, 0),
  (147, 2, .bipush 16, 16, 0), (149, 1, .irem, 0, 0), (150, 1, .iastore, 0, 0), (151, 1, .aload_n 2, 0, 0),
  (152, 1, .iconst 5, 5, 0), (153, 1, .aload_n 1, 0, 0), (154, 1, .iconst 2, 2, 0), (155, 1, .iaload, 0, 0),
  (156, 1, .imul, 0, 0), (157, 1, .iconst 2, 2, 0), (158, 1, .iadd, 0, 0), (159, 1, .iconst 0, 0, 0),
  (160, 1, .iastore, 0, 0), (161, 1, .aload_n 2, 0, 0), (162, 1, .aload_n 1, 0, 0), (163, 1, .iconst 2, 2, 0),
  (164, 1, .iaload, 0, 0), (165, 3, .invokestatic 19, 0, 0), (168, 1, .aload_n 1, 0, 0), (169, 1, .iconst 2, 2, 0),
  (170, 1, .dup2, 0, 0), (171, 1, .iaload, 0, 0), (172, 1, .iconst 1, 1, 0), (173, 1, .iadd, 0, 0),
  (174, 1, .iastore, 0, 0), (175, 1, .aload_n 0, 0, 0), (176, 2, .iload 7, 0, 0), (178, 3, .invokestatic 39, 0, 0),
  (181, 2, .iload 7, 0, 0), (183, 2, .bipush 16, 16, 0), (185, 1, .irem, 0, 0), (186, 3, .invokestatic 43, 0, 0),
  (189, 1, .aload_n 1, 0, 0), (190, 1, .iconst 2, 2, 0), (191, 1, .iaload, 0, 0), (192, 1, .iconst 1, 1, 0),
  (193, 1, .isub, 0, 0), (194, 3, .if_icmp .ne 7, 0, 201), (197, 1, .iconst 1, 1, 0), (198, 3, .goto 4, 0, 202),
  (201, 1, .iconst 0, 0, 0), (202, 1, .ireturn, 0, 0)]
set_option maxRecDepth 100000 in
theorem kL_acts_1_ok : kL_acts_1.all (fw_rowq cL_acts 16) = true := by decide +kernel
def kL_acts_2 : List fw_Ent := [
  (203, 1, .aload_n 1, 0, 0), (204, 1, .iconst 2, 2, 0), (205, 1, .iaload, 0, 0), (206, 3, .ifCond .ne 20, 0, 226),
  (209, 1, .aload_n 0, 0, 0), (210, 1, .iconst 0, 0, 0), (211, 1, .iconst 0, 0, 0), (212, 3, .invokestatic 48, 0, 0),
  (215, 2, .ldc 51, (-100001), 0), (217, 3, .if_icmp .ne 7, 0, 224), (220, 1, .iconst 1, 1, 0), (221, 3, .goto 4, 0, 225),
  (224, 1, .iconst 0, 0, 0), (225, 1, .ireturn, 0, 0), (226, 1, .aload_n 2, 0, 0), (227, 1, .iconst 5, 5, 0),
  (228, 2, .iload 8, 0, 0), (230, 1, .imul, 0, 0), (231, 1, .iaload, 0, 0), (232, 2, .istore 9, 0, 0),
  (234, 1, .aload_n 2, 0, 0), (235, 1, .iconst 5, 5, 0), (236, 2, .iload 8, 0, 0), (238, 1, .imul, 0, 0),
  (239, 2, .iload 7, 0, 0), (241, 2, .bipush 6, 6, 0), (243, 1, .idiv, 0, 0), (244, 3, .invokestatic 39, 0, 0),
  (247, 1, .iastore, 0, 0), (248, 1, .aload_n 0, 0, 0), (249, 2, .iload 8, 0, 0), (251, 2, .iload 7, 0, 0),
  (253, 2, .bipush 6, 6, 0), (255, 1, .idiv, 0, 0), (256, 3, .invokestatic 39, 0, 0), (259, 3, .invokestatic 48, 0, 0),
  (262, 2, .iload 9, 0, 0), (264, 3, .if_icmp .ne 7, 0, 271), (267, 1, .iconst 1, 1, 0), (268, 3, .goto 4, 0, 272),
  (271, 1, .iconst 0, 0, 0), (272, 1, .ireturn, 0, 0), (273, 2, .iload 7, 0, 0), (275, 2, .bipush 16, 16, 0),
  (277, 1, .irem, 0, 0), (278, 2, .istore 10, 0, 0), (280, 2, .iload 7, 0, 0), (282, 2, .bipush 16, 16, 0),
  (284, 1, .idiv, 0, 0), (285, 2, .bipush 16, 16, 0)]
set_option maxRecDepth 100000 in
theorem kL_acts_2_ok : kL_acts_2.all (fw_rowq cL_acts 16) = true := by decide +kernel
def kL_acts_3 : List fw_Ent := [
  (287, 1, .irem, 0, 0), (288, 2, .istore 11, 0, 0), (290, 1, .iconst 1, 1, 0), (291, 2, .iload 7, 0, 0),
  (293, 3, .sipush 256, 256, 0), (296, 1, .idiv, 0, 0), (297, 2, .iload 7, 0, 0), (299, 1, .iconst 3, 3, 0),
  (300, 1, .irem, 0, 0), (301, 3, .ifCond .ne 9, 0, 310), (304, 3, .sipush 390, 390, 0), (307, 3, .goto 5, 0, 312),
  (310, 2, .bipush 25, 25, 0), (312, 1, .irem, 0, 0), (313, 1, .iadd, 0, 0), (314, 2, .iload 7, 0, 0),
  (316, 1, .iconst 2, 2, 0), (317, 1, .irem, 0, 0), (318, 3, .ifCond .ne 9, 0, 327), (321, 1, .aload_n 1, 0, 0),
  (322, 1, .iconst 0, 0, 0), (323, 1, .iaload, 0, 0), (324, 3, .goto 4, 0, 328), (327, 1, .iconst 0, 0, 0),
  (328, 1, .iadd, 0, 0), (329, 2, .istore 12, 0, 0), (331, 2, .iload 12, 0, 0), (333, 3, .sipush 999, 999, 0),
  (336, 3, .if_icmp .le 9, 0, 345), (339, 3, .sipush 999, 999, 0), (342, 3, .goto 5, 0, 347), (345, 2, .iload 12, 0, 0),
  (347, 2, .istore 12, 0, 0), (349, 2, .iload 10, 0, 0), (351, 2, .iload 11, 0, 0), (353, 3, .if_icmp .eq 11, 0, 364),
  (356, 1, .aload_n 1, 0, 0), (357, 1, .iconst 3, 3, 0), (358, 1, .iaload, 0, 0), (359, 2, .bipush 8, 8, 0),
  (361, 3, .if_icmp .ne 25, 0, 386), (364, 1, .aload_n 0, 0, 0), (365, 2, .iload 10, 0, 0), (367, 2, .iload 10, 0, 0),
  (369, 2, .iload 12, 0, 0), (371, 1, .iconst 1, 1, 0), (372, 3, .invokestatic 52, 0, 0), (375, 2, .ldc 56, (-100002), 0),
  (377, 3, .if_icmp .ne 7, 0, 384), (380, 1, .iconst 1, 1, 0)]
set_option maxRecDepth 100000 in
theorem kL_acts_3_ok : kL_acts_3.all (fw_rowq cL_acts 16) = true := by decide +kernel
def kL_acts_4 : List fw_Ent := [
  (381, 3, .goto 4, 0, 385), (384, 1, .iconst 0, 0, 0), (385, 1, .ireturn, 0, 0), (386, 1, .aload_n 3, 0, 0),
  (387, 2, .bipush 8, 8, 0), (389, 1, .aload_n 1, 0, 0), (390, 1, .iconst 3, 3, 0), (391, 1, .iaload, 0, 0),
  (392, 1, .imul, 0, 0), (393, 2, .iload 10, 0, 0), (395, 1, .iastore, 0, 0), (396, 1, .aload_n 3, 0, 0),
  (397, 2, .bipush 8, 8, 0), (399, 1, .aload_n 1, 0, 0), (400, 1, .iconst 3, 3, 0), (401, 1, .iaload, 0, 0),
  (402, 1, .imul, 0, 0), (403, 1, .iconst 1, 1, 0), (404, 1, .iadd, 0, 0), (405, 2, .iload 11, 0, 0),
  (407, 1, .iastore, 0, 0), (408, 1, .aload_n 3, 0, 0), (409, 2, .bipush 8, 8, 0), (411, 1, .aload_n 1, 0, 0),
  (412, 1, .iconst 3, 3, 0), (413, 1, .iaload, 0, 0), (414, 1, .imul, 0, 0), (415, 1, .iconst 2, 2, 0),
  (416, 1, .iadd, 0, 0), (417, 2, .iload 12, 0, 0), (419, 1, .iastore, 0, 0), (420, 1, .aload_n 3, 0, 0),
  (421, 2, .bipush 8, 8, 0), (423, 1, .aload_n 1, 0, 0), (424, 1, .iconst 3, 3, 0), (425, 1, .iaload, 0, 0),
  (426, 1, .imul, 0, 0), (427, 1, .iconst 3, 3, 0), (428, 1, .iadd, 0, 0), (429, 2, .iload 7, 0, 0),
  (431, 2, .bipush 7, 7, 0), (433, 1, .idiv, 0, 0), (434, 3, .sipush 1001, 1001, 0), (437, 1, .irem, 0, 0),
  (438, 1, .iastore, 0, 0), (439, 1, .aload_n 3, 0, 0), (440, 2, .bipush 8, 8, 0), (442, 1, .aload_n 1, 0, 0),
  (443, 1, .iconst 3, 3, 0), (444, 1, .iaload, 0, 0)]
set_option maxRecDepth 100000 in
theorem kL_acts_4_ok : kL_acts_4.all (fw_rowq cL_acts 16) = true := by decide +kernel
def kL_acts_5 : List fw_Ent := [
  (445, 1, .imul, 0, 0), (446, 1, .iconst 4, 4, 0), (447, 1, .iadd, 0, 0), (448, 1, .iconst 0, 0, 0),
  (449, 1, .iastore, 0, 0), (450, 1, .aload_n 3, 0, 0), (451, 2, .bipush 8, 8, 0), (453, 1, .aload_n 1, 0, 0),
  (454, 1, .iconst 3, 3, 0), (455, 1, .iaload, 0, 0), (456, 1, .imul, 0, 0), (457, 1, .iconst 5, 5, 0),
  (458, 1, .iadd, 0, 0), (459, 2, .iload 10, 0, 0), (461, 1, .iastore, 0, 0), (462, 1, .aload_n 3, 0, 0),
  (463, 2, .bipush 8, 8, 0), (465, 1, .aload_n 1, 0, 0), (466, 1, .iconst 3, 3, 0), (467, 1, .iaload, 0, 0),
  (468, 1, .imul, 0, 0), (469, 2, .bipush 6, 6, 0), (471, 1, .iadd, 0, 0), (472, 1, .iconst (-1), (-1), 0),
  (473, 1, .iastore, 0, 0), (474, 1, .aload_n 3, 0, 0), (475, 2, .bipush 8, 8, 0), (477, 1, .aload_n 1, 0, 0),
  (478, 1, .iconst 3, 3, 0), (479, 1, .iaload, 0, 0), (480, 1, .imul, 0, 0), (481, 2, .bipush 7, 7, 0),
  (483, 1, .iadd, 0, 0), (484, 1, .iconst 0, 0, 0), (485, 1, .iastore, 0, 0), (486, 1, .aload_n 1, 0, 0),
  (487, 1, .iconst 3, 3, 0), (488, 1, .dup2, 0, 0), (489, 1, .iaload, 0, 0), (490, 1, .iconst 1, 1, 0),
  (491, 1, .iadd, 0, 0), (492, 1, .iastore, 0, 0), (493, 1, .aload_n 0, 0, 0), (494, 2, .iload 10, 0, 0),
  (496, 2, .iload 11, 0, 0), (498, 2, .iload 12, 0, 0), (500, 2, .iload 7, 0, 0), (502, 2, .bipush 7, 7, 0),
  (504, 1, .idiv, 0, 0), (505, 3, .sipush 1001, 1001, 0)]
set_option maxRecDepth 100000 in
theorem kL_acts_5_ok : kL_acts_5.all (fw_rowq cL_acts 16) = true := by decide +kernel
def kL_acts_6 : List fw_Ent := [
  (508, 1, .irem, 0, 0), (509, 3, .invokestatic 52, 0, 0), (512, 1, .aload_n 1, 0, 0), (513, 1, .iconst 3, 3, 0),
  (514, 1, .iaload, 0, 0), (515, 1, .iconst 1, 1, 0), (516, 1, .isub, 0, 0), (517, 3, .if_icmp .ne 7, 0, 524),
  (520, 1, .iconst 1, 1, 0), (521, 3, .goto 4, 0, 525), (524, 1, .iconst 0, 0, 0), (525, 1, .ireturn, 0, 0),
  (526, 1, .aload_n 1, 0, 0), (527, 1, .iconst 1, 1, 0), (528, 1, .iaload, 0, 0), (529, 2, .istore 13, 0, 0),
  (531, 1, .aload_n 1, 0, 0), (532, 1, .iconst 1, 1, 0), (533, 2, .iload 7, 0, 0), (535, 2, .bipush 101, 101, 0),
  (537, 1, .irem, 0, 0), (538, 1, .iastore, 0, 0), (539, 1, .aload_n 0, 0, 0), (540, 1, .aload_n 1, 0, 0),
  (541, 1, .iconst 1, 1, 0), (542, 1, .iaload, 0, 0), (543, 3, .invokestatic 57, 0, 0), (546, 2, .iload 13, 0, 0),
  (548, 3, .if_icmp .ne 7, 0, 555), (551, 1, .iconst 1, 1, 0), (552, 3, .goto 4, 0, 556), (555, 1, .iconst 0, 0, 0),
  (556, 1, .ireturn, 0, 0), (557, 1, .aload_n 1, 0, 0), (558, 1, .iconst 2, 2, 0), (559, 1, .iaload, 0, 0),
  (560, 3, .ifCond .ne 21, 0, 581), (563, 1, .aload_n 0, 0, 0), (564, 1, .iconst 0, 0, 0), (565, 3, .invokestatic 61, 0, 0),
  (568, 2, .ldc 51, (-100001), 0), (570, 3, .if_icmp .ne 7, 0, 577), (573, 1, .iconst 1, 1, 0), (574, 3, .goto 28, 0, 602),
  (577, 1, .iconst 0, 0, 0), (578, 3, .goto 24, 0, 602), (581, 1, .aload_n 0, 0, 0), (582, 2, .iload 8, 0, 0),
  (584, 3, .invokestatic 61, 0, 0), (587, 1, .aload_n 2, 0, 0)]
set_option maxRecDepth 100000 in
theorem kL_acts_6_ok : kL_acts_6.all (fw_rowq cL_acts 16) = true := by decide +kernel
def kL_acts_7 : List fw_Ent := [
  (588, 1, .aload_n 3, 0, 0), (589, 2, .iload 8, 0, 0), (591, 3, .invokestatic 64, 0, 0), (594, 3, .if_icmp .ne 7, 0, 601),
  (597, 1, .iconst 1, 1, 0), (598, 3, .goto 4, 0, 602), (601, 1, .iconst 0, 0, 0), (602, 1, .ireturn, 0, 0),
  (603, 2, .iload 7, 0, 0), (605, 2, .bipush 9, 9, 0), (607, 1, .irem, 0, 0), (608, 3, .ifCond .ne 11, 0, 619),
  (611, 2, .iload 7, 0, 0), (613, 2, .bipush 60, 60, 0), (615, 1, .irem, 0, 0), (616, 3, .goto 8, 0, 624),
  (619, 2, .iload 7, 0, 0), (621, 2, .bipush 6, 6, 0), (623, 1, .irem, 0, 0), (624, 2, .istore 14, 0, 0),
  (626, 1, .aload_n 1, 0, 0), (627, 1, .iconst 0, 0, 0), (628, 1, .iaload, 0, 0), (629, 2, .iload 14, 0, 0),
  (631, 1, .iadd, 0, 0), (632, 3, .sipush 2000, 2000, 0), (635, 3, .if_icmp .le 20, 0, 655), (638, 1, .aload_n 0, 0, 0),
  (639, 2, .iload 14, 0, 0), (641, 3, .invokestatic 68, 0, 0), (644, 2, .ldc 47, (-100003), 0), (646, 3, .if_icmp .ne 7, 0, 653),
  (649, 1, .iconst 1, 1, 0), (650, 3, .goto 4, 0, 654), (653, 1, .iconst 0, 0, 0), (654, 1, .ireturn, 0, 0),
  (655, 1, .aload_n 1, 0, 0), (656, 1, .aload_n 3, 0, 0), (657, 3, .invokestatic 71, 0, 0), (660, 2, .istore 15, 0, 0),
  (662, 1, .aload_n 1, 0, 0), (663, 1, .aload_n 2, 0, 0), (664, 1, .aload_n 3, 0, 0), (665, 2, .aload 4, 0, 0),
  (667, 2, .aload 5, 0, 0), (669, 2, .iload 14, 0, 0), (671, 3, .invokestatic 75, 0, 0), (674, 1, .aload_n 0, 0, 0),
  (675, 2, .iload 14, 0, 0), (677, 3, .invokestatic 68, 0, 0)]
set_option maxRecDepth 100000 in
theorem kL_acts_7_ok : kL_acts_7.all (fw_rowq cL_acts 16) = true := by decide +kernel
def kL_acts_8 : List fw_Ent := [
  (680, 1, .aload_n 1, 0, 0), (681, 1, .aload_n 3, 0, 0), (682, 3, .invokestatic 71, 0, 0), (685, 2, .iload 15, 0, 0),
  (687, 1, .isub, 0, 0), (688, 3, .if_icmp .ne 7, 0, 695), (691, 1, .iconst 1, 1, 0), (692, 3, .goto 4, 0, 696),
  (695, 1, .iconst 0, 0, 0), (696, 1, .ireturn, 0, 0)]
set_option maxRecDepth 100000 in
theorem kL_acts_8_ok : kL_acts_8.all (fw_rowq cL_acts 16) = true := by decide +kernel
set_option maxRecDepth 100000 in
theorem kL_acts_eq : kL_acts = kL_acts_0 ++ (kL_acts_1 ++ (kL_acts_2 ++ (kL_acts_3 ++ (kL_acts_4 ++ (kL_acts_5 ++ (kL_acts_6 ++ (kL_acts_7 ++ (kL_acts_8)))))))) := rfl
theorem kL_acts_all : kL_acts.all (fw_rowq cL_acts 16) = true := by
  rw [kL_acts_eq]
  simp only [List.all_append, Bool.and_eq_true]
  exact ⟨kL_acts_0_ok, ⟨kL_acts_1_ok, ⟨kL_acts_2_ok, ⟨kL_acts_3_ok, ⟨kL_acts_4_ok, ⟨kL_acts_5_ok, ⟨kL_acts_6_ok, ⟨kL_acts_7_ok, kL_acts_8_ok⟩⟩⟩⟩⟩⟩⟩⟩
set_option maxRecDepth 100000 in
theorem kL_acts_chain : fw_chain kL_acts = true := by decide +kernel
theorem kL_acts_ok : fw_chk cL_acts 16 kL_acts = true := by
  show (kL_acts.all (fw_rowq cL_acts 16) && fw_chain kL_acts) = true
  rw [kL_acts_all, kL_acts_chain]
  rfl
set_option maxRecDepth 100000 in
theorem kL_acts_cst : ∀ en ∈ kL_acts, fw_CstOK RL [] en := by
  have h : kL_acts.all (fw_cstq cp_L) = true := by decide +kernel
  exact fun en he => fw_cstX cp_L_ok (fun i v hq => nomatch hq) (List.all_eq_true.mp h en he)
def kL_adds : List fw_Ent := [
  (0, 1, .aload_n 0, 0, 0), (1, 1, .iload_n 1, 0, 0), (2, 1, .iload_n 2, 0, 0), (3, 3, .invokevirtual 78, 0, 0),
  (6, 1, .ireturn, 0, 0), (7, 1, .astore_n 3, 0, 0), (8, 2, .ldc 56, (-100002), 0), (10, 1, .ireturn, 0, 0),
  (11, 1, .astore_n 3, 0, 0), (12, 2, .ldc 47, (-100003), 0), (14, 1, .ireturn, 0, 0)]
theorem kL_adds_ok : fw_chk cL_adds 4 kL_adds = true := by decide +kernel
set_option maxRecDepth 100000 in
theorem kL_adds_cst : ∀ en ∈ kL_adds, fw_CstOK RL [] en := by
  have h : kL_adds.all (fw_cstq cp_L) = true := by decide +kernel
  exact fun en he => fw_cstX cp_L_ok (fun i v hq => nomatch hq) (List.all_eq_true.mp h en he)
abbrev hL_adds : List (Nat × Nat × Nat × Nat) := [(0, 6, 7, 83), (0, 6, 11, 85)]
theorem wc_L_adds : Cond.codeWith yL_adds cL_adds 4 (some .int) hL_adds ∈ fw_LW := fw_t1 206 (by decide +kernel) (by decide +kernel)
def kL_areas : List fw_Ent := [
  (0, 1, .aload_n 0, 0, 0), (1, 1, .iload_n 1, 0, 0), (2, 1, .iload_n 2, 0, 0), (3, 3, .invokevirtual 87, 0, 0),
  (6, 1, .ireturn, 0, 0), (7, 1, .astore_n 3, 0, 0), (8, 2, .ldc 51, (-100001), 0), (10, 1, .ireturn, 0, 0),
  (11, 1, .astore_n 3, 0, 0), (12, 2, .ldc 56, (-100002), 0), (14, 1, .ireturn, 0, 0)]
theorem kL_areas_ok : fw_chk cL_areas 4 kL_areas = true := by decide +kernel
set_option maxRecDepth 100000 in
theorem kL_areas_cst : ∀ en ∈ kL_areas, fw_CstOK RL [] en := by
  have h : kL_areas.all (fw_cstq cp_L) = true := by decide +kernel
  exact fun en he => fw_cstX cp_L_ok (fun i v hq => nomatch hq) (List.all_eq_true.mp h en he)
abbrev hL_areas : List (Nat × Nat × Nat × Nat) := [(0, 6, 7, 90), (0, 6, 11, 83)]
theorem wc_L_areas : Cond.codeWith yL_areas cL_areas 4 (some .int) hL_areas ∈ fw_LW := fw_t2 114 (by decide +kernel) (by decide +kernel)
def kL_gives : List fw_Ent := [
  (0, 1, .aload_n 0, 0, 0), (1, 1, .iload_n 1, 0, 0), (2, 1, .iload_n 2, 0, 0), (3, 1, .iload_n 3, 0, 0),
  (4, 2, .iload 4, 0, 0), (6, 3, .invokevirtual 92, 0, 0), (9, 1, .ireturn, 0, 0), (10, 2, .astore 5, 0, 0),
  (12, 2, .ldc 56, (-100002), 0), (14, 1, .ireturn, 0, 0), (15, 2, .astore 5, 0, 0), (17, 2, .ldc 47, (-100003), 0),
  (19, 1, .ireturn, 0, 0)]
theorem kL_gives_ok : fw_chk cL_gives 6 kL_gives = true := by decide +kernel
set_option maxRecDepth 100000 in
theorem kL_gives_cst : ∀ en ∈ kL_gives, fw_CstOK RL [] en := by
  have h : kL_gives.all (fw_cstq cp_L) = true := by decide +kernel
  exact fun en he => fw_cstX cp_L_ok (fun i v hq => nomatch hq) (List.all_eq_true.mp h en he)
abbrev hL_gives : List (Nat × Nat × Nat × Nat) := [(0, 9, 10, 83), (0, 9, 15, 85)]
theorem wc_L_gives : Cond.codeWith yL_gives cL_gives 6 (some .int) hL_gives ∈ fw_LW := fw_t2 139 (by decide +kernel) (by decide +kernel)
def kL_graces : List fw_Ent := [
  (0, 1, .aload_n 0, 0, 0), (1, 1, .iload_n 1, 0, 0), (2, 3, .invokevirtual 96, 0, 0), (5, 1, .ireturn, 0, 0),
  (6, 1, .astore_n 2, 0, 0), (7, 2, .ldc 56, (-100002), 0), (9, 1, .ireturn, 0, 0)]
theorem kL_graces_ok : fw_chk cL_graces 3 kL_graces = true := by decide +kernel
set_option maxRecDepth 100000 in
theorem kL_graces_cst : ∀ en ∈ kL_graces, fw_CstOK RL [] en := by
  have h : kL_graces.all (fw_cstq cp_L) = true := by decide +kernel
  exact fun en he => fw_cstX cp_L_ok (fun i v hq => nomatch hq) (List.all_eq_true.mp h en he)
abbrev hL_graces : List (Nat × Nat × Nat × Nat) := [(0, 5, 6, 83)]
theorem wc_L_graces : Cond.codeWith yL_graces cL_graces 3 (some .int) hL_graces ∈ fw_LW := fw_t2 160 (by decide +kernel) (by decide +kernel)
def kL_dropsOf : List fw_Ent := [
  (0, 1, .aload_n 0, 0, 0), (1, 1, .iload_n 1, 0, 0), (2, 3, .invokevirtual 99, 0, 0), (5, 1, .ireturn, 0, 0),
  (6, 1, .astore_n 2, 0, 0), (7, 2, .ldc 51, (-100001), 0), (9, 1, .ireturn, 0, 0)]
theorem kL_dropsOf_ok : fw_chk cL_dropsOf 3 kL_dropsOf = true := by decide +kernel
set_option maxRecDepth 100000 in
theorem kL_dropsOf_cst : ∀ en ∈ kL_dropsOf, fw_CstOK RL [] en := by
  have h : kL_dropsOf.all (fw_cstq cp_L) = true := by decide +kernel
  exact fun en he => fw_cstX cp_L_ok (fun i v hq => nomatch hq) (List.all_eq_true.mp h en he)
abbrev hL_dropsOf : List (Nat × Nat × Nat × Nat) := [(0, 5, 6, 90)]
theorem wc_L_dropsOf : Cond.codeWith yL_dropsOf cL_dropsOf 3 (some .int) hL_dropsOf ∈ fw_LW := fw_t2 167 (by decide +kernel) (by decide +kernel)
def kL_runs : List fw_Ent := [
  (0, 1, .aload_n 0, 0, 0), (1, 1, .iload_n 1, 0, 0), (2, 3, .invokevirtual 102, 0, 0), (5, 1, .ireturn, 0, 0),
  (6, 1, .astore_n 2, 0, 0), (7, 2, .ldc 56, (-100002), 0), (9, 1, .ireturn, 0, 0), (10, 1, .astore_n 2, 0, 0),
  (11, 2, .ldc 47, (-100003), 0), (13, 1, .ireturn, 0, 0)]
theorem kL_runs_ok : fw_chk cL_runs 3 kL_runs = true := by decide +kernel
set_option maxRecDepth 100000 in
theorem kL_runs_cst : ∀ en ∈ kL_runs, fw_CstOK RL [] en := by
  have h : kL_runs.all (fw_cstq cp_L) = true := by decide +kernel
  exact fun en he => fw_cstX cp_L_ok (fun i v hq => nomatch hq) (List.all_eq_true.mp h en he)
abbrev hL_runs : List (Nat × Nat × Nat × Nat) := [(0, 5, 6, 83), (0, 5, 10, 85)]
theorem wc_L_runs : Cond.codeWith yL_runs cL_runs 3 (some .int) hL_runs ∈ fw_LW := fw_t2 182 (by decide +kernel) (by decide +kernel)
def kL_valueOf : List fw_Ent := [
  (0, 1, .aload_n 0, 0, 0), (1, 1, .iload_n 1, 0, 0), (2, 3, .invokevirtual 105, 0, 0), (5, 1, .ireturn, 0, 0),
  (6, 1, .astore_n 2, 0, 0), (7, 2, .ldc 56, (-100002), 0), (9, 1, .ireturn, 0, 0)]
theorem kL_valueOf_ok : fw_chk cL_valueOf 3 kL_valueOf = true := by decide +kernel
set_option maxRecDepth 100000 in
theorem kL_valueOf_cst : ∀ en ∈ kL_valueOf, fw_CstOK RL [] en := by
  have h : kL_valueOf.all (fw_cstq cp_L) = true := by decide +kernel
  exact fun en he => fw_cstX cp_L_ok (fun i v hq => nomatch hq) (List.all_eq_true.mp h en he)
abbrev hL_valueOf : List (Nat × Nat × Nat × Nat) := [(0, 5, 6, 83)]
theorem wc_L_valueOf : Cond.codeWith yL_valueOf cL_valueOf 3 (some .int) hL_valueOf ∈ fw_LW := fw_t3 51 (by decide +kernel) (by decide +kernel)
def kL_courierOf : List fw_Ent := [
  (0, 1, .aload_n 0, 0, 0), (1, 1, .iload_n 1, 0, 0), (2, 1, .iload_n 2, 0, 0), (3, 3, .invokevirtual 108, 0, 0),
  (6, 1, .ireturn, 0, 0), (7, 1, .astore_n 3, 0, 0), (8, 2, .ldc 51, (-100001), 0), (10, 1, .ireturn, 0, 0),
  (11, 1, .astore_n 3, 0, 0), (12, 2, .ldc 56, (-100002), 0), (14, 1, .ireturn, 0, 0)]
theorem kL_courierOf_ok : fw_chk cL_courierOf 4 kL_courierOf = true := by decide +kernel
set_option maxRecDepth 100000 in
theorem kL_courierOf_cst : ∀ en ∈ kL_courierOf, fw_CstOK RL [] en := by
  have h : kL_courierOf.all (fw_cstq cp_L) = true := by decide +kernel
  exact fun en he => fw_cstX cp_L_ok (fun i v hq => nomatch hq) (List.all_eq_true.mp h en he)
abbrev hL_courierOf : List (Nat × Nat × Nat × Nat) := [(0, 6, 7, 90), (0, 6, 11, 83)]
theorem wc_L_courierOf : Cond.codeWith yL_courierOf cL_courierOf 4 (some .int) hL_courierOf ∈ fw_LW := fw_t3 63 (by decide +kernel) (by decide +kernel)
def kL_parcelOf : List fw_Ent := [
  (0, 1, .aload_n 0, 0, 0), (1, 1, .iload_n 1, 0, 0), (2, 1, .iload_n 2, 0, 0), (3, 3, .invokevirtual 111, 0, 0),
  (6, 1, .ireturn, 0, 0), (7, 1, .astore_n 3, 0, 0), (8, 2, .ldc 51, (-100001), 0), (10, 1, .ireturn, 0, 0),
  (11, 1, .astore_n 3, 0, 0), (12, 2, .ldc 56, (-100002), 0), (14, 1, .ireturn, 0, 0)]
theorem kL_parcelOf_ok : fw_chk cL_parcelOf 4 kL_parcelOf = true := by decide +kernel
set_option maxRecDepth 100000 in
theorem kL_parcelOf_cst : ∀ en ∈ kL_parcelOf, fw_CstOK RL [] en := by
  have h : kL_parcelOf.all (fw_cstq cp_L) = true := by decide +kernel
  exact fun en he => fw_cstX cp_L_ok (fun i v hq => nomatch hq) (List.all_eq_true.mp h en he)
abbrev hL_parcelOf : List (Nat × Nat × Nat × Nat) := [(0, 6, 7, 90), (0, 6, 11, 83)]
theorem wc_L_parcelOf : Cond.codeWith yL_parcelOf cL_parcelOf 4 (some .int) hL_parcelOf ∈ fw_LW := fw_t3 82 (by decide +kernel) (by decide +kernel)
def kL_legsOf : List fw_Ent := [
  (0, 1, .aload_n 0, 0, 0), (1, 1, .iload_n 1, 0, 0), (2, 1, .iload_n 2, 0, 0), (3, 1, .iload_n 3, 0, 0),
  (4, 3, .invokevirtual 114, 0, 0), (7, 1, .ireturn, 0, 0), (8, 2, .astore 4, 0, 0), (10, 2, .ldc 51, (-100001), 0),
  (12, 1, .ireturn, 0, 0)]
theorem kL_legsOf_ok : fw_chk cL_legsOf 5 kL_legsOf = true := by decide +kernel
set_option maxRecDepth 100000 in
theorem kL_legsOf_cst : ∀ en ∈ kL_legsOf, fw_CstOK RL [] en := by
  have h : kL_legsOf.all (fw_cstq cp_L) = true := by decide +kernel
  exact fun en he => fw_cstX cp_L_ok (fun i v hq => nomatch hq) (List.all_eq_true.mp h en he)
abbrev hL_legsOf : List (Nat × Nat × Nat × Nat) := [(0, 7, 8, 90)]
theorem wc_L_legsOf : Cond.codeWith yL_legsOf cL_legsOf 5 (some .int) hL_legsOf ∈ fw_LW := fw_t3 97 (by decide +kernel) (by decide +kernel)
def kL_farOf : List fw_Ent := [
  (0, 1, .aload_n 0, 0, 0), (1, 1, .iload_n 1, 0, 0), (2, 1, .iload_n 2, 0, 0), (3, 3, .invokevirtual 118, 0, 0),
  (6, 1, .ireturn, 0, 0), (7, 1, .astore_n 3, 0, 0), (8, 2, .ldc 51, (-100001), 0), (10, 1, .ireturn, 0, 0)]
theorem kL_farOf_ok : fw_chk cL_farOf 4 kL_farOf = true := by decide +kernel
set_option maxRecDepth 100000 in
theorem kL_farOf_cst : ∀ en ∈ kL_farOf, fw_CstOK RL [] en := by
  have h : kL_farOf.all (fw_cstq cp_L) = true := by decide +kernel
  exact fun en he => fw_cstX cp_L_ok (fun i v hq => nomatch hq) (List.all_eq_true.mp h en he)
abbrev hL_farOf : List (Nat × Nat × Nat × Nat) := [(0, 6, 7, 90)]
theorem wc_L_farOf : Cond.codeWith yL_farOf cL_farOf 4 (some .int) hL_farOf ∈ fw_LW := fw_t3 106 (by decide +kernel) (by decide +kernel)
def kL_isSo : List fw_Ent := [
  (5, 1, .iconst 0, 0, 0), (6, 2, .istore 7, 0, 0), (8, 1, .iconst 0, 0, 0), (9, 2, .istore 8, 0, 0),
  (11, 1, .iconst 0, 0, 0), (12, 2, .istore 9, 0, 0), (14, 1, .iconst 0, 0, 0), (15, 2, .istore 10, 0, 0),
  (17, 1, .aload_n 0, 0, 0), (18, 1, .iconst 0, 0, 0), (19, 3, .invokestatic 121, 0, 0), (22, 1, .aload_n 1, 0, 0),
  (23, 1, .iconst 0, 0, 0), (24, 1, .iaload, 0, 0), (25, 3, .if_icmp .ne 77, 0, 102), (28, 1, .aload_n 0, 0, 0),
  (29, 1, .iconst 1, 1, 0), (30, 3, .invokestatic 121, 0, 0), (33, 1, .aload_n 1, 0, 0), (34, 1, .iconst 2, 2, 0),
  (35, 1, .iaload, 0, 0), (36, 3, .if_icmp .ne 66, 0, 102), (39, 1, .aload_n 0, 0, 0), (40, 1, .iconst 2, 2, 0),
  (41, 3, .invokestatic 121, 0, 0), (44, 1, .aload_n 1, 0, 0), (45, 1, .iconst 3, 3, 0), (46, 1, .iaload, 0, 0),
  (47, 3, .if_icmp .ne 55, 0, 102), (50, 1, .aload_n 0, 0, 0), (51, 1, .iconst 3, 3, 0), (52, 3, .invokestatic 121, 0, 0),
  (55, 1, .aload_n 1, 0, 0), (56, 1, .iconst 1, 1, 0), (57, 1, .iaload, 0, 0), (58, 3, .if_icmp .ne 44, 0, 102),
  (61, 1, .aload_n 0, 0, 0), (62, 2, .bipush 8, 8, 0), (64, 3, .invokestatic 121, 0, 0), (67, 1, .aload_n 1, 0, 0),
  (68, 2, .bipush 6, 6, 0), (70, 1, .iaload, 0, 0), (71, 3, .if_icmp .ne 31, 0, 102), (74, 1, .aload_n 0, 0, 0),
  (75, 2, .bipush 9, 9, 0), (77, 3, .invokestatic 121, 0, 0), (80, 1, .aload_n 1, 0, 0), (81, 1, .iconst 4, 4, 0),
  (82, 1, .iaload, 0, 0), (83, 3, .if_icmp .ne 19, 0, 102), (86, 1, .aload_n 0, 0, 0), (87, 2, .bipush 10, 10, 0),
  (89, 3, .invokestatic 121, 0, 0), (92, 1, .aload_n 1, 0, 0), (93, 1, .iconst 5, 5, 0), (94, 1, .iaload, 0, 0),
  (95, 3, .if_icmp .ne 7, 0, 102), (98, 1, .iconst 1, 1, 0), (99, 3, .goto 4, 0, 103), (102, 1, .iconst 0, 0, 0),
  (103, 2, .istore 11, 0, 0), (105, 1, .iconst 0, 0, 0), (106, 2, .istore 12, 0, 0), (108, 2, .iload 12, 0, 0),
  (110, 1, .aload_n 1, 0, 0), (111, 1, .iconst 2, 2, 0), (112, 1, .iaload, 0, 0), (113, 3, .if_icmp .ge 216, 0, 329),
  (116, 2, .iload 11, 0, 0), (118, 3, .ifCond .eq 211, 0, 329), (121, 1, .iconst 0, 0, 0), (122, 2, .istore 13, 0, 0),
  (124, 1, .iconst 0, 0, 0), (125, 2, .istore 14, 0, 0), (127, 2, .iload 14, 0, 0), (129, 1, .aload_n 1, 0, 0),
  (130, 1, .iconst 3, 3, 0), (131, 1, .iaload, 0, 0), (132, 3, .if_icmp .ge 25, 0, 157), (135, 2, .iload 13, 0, 0),
  (137, 2, .aload 4, 0, 0), (139, 2, .bipush 6, 6, 0), (141, 2, .iload 14, 0, 0), (143, 1, .imul, 0, 0),
  (144, 2, .iload 12, 0, 0), (146, 1, .iadd, 0, 0), (147, 1, .iaload, 0, 0), (148, 1, .iadd, 0, 0),
  (149, 2, .istore 13, 0, 0), (151, 3, .iinc 14 1, 1, 0), (154, 3, .goto (-27), 0, 127), (157, 2, .iload 7, 0, 0),
  (159, 1, .aload_n 2, 0, 0), (160, 1, .iconst 5, 5, 0), (161, 2, .iload 12, 0, 0), (163, 1, .imul, 0, 0),
  (164, 1, .iconst 2, 2, 0), (165, 1, .iadd, 0, 0), (166, 1, .iaload, 0, 0), (167, 1, .iadd, 0, 0),
  (168, 2, .istore 7, 0, 0), (170, 2, .iload 9, 0, 0), (172, 2, .iload 13, 0, 0), (174, 1, .iadd, 0, 0),
  (175, 2, .istore 9, 0, 0), (177, 2, .iload 10, 0, 0), (179, 1, .aload_n 2, 0, 0), (180, 1, .iconst 5, 5, 0),
  (181, 2, .iload 12, 0, 0), (183, 1, .imul, 0, 0), (184, 1, .iconst 3, 3, 0), (185, 1, .iadd, 0, 0),
  (186, 1, .iaload, 0, 0), (187, 1, .iconst 2, 2, 0), (188, 3, .if_icmp .ne 7, 0, 195), (191, 1, .iconst 1, 1, 0),
  (192, 3, .goto 4, 0, 196), (195, 1, .iconst 0, 0, 0), (196, 1, .iadd, 0, 0), (197, 2, .istore 10, 0, 0),
  (199, 1, .iconst 0, 0, 0), (200, 2, .istore 14, 0, 0), (202, 2, .iload 14, 0, 0), (204, 1, .iconst 5, 5, 0),
  (205, 3, .if_icmp .ge 41, 0, 246), (208, 2, .iload 11, 0, 0), (210, 3, .ifCond .eq 27, 0, 237), (213, 1, .aload_n 0, 0, 0),
  (214, 2, .iload 12, 0, 0), (216, 2, .iload 14, 0, 0), (218, 3, .invokestatic 124, 0, 0), (221, 1, .aload_n 2, 0, 0),
  (222, 1, .iconst 5, 5, 0), (223, 2, .iload 12, 0, 0), (225, 1, .imul, 0, 0), (226, 2, .iload 14, 0, 0),
  (228, 1, .iadd, 0, 0), (229, 1, .iaload, 0, 0), (230, 3, .if_icmp .ne 7, 0, 237), (233, 1, .iconst 1, 1, 0),
  (234, 3, .goto 4, 0, 238), (237, 1, .iconst 0, 0, 0), (238, 2, .istore 11, 0, 0), (240, 3, .iinc 14 1, 1, 0),
  (243, 3, .goto (-41), 0, 202), (246, 2, .iload 11, 0, 0), (248, 3, .ifCond .eq 72, 0, 320), (251, 1, .aload_n 0, 0, 0),
  (252, 2, .iload 12, 0, 0), (254, 1, .iconst 5, 5, 0), (255, 3, .invokestatic 124, 0, 0), (258, 2, .iload 13, 0, 0),
  (260, 3, .if_icmp .ne 60, 0, 320), (263, 1, .aload_n 2, 0, 0), (264, 1, .iconst 5, 5, 0), (265, 2, .iload 12, 0, 0),
  (267, 1, .imul, 0, 0), (268, 1, .iconst 3, 3, 0), (269, 1, .iadd, 0, 0), (270, 1, .iaload, 0, 0),
  (271, 1, .iconst 2, 2, 0), (272, 3, .if_icmp .lt 44, 0, 316), (275, 1, .aload_n 0, 0, 0), (276, 1, .aload_n 2, 0, 0),
  (277, 1, .iconst 5, 5, 0), (278, 2, .iload 12, 0, 0), (280, 1, .imul, 0, 0), (281, 1, .iconst 4, 4, 0),
  (282, 1, .iadd, 0, 0), (283, 1, .iaload, 0, 0), (284, 1, .iconst 5, 5, 0), (285, 3, .invokestatic 127, 0, 0),
  (288, 1, .aload_n 2, 0, 0), (289, 1, .iconst 5, 5, 0), (290, 2, .iload 12, 0, 0), (292, 1, .imul, 0, 0),
  (293, 1, .iconst 1, 1, 0), (294, 1, .iadd, 0, 0), (295, 1, .iaload, 0, 0), (296, 3, .if_icmp .ne 24, 0, 320),
  (299, 1, .aload_n 0, 0, 0), (300, 1, .aload_n 2, 0, 0), (301, 1, .iconst 5, 5, 0), (302, 2, .iload 12, 0, 0),
  (304, 1, .imul, 0, 0), (305, 1, .iconst 4, 4, 0), (306, 1, .iadd, 0, 0), (307, 1, .iaload, 0, 0),
  (308, 1, .iconst 4, 4, 0), (309, 3, .invokestatic 127, 0, 0), (312, 1, .iconst 1, 1, 0), (313, 3, .if_icmp .ne 7, 0, 320),
  (316, 1, .iconst 1, 1, 0), (317, 3, .goto 4, 0, 321), (320, 1, .iconst 0, 0, 0), (321, 2, .istore 11, 0, 0),
  (323, 3, .iinc 12 1, 1, 0), (326, 3, .goto (-218), 0, 108), (329, 1, .iconst 0, 0, 0), (330, 2, .istore 12, 0, 0),
  (332, 2, .iload 12, 0, 0), (334, 1, .aload_n 1, 0, 0), (335, 1, .iconst 3, 3, 0), (336, 1, .iaload, 0, 0),
  (337, 3, .if_icmp .ge 272, 0, 609), (340, 2, .iload 11, 0, 0), (342, 3, .ifCond .eq 267, 0, 609), (345, 1, .iconst 0, 0, 0),
  (346, 2, .istore 13, 0, 0), (348, 1, .iconst 0, 0, 0), (349, 2, .istore 14, 0, 0), (351, 2, .aload 6, 0, 0),
  (353, 1, .aload_n 3, 0, 0), (354, 2, .bipush 8, 8, 0), (356, 2, .iload 12, 0, 0), (358, 1, .imul, 0, 0),
  (359, 1, .iconst 4, 4, 0), (360, 1, .iadd, 0, 0), (361, 1, .iaload, 0, 0), (362, 1, .dup2, 0, 0),
  (363, 1, .iaload, 0, 0), (364, 1, .iconst 1, 1, 0), (365, 1, .iadd, 0, 0), (366, 1, .iastore, 0, 0),
  (367, 2, .iload 8, 0, 0), (369, 1, .aload_n 3, 0, 0), (370, 2, .bipush 8, 8, 0), (372, 2, .iload 12, 0, 0),
  (374, 1, .imul, 0, 0), (375, 2, .bipush 7, 7, 0), (377, 1, .iadd, 0, 0), (378, 1, .iaload, 0, 0),
  (379, 1, .iadd, 0, 0), (380, 2, .istore 8, 0, 0), (382, 1, .iconst 0, 0, 0), (383, 2, .istore 15, 0, 0),
  (385, 2, .iload 15, 0, 0), (387, 2, .bipush 8, 8, 0), (389, 3, .if_icmp .ge 42, 0, 431), (392, 2, .iload 11, 0, 0),
  (394, 3, .ifCond .eq 28, 0, 422), (397, 1, .aload_n 0, 0, 0), (398, 2, .iload 12, 0, 0), (400, 2, .iload 15, 0, 0),
  (402, 3, .invokestatic 127, 0, 0), (405, 1, .aload_n 3, 0, 0), (406, 2, .bipush 8, 8, 0), (408, 2, .iload 12, 0, 0),
  (410, 1, .imul, 0, 0), (411, 2, .iload 15, 0, 0), (413, 1, .iadd, 0, 0), (414, 1, .iaload, 0, 0),
  (415, 3, .if_icmp .ne 7, 0, 422), (418, 1, .iconst 1, 1, 0), (419, 3, .goto 4, 0, 423), (422, 1, .iconst 0, 0, 0),
  (423, 2, .istore 11, 0, 0), (425, 3, .iinc 15 1, 1, 0), (428, 3, .goto (-43), 0, 385), (431, 1, .iconst 0, 0, 0),
  (432, 2, .istore 15, 0, 0), (434, 2, .iload 15, 0, 0), (436, 1, .aload_n 1, 0, 0), (437, 1, .iconst 2, 2, 0),
  (438, 1, .iaload, 0, 0), (439, 3, .if_icmp .ge 99, 0, 538), (442, 2, .iload 13, 0, 0), (444, 2, .aload 4, 0, 0),
  (446, 2, .bipush 6, 6, 0), (448, 2, .iload 12, 0, 0), (450, 1, .imul, 0, 0), (451, 2, .iload 15, 0, 0),
  (453, 1, .iadd, 0, 0), (454, 1, .iaload, 0, 0), (455, 1, .iadd, 0, 0), (456, 2, .istore 13, 0, 0),
  (458, 2, .iload 14, 0, 0), (460, 2, .aload 5, 0, 0), (462, 2, .bipush 6, 6, 0), (464, 2, .iload 12, 0, 0),
  (466, 1, .imul, 0, 0), (467, 2, .iload 15, 0, 0), (469, 1, .iadd, 0, 0), (470, 1, .iaload, 0, 0),
  (471, 1, .iadd, 0, 0), (472, 2, .istore 14, 0, 0), (474, 2, .iload 11, 0, 0), (476, 3, .ifCond .eq 53, 0, 529),
  (479, 1, .aload_n 0, 0, 0), (480, 2, .iload 12, 0, 0), (482, 2, .iload 15, 0, 0), (484, 1, .iconst 0, 0, 0),
  (485, 3, .invokestatic 130, 0, 0), (488, 2, .aload 4, 0, 0), (490, 2, .bipush 6, 6, 0), (492, 2, .iload 12, 0, 0),
  (494, 1, .imul, 0, 0), (495, 2, .iload 15, 0, 0), (497, 1, .iadd, 0, 0), (498, 1, .iaload, 0, 0),
  (499, 3, .if_icmp .ne 30, 0, 529), (502, 1, .aload_n 0, 0, 0), (503, 2, .iload 12, 0, 0), (505, 2, .iload 15, 0, 0),
  (507, 1, .iconst 1, 1, 0), (508, 3, .invokestatic 130, 0, 0), (511, 2, .aload 5, 0, 0), (513, 2, .bipush 6, 6, 0),
  (515, 2, .iload 12, 0, 0), (517, 1, .imul, 0, 0), (518, 2, .iload 15, 0, 0), (520, 1, .iadd, 0, 0),
  (521, 1, .iaload, 0, 0), (522, 3, .if_icmp .ne 7, 0, 529), (525, 1, .iconst 1, 1, 0), (526, 3, .goto 4, 0, 530),
  (529, 1, .iconst 0, 0, 0), (530, 2, .istore 11, 0, 0), (532, 3, .iinc 15 1, 1, 0), (535, 3, .goto (-101), 0, 434),
  (538, 2, .iload 11, 0, 0), (540, 3, .ifCond .eq 60, 0, 600), (543, 1, .aload_n 0, 0, 0), (544, 2, .iload 12, 0, 0),
  (546, 2, .bipush 8, 8, 0), (548, 3, .invokestatic 127, 0, 0), (551, 2, .iload 13, 0, 0), (553, 3, .if_icmp .ne 47, 0, 600),
  (556, 2, .iload 13, 0, 0), (558, 1, .aload_n 0, 0, 0), (559, 1, .aload_n 3, 0, 0), (560, 2, .bipush 8, 8, 0),
  (562, 2, .iload 12, 0, 0), (564, 1, .imul, 0, 0), (565, 1, .iaload, 0, 0), (566, 1, .aload_n 3, 0, 0),
  (567, 2, .bipush 8, 8, 0), (569, 2, .iload 12, 0, 0), (571, 1, .imul, 0, 0), (572, 1, .iconst 5, 5, 0),
  (573, 1, .iadd, 0, 0), (574, 1, .iaload, 0, 0), (575, 3, .invokestatic 134, 0, 0), (578, 3, .if_icmp .ne 22, 0, 600),
  (581, 2, .iload 14, 0, 0), (583, 1, .aload_n 3, 0, 0), (584, 2, .bipush 8, 8, 0), (586, 2, .iload 12, 0, 0),
  (588, 1, .imul, 0, 0), (589, 2, .bipush 7, 7, 0), (591, 1, .iadd, 0, 0), (592, 1, .iaload, 0, 0),
  (593, 3, .if_icmp .ne 7, 0, 600), (596, 1, .iconst 1, 1, 0), (597, 3, .goto 4, 0, 601), (600, 1, .iconst 0, 0, 0),
  (601, 2, .istore 11, 0, 0), (603, 3, .iinc 12 1, 1, 0), (606, 3, .goto (-274), 0, 332), (609, 2, .iload 11, 0, 0),
  (611, 3, .ifCond .eq 92, 0, 703), (614, 1, .aload_n 0, 0, 0), (615, 1, .iconst 4, 4, 0), (616, 3, .invokestatic 121, 0, 0),
  (619, 2, .aload 6, 0, 0), (621, 1, .iconst 0, 0, 0), (622, 1, .iaload, 0, 0), (623, 3, .if_icmp .ne 80, 0, 703),
  (626, 1, .aload_n 0, 0, 0), (627, 1, .iconst 5, 5, 0), (628, 3, .invokestatic 121, 0, 0), (631, 2, .aload 6, 0, 0),
  (633, 1, .iconst 1, 1, 0), (634, 1, .iaload, 0, 0), (635, 3, .if_icmp .ne 68, 0, 703), (638, 1, .aload_n 0, 0, 0),
  (639, 2, .bipush 6, 6, 0), (641, 3, .invokestatic 121, 0, 0), (644, 2, .aload 6, 0, 0), (646, 1, .iconst 2, 2, 0),
  (647, 1, .iaload, 0, 0), (648, 3, .if_icmp .ne 55, 0, 703), (651, 1, .aload_n 0, 0, 0), (652, 2, .bipush 7, 7, 0),
  (654, 3, .invokestatic 121, 0, 0), (657, 2, .aload 6, 0, 0), (659, 1, .iconst 3, 3, 0), (660, 1, .iaload, 0, 0),
  (661, 3, .if_icmp .ne 42, 0, 703), (664, 2, .iload 10, 0, 0), (666, 2, .aload 6, 0, 0), (668, 1, .iconst 1, 1, 0),
  (669, 1, .iaload, 0, 0), (670, 3, .if_icmp .ne 33, 0, 703), (673, 2, .iload 7, 0, 0), (675, 1, .aload_n 1, 0, 0),
  (676, 2, .bipush 6, 6, 0), (678, 1, .iaload, 0, 0), (679, 3, .if_icmp .ne 24, 0, 703), (682, 2, .iload 8, 0, 0),
  (684, 1, .aload_n 1, 0, 0), (685, 2, .bipush 6, 6, 0), (687, 1, .iaload, 0, 0), (688, 3, .if_icmp .ne 15, 0, 703),
  (691, 2, .iload 9, 0, 0), (693, 1, .aload_n 1, 0, 0), (694, 1, .iconst 5, 5, 0), (695, 1, .iaload, 0, 0),
  (696, 3, .if_icmp .gt 7, 0, 703), (699, 1, .iconst 1, 1, 0), (700, 3, .goto 4, 0, 704), (703, 1, .iconst 0, 0, 0),
  (704, 1, .ireturn, 0, 0)]
def kL_isSo_0 : List fw_Ent := [
  (5, 1, .iconst 0, 0, 0), (6, 2, .istore 7, 0, 0), (8, 1, .iconst 0, 0, 0), (9, 2, .istore 8, 0, 0),
  (11, 1, .iconst 0, 0, 0), (12, 2, .istore 9, 0, 0), (14, 1, .iconst 0, 0, 0), (15, 2, .istore 10, 0, 0),
  (17, 1, .aload_n 0, 0, 0), (18, 1, .iconst 0, 0, 0), (19, 3, .invokestatic 121, 0, 0), (22, 1, .aload_n 1, 0, 0),
  (23, 1, .iconst 0, 0, 0), (24, 1, .iaload, 0, 0), (25, 3, .if_icmp .ne 77, 0, 102), (28, 1, .aload_n 0, 0, 0),
  (29, 1, .iconst 1, 1, 0), (30, 3, .invokestatic 121, 0, 0), (33, 1, .aload_n 1, 0, 0), (34, 1, .iconst 2, 2, 0),
  (35, 1, .iaload, 0, 0), (36, 3, .if_icmp .ne 66, 0, 102), (39, 1, .aload_n 0, 0, 0), (40, 1, .iconst 2, 2, 0),
  (41, 3, .invokestatic 121, 0, 0), (44, 1, .aload_n 1, 0, 0), (45, 1, .iconst 3, 3, 0), (46, 1, .iaload, 0, 0),
  (47, 3, .if_icmp .ne 55, 0, 102), (50, 1, .aload_n 0, 0, 0), (51, 1, .iconst 3, 3, 0), (52, 3, .invokestatic 121, 0, 0),
  (55, 1, .aload_n 1, 0, 0), (56, 1, .iconst 1, 1, 0), (57, 1, .iaload, 0, 0), (58, 3, .if_icmp .ne 44, 0, 102),
  (61, 1, .aload_n 0, 0, 0), (62, 2, .bipush 8, 8, 0), (64, 3, .invokestatic 121, 0, 0), (67, 1, .aload_n 1, 0, 0),
  (68, 2, .bipush 6, 6, 0), (70, 1, .iaload, 0, 0), (71, 3, .if_icmp .ne 31, 0, 102), (74, 1, .aload_n 0, 0, 0),
  (75, 2, .bipush 9, 9, 0), (77, 3, .invokestatic 121, 0, 0), (80, 1, .aload_n 1, 0, 0), (81, 1, .iconst 4, 4, 0),
  (82, 1, .iaload, 0, 0), (83, 3, .if_icmp .ne 19, 0, 102)]
set_option maxRecDepth 100000 in
theorem kL_isSo_0_ok : kL_isSo_0.all (fw_rowq cL_isSo 16) = true := by decide +kernel
def kL_isSo_1 : List fw_Ent := [
  (86, 1, .aload_n 0, 0, 0), (87, 2, .bipush 10, 10, 0), (89, 3, .invokestatic 121, 0, 0), (92, 1, .aload_n 1, 0, 0),
  (93, 1, .iconst 5, 5, 0), (94, 1, .iaload, 0, 0), (95, 3, .if_icmp .ne 7, 0, 102), (98, 1, .iconst 1, 1, 0),
  (99, 3, .goto 4, 0, 103), (102, 1, .iconst 0, 0, 0), (103, 2, .istore 11, 0, 0), (105, 1, .iconst 0, 0, 0),
  (106, 2, .istore 12, 0, 0), (108, 2, .iload 12, 0, 0), (110, 1, .aload_n 1, 0, 0), (111, 1, .iconst 2, 2, 0),
  (112, 1, .iaload, 0, 0), (113, 3, .if_icmp .ge 216, 0, 329), (116, 2, .iload 11, 0, 0), (118, 3, .ifCond .eq 211, 0, 329),
  (121, 1, .iconst 0, 0, 0), (122, 2, .istore 13, 0, 0), (124, 1, .iconst 0, 0, 0), (125, 2, .istore 14, 0, 0),
  (127, 2, .iload 14, 0, 0), (129, 1, .aload_n 1, 0, 0), (130, 1, .iconst 3, 3, 0), (131, 1, .iaload, 0, 0),
  (132, 3, .if_icmp .ge 25, 0, 157), (135, 2, .iload 13, 0, 0), (137, 2, .aload 4, 0, 0), (139, 2, .bipush 6, 6, 0),
  (141, 2, .iload 14, 0, 0), (143, 1, .imul, 0, 0), (144, 2, .iload 12, 0, 0), (146, 1, .iadd, 0, 0),
  (147, 1, .iaload, 0, 0), (148, 1, .iadd, 0, 0), (149, 2, .istore 13, 0, 0), (151, 3, .iinc 14 1, 1, 0),
  (154, 3, .goto (-27), 0, 127), (157, 2, .iload 7, 0, 0), (159, 1, .aload_n 2, 0, 0), (160, 1, .iconst 5, 5, 0),
  (161, 2, .iload 12, 0, 0), (163, 1, .imul, 0, 0), (164, 1, .iconst 2, 2, 0), (165, 1, .iadd, 0, 0),
  (166, 1, .iaload, 0, 0), (167, 1, .iadd, 0, 0)]
set_option maxRecDepth 100000 in
theorem kL_isSo_1_ok : kL_isSo_1.all (fw_rowq cL_isSo 16) = true := by decide +kernel
def kL_isSo_2 : List fw_Ent := [
  (168, 2, .istore 7, 0, 0), (170, 2, .iload 9, 0, 0), (172, 2, .iload 13, 0, 0), (174, 1, .iadd, 0, 0),
  (175, 2, .istore 9, 0, 0), (177, 2, .iload 10, 0, 0), (179, 1, .aload_n 2, 0, 0), (180, 1, .iconst 5, 5, 0),
  (181, 2, .iload 12, 0, 0), (183, 1, .imul, 0, 0), (184, 1, .iconst 3, 3, 0), (185, 1, .iadd, 0, 0),
  (186, 1, .iaload, 0, 0), (187, 1, .iconst 2, 2, 0), (188, 3, .if_icmp .ne 7, 0, 195), (191, 1, .iconst 1, 1, 0),
  (192, 3, .goto 4, 0, 196), (195, 1, .iconst 0, 0, 0), (196, 1, .iadd, 0, 0), (197, 2, .istore 10, 0, 0),
  (199, 1, .iconst 0, 0, 0), (200, 2, .istore 14, 0, 0), (202, 2, .iload 14, 0, 0), (204, 1, .iconst 5, 5, 0),
  (205, 3, .if_icmp .ge 41, 0, 246), (208, 2, .iload 11, 0, 0), (210, 3, .ifCond .eq 27, 0, 237), (213, 1, .aload_n 0, 0, 0),
  (214, 2, .iload 12, 0, 0), (216, 2, .iload 14, 0, 0), (218, 3, .invokestatic 124, 0, 0), (221, 1, .aload_n 2, 0, 0),
  (222, 1, .iconst 5, 5, 0), (223, 2, .iload 12, 0, 0), (225, 1, .imul, 0, 0), (226, 2, .iload 14, 0, 0),
  (228, 1, .iadd, 0, 0), (229, 1, .iaload, 0, 0), (230, 3, .if_icmp .ne 7, 0, 237), (233, 1, .iconst 1, 1, 0),
  (234, 3, .goto 4, 0, 238), (237, 1, .iconst 0, 0, 0), (238, 2, .istore 11, 0, 0), (240, 3, .iinc 14 1, 1, 0),
  (243, 3, .goto (-41), 0, 202), (246, 2, .iload 11, 0, 0), (248, 3, .ifCond .eq 72, 0, 320), (251, 1, .aload_n 0, 0, 0),
  (252, 2, .iload 12, 0, 0), (254, 1, .iconst 5, 5, 0)]
set_option maxRecDepth 100000 in
theorem kL_isSo_2_ok : kL_isSo_2.all (fw_rowq cL_isSo 16) = true := by decide +kernel
def kL_isSo_3 : List fw_Ent := [
  (255, 3, .invokestatic 124, 0, 0), (258, 2, .iload 13, 0, 0), (260, 3, .if_icmp .ne 60, 0, 320), (263, 1, .aload_n 2, 0, 0),
  (264, 1, .iconst 5, 5, 0), (265, 2, .iload 12, 0, 0), (267, 1, .imul, 0, 0), (268, 1, .iconst 3, 3, 0),
  (269, 1, .iadd, 0, 0), (270, 1, .iaload, 0, 0), (271, 1, .iconst 2, 2, 0), (272, 3, .if_icmp .lt 44, 0, 316),
  (275, 1, .aload_n 0, 0, 0), (276, 1, .aload_n 2, 0, 0), (277, 1, .iconst 5, 5, 0), (278, 2, .iload 12, 0, 0),
  (280, 1, .imul, 0, 0), (281, 1, .iconst 4, 4, 0), (282, 1, .iadd, 0, 0), (283, 1, .iaload, 0, 0),
  (284, 1, .iconst 5, 5, 0), (285, 3, .invokestatic 127, 0, 0), (288, 1, .aload_n 2, 0, 0), (289, 1, .iconst 5, 5, 0),
  (290, 2, .iload 12, 0, 0), (292, 1, .imul, 0, 0), (293, 1, .iconst 1, 1, 0), (294, 1, .iadd, 0, 0),
  (295, 1, .iaload, 0, 0), (296, 3, .if_icmp .ne 24, 0, 320), (299, 1, .aload_n 0, 0, 0), (300, 1, .aload_n 2, 0, 0),
  (301, 1, .iconst 5, 5, 0), (302, 2, .iload 12, 0, 0), (304, 1, .imul, 0, 0), (305, 1, .iconst 4, 4, 0),
  (306, 1, .iadd, 0, 0), (307, 1, .iaload, 0, 0), (308, 1, .iconst 4, 4, 0), (309, 3, .invokestatic 127, 0, 0),
  (312, 1, .iconst 1, 1, 0), (313, 3, .if_icmp .ne 7, 0, 320), (316, 1, .iconst 1, 1, 0), (317, 3, .goto 4, 0, 321),
  (320, 1, .iconst 0, 0, 0), (321, 2, .istore 11, 0, 0), (323, 3, .iinc 12 1, 1, 0), (326, 3, .goto (-218), 0, 108),
  (329, 1, .iconst 0, 0, 0), (330, 2, .istore 12, 0, 0)]
set_option maxRecDepth 100000 in
theorem kL_isSo_3_ok : kL_isSo_3.all (fw_rowq cL_isSo 16) = true := by decide +kernel
def kL_isSo_4 : List fw_Ent := [
  (332, 2, .iload 12, 0, 0), (334, 1, .aload_n 1, 0, 0), (335, 1, .iconst 3, 3, 0), (336, 1, .iaload, 0, 0),
  (337, 3, .if_icmp .ge 272, 0, 609), (340, 2, .iload 11, 0, 0), (342, 3, .ifCond .eq 267, 0, 609), (345, 1, .iconst 0, 0, 0),
  (346, 2, .istore 13, 0, 0), (348, 1, .iconst 0, 0, 0), (349, 2, .istore 14, 0, 0), (351, 2, .aload 6, 0, 0),
  (353, 1, .aload_n 3, 0, 0), (354, 2, .bipush 8, 8, 0), (356, 2, .iload 12, 0, 0), (358, 1, .imul, 0, 0),
  (359, 1, .iconst 4, 4, 0), (360, 1, .iadd, 0, 0), (361, 1, .iaload, 0, 0), (362, 1, .dup2, 0, 0),
  (363, 1, .iaload, 0, 0), (364, 1, .iconst 1, 1, 0), (365, 1, .iadd, 0, 0), (366, 1, .iastore, 0, 0),
  (367, 2, .iload 8, 0, 0), (369, 1, .aload_n 3, 0, 0), (370, 2, .bipush 8, 8, 0), (372, 2, .iload 12, 0, 0),
  (374, 1, .imul, 0, 0), (375, 2, .bipush 7, 7, 0), (377, 1, .iadd, 0, 0), (378, 1, .iaload, 0, 0),
  (379, 1, .iadd, 0, 0), (380, 2, .istore 8, 0, 0), (382, 1, .iconst 0, 0, 0), (383, 2, .istore 15, 0, 0),
  (385, 2, .iload 15, 0, 0), (387, 2, .bipush 8, 8, 0), (389, 3, .if_icmp .ge 42, 0, 431), (392, 2, .iload 11, 0, 0),
  (394, 3, .ifCond .eq 28, 0, 422), (397, 1, .aload_n 0, 0, 0), (398, 2, .iload 12, 0, 0), (400, 2, .iload 15, 0, 0),
  (402, 3, .invokestatic 127, 0, 0), (405, 1, .aload_n 3, 0, 0), (406, 2, .bipush 8, 8, 0), (408, 2, .iload 12, 0, 0),
  (410, 1, .imul, 0, 0), (411, 2, .iload 15, 0, 0)]
set_option maxRecDepth 100000 in
theorem kL_isSo_4_ok : kL_isSo_4.all (fw_rowq cL_isSo 16) = true := by decide +kernel
def kL_isSo_5 : List fw_Ent := [
  (413, 1, .iadd, 0, 0), (414, 1, .iaload, 0, 0), (415, 3, .if_icmp .ne 7, 0, 422), (418, 1, .iconst 1, 1, 0),
  (419, 3, .goto 4, 0, 423), (422, 1, .iconst 0, 0, 0), (423, 2, .istore 11, 0, 0), (425, 3, .iinc 15 1, 1, 0),
  (428, 3, .goto (-43), 0, 385), (431, 1, .iconst 0, 0, 0), (432, 2, .istore 15, 0, 0), (434, 2, .iload 15, 0, 0),
  (436, 1, .aload_n 1, 0, 0), (437, 1, .iconst 2, 2, 0), (438, 1, .iaload, 0, 0), (439, 3, .if_icmp .ge 99, 0, 538),
  (442, 2, .iload 13, 0, 0), (444, 2, .aload 4, 0, 0), (446, 2, .bipush 6, 6, 0), (448, 2, .iload 12, 0, 0),
  (450, 1, .imul, 0, 0), (451, 2, .iload 15, 0, 0), (453, 1, .iadd, 0, 0), (454, 1, .iaload, 0, 0),
  (455, 1, .iadd, 0, 0), (456, 2, .istore 13, 0, 0), (458, 2, .iload 14, 0, 0), (460, 2, .aload 5, 0, 0),
  (462, 2, .bipush 6, 6, 0), (464, 2, .iload 12, 0, 0), (466, 1, .imul, 0, 0), (467, 2, .iload 15, 0, 0),
  (469, 1, .iadd, 0, 0), (470, 1, .iaload, 0, 0), (471, 1, .iadd, 0, 0), (472, 2, .istore 14, 0, 0),
  (474, 2, .iload 11, 0, 0), (476, 3, .ifCond .eq 53, 0, 529), (479, 1, .aload_n 0, 0, 0), (480, 2, .iload 12, 0, 0),
  (482, 2, .iload 15, 0, 0), (484, 1, .iconst 0, 0, 0), (485, 3, .invokestatic 130, 0, 0), (488, 2, .aload 4, 0, 0),
  (490, 2, .bipush 6, 6, 0), (492, 2, .iload 12, 0, 0), (494, 1, .imul, 0, 0), (495, 2, .iload 15, 0, 0),
  (497, 1, .iadd, 0, 0), (498, 1, .iaload, 0, 0)]
set_option maxRecDepth 100000 in
theorem kL_isSo_5_ok : kL_isSo_5.all (fw_rowq cL_isSo 16) = true := by decide +kernel
def kL_isSo_6 : List fw_Ent := [
  (499, 3, .if_icmp .ne 30, 0, 529), (502, 1, .aload_n 0, 0, 0), (503, 2, .iload 12, 0, 0), (505, 2, .iload 15, 0, 0),
  (507, 1, .iconst 1, 1, 0), (508, 3, .invokestatic 130, 0, 0), (511, 2, .aload 5, 0, 0), (513, 2, .bipush 6, 6, 0),
  (515, 2, .iload 12, 0, 0), (517, 1, .imul, 0, 0), (518, 2, .iload 15, 0, 0), (520, 1, .iadd, 0, 0),
  (521, 1, .iaload, 0, 0), (522, 3, .if_icmp .ne 7, 0, 529), (525, 1, .iconst 1, 1, 0), (526, 3, .goto 4, 0, 530),
  (529, 1, .iconst 0, 0, 0), (530, 2, .istore 11, 0, 0), (532, 3, .iinc 15 1, 1, 0), (535, 3, .goto (-101), 0, 434),
  (538, 2, .iload 11, 0, 0), (540, 3, .ifCond .eq 60, 0, 600), (543, 1, .aload_n 0, 0, 0), (544, 2, .iload 12, 0, 0),
  (546, 2, .bipush 8, 8, 0), (548, 3, .invokestatic 127, 0, 0), (551, 2, .iload 13, 0, 0), (553, 3, .if_icmp .ne 47, 0, 600),
  (556, 2, .iload 13, 0, 0), (558, 1, .aload_n 0, 0, 0), (559, 1, .aload_n 3, 0, 0), (560, 2, .bipush 8, 8, 0),
  (562, 2, .iload 12, 0, 0), (564, 1, .imul, 0, 0), (565, 1, .iaload, 0, 0), (566, 1, .aload_n 3, 0, 0),
  (567, 2, .bipush 8, 8, 0), (569, 2, .iload 12, 0, 0), (571, 1, .imul, 0, 0), (572, 1, .iconst 5, 5, 0),
  (573, 1, .iadd, 0, 0), (574, 1, .iaload, 0, 0), (575, 3, .invokestatic 134, 0, 0), (578, 3, .if_icmp .ne 22, 0, 600),
  (581, 2, .iload 14, 0, 0), (583, 1, .aload_n 3, 0, 0), (584, 2, .bipush 8, 8, 0), (586, 2, .iload 12, 0, 0),
  (588, 1, .imul, 0, 0), (589, 2, .bipush 7, 7, 0)]
set_option maxRecDepth 100000 in
theorem kL_isSo_6_ok : kL_isSo_6.all (fw_rowq cL_isSo 16) = true := by decide +kernel
def kL_isSo_7 : List fw_Ent := [
  (591, 1, .iadd, 0, 0), (592, 1, .iaload, 0, 0), (593, 3, .if_icmp .ne 7, 0, 600), (596, 1, .iconst 1, 1, 0),
  (597, 3, .goto 4, 0, 601), (600, 1, .iconst 0, 0, 0), (601, 2, .istore 11, 0, 0), (603, 3, .iinc 12 1, 1, 0),
  (606, 3, .goto (-274), 0, 332), (609, 2, .iload 11, 0, 0), (611, 3, .ifCond .eq 92, 0, 703), (614, 1, .aload_n 0, 0, 0),
  (615, 1, .iconst 4, 4, 0), (616, 3, .invokestatic 121, 0, 0), (619, 2, .aload 6, 0, 0), (621, 1, .iconst 0, 0, 0),
  (622, 1, .iaload, 0, 0), (623, 3, .if_icmp .ne 80, 0, 703), (626, 1, .aload_n 0, 0, 0), (627, 1, .iconst 5, 5, 0),
  (628, 3, .invokestatic 121, 0, 0), (631, 2, .aload 6, 0, 0), (633, 1, .iconst 1, 1, 0), (634, 1, .iaload, 0, 0),
  (635, 3, .if_icmp .ne 68, 0, 703), (638, 1, .aload_n 0, 0, 0), (639, 2, .bipush 6, 6, 0), (641, 3, .invokestatic 121, 0, 0),
  (644, 2, .aload 6, 0, 0), (646, 1, .iconst 2, 2, 0), (647, 1, .iaload, 0, 0), (648, 3, .if_icmp .ne 55, 0, 703),
  (651, 1, .aload_n 0, 0, 0), (652, 2, .bipush 7, 7, 0), (654, 3, .invokestatic 121, 0, 0), (657, 2, .aload 6, 0, 0),
  (659, 1, .iconst 3, 3, 0), (660, 1, .iaload, 0, 0), (661, 3, .if_icmp .ne 42, 0, 703), (664, 2, .iload 10, 0, 0),
  (666, 2, .aload 6, 0, 0), (668, 1, .iconst 1, 1, 0), (669, 1, .iaload, 0, 0), (670, 3, .if_icmp .ne 33, 0, 703),
  (673, 2, .iload 7, 0, 0), (675, 1, .aload_n 1, 0, 0), (676, 2, .bipush 6, 6, 0), (678, 1, .iaload, 0, 0),
  (679, 3, .if_icmp .ne 24, 0, 703), (682, 2, .iload 8, 0, 0)]
set_option maxRecDepth 100000 in
theorem kL_isSo_7_ok : kL_isSo_7.all (fw_rowq cL_isSo 16) = true := by decide +kernel
def kL_isSo_8 : List fw_Ent := [
  (684, 1, .aload_n 1, 0, 0), (685, 2, .bipush 6, 6, 0), (687, 1, .iaload, 0, 0), (688, 3, .if_icmp .ne 15, 0, 703),
  (691, 2, .iload 9, 0, 0), (693, 1, .aload_n 1, 0, 0), (694, 1, .iconst 5, 5, 0), (695, 1, .iaload, 0, 0),
  (696, 3, .if_icmp .gt 7, 0, 703), (699, 1, .iconst 1, 1, 0), (700, 3, .goto 4, 0, 704), (703, 1, .iconst 0, 0, 0),
  (704, 1, .ireturn, 0, 0)]
set_option maxRecDepth 100000 in
theorem kL_isSo_8_ok : kL_isSo_8.all (fw_rowq cL_isSo 16) = true := by decide +kernel
set_option maxRecDepth 100000 in
theorem kL_isSo_eq : kL_isSo = kL_isSo_0 ++ (kL_isSo_1 ++ (kL_isSo_2 ++ (kL_isSo_3 ++ (kL_isSo_4 ++ (kL_isSo_5 ++ (kL_isSo_6 ++ (kL_isSo_7 ++ (kL_isSo_8)))))))) := rfl
theorem kL_isSo_all : kL_isSo.all (fw_rowq cL_isSo 16) = true := by
  rw [kL_isSo_eq]
  simp only [List.all_append, Bool.and_eq_true]
  exact ⟨kL_isSo_0_ok, ⟨kL_isSo_1_ok, ⟨kL_isSo_2_ok, ⟨kL_isSo_3_ok, ⟨kL_isSo_4_ok, ⟨kL_isSo_5_ok, ⟨kL_isSo_6_ok, ⟨kL_isSo_7_ok, kL_isSo_8_ok⟩⟩⟩⟩⟩⟩⟩⟩
set_option maxRecDepth 100000 in
theorem kL_isSo_chain : fw_chain kL_isSo = true := by decide +kernel
theorem kL_isSo_ok : fw_chk cL_isSo 16 kL_isSo = true := by
  show (kL_isSo.all (fw_rowq cL_isSo 16) && fw_chain kL_isSo) = true
  rw [kL_isSo_all, kL_isSo_chain]
  rfl
set_option maxRecDepth 100000 in
theorem kL_isSo_cst : ∀ en ∈ kL_isSo, fw_CstOK RL [] en := by
  have h : kL_isSo.all (fw_cstq cp_L) = true := by decide +kernel
  exact fun en he => fw_cstX cp_L_ok (fun i v hq => nomatch hq) (List.all_eq_true.mp h en he)
def kL_law : List fw_Ent := [
  (36, 1, .aload_n 2, 0, 0), (37, 1, .iconst 1, 1, 0), (38, 2, .bipush 10, 10, 0), (40, 1, .iastore, 0, 0),
  (41, 1, .aload_n 1, 0, 0), (42, 1, .aload_n 2, 0, 0), (43, 1, .aload_n 3, 0, 0), (44, 2, .aload 4, 0, 0),
  (46, 2, .aload 5, 0, 0), (48, 2, .aload 6, 0, 0), (50, 3, .invokestatic 138, 0, 0), (53, 2, .istore 7, 0, 0),
  (55, 2, .bipush 10, 10, 0), (57, 1, .aload_n 0, 0, 0), (58, 1, .iconst 0, 0, 0), (59, 3, .invokestatic 142, 0, 0),
  (62, 2, .bipush 60, 60, 0), (64, 3, .invokestatic 36, 0, 0), (67, 1, .iadd, 0, 0), (68, 2, .istore 8, 0, 0),
  (70, 1, .iconst 0, 0, 0), (71, 2, .istore 9, 0, 0), (73, 2, .iload 9, 0, 0), (75, 2, .iload 8, 0, 0),
  (77, 3, .if_icmp .ge 66, 0, 143), (80, 2, .iload 7, 0, 0), (82, 3, .ifCond .eq 61, 0, 143), (85, 1, .aload_n 1, 0, 0),
  (86, 1, .aload_n 2, 0, 0), (87, 1, .aload_n 3, 0, 0), (88, 2, .aload 4, 0, 0), (90, 2, .aload 5, 0, 0),
  (92, 2, .aload 6, 0, 0), (94, 1, .aload_n 0, 0, 0), (95, 1, .iconst 1, 1, 0), (96, 2, .iload 9, 0, 0),
  (98, 1, .iadd, 0, 0), (99, 3, .invokestatic 142, 0, 0), (102, 3, .sipush 7919, 7919, 0), (105, 2, .iload 9, 0, 0),
  (107, 1, .imul, 0, 0), (108, 1, .ixor, 0, 0), (109, 3, .invokestatic 146, 0, 0), (112, 3, .ifCond .eq 22, 0, 134),
  (115, 1, .aload_n 1, 0, 0), (116, 1, .aload_n 2, 0, 0), (117, 1, .aload_n 3, 0, 0), (118, 2, .aload 4, 0, 0),
  (120, 2, .aload 5, 0, 0), (122, 2, .aload 6, 0, 0), (124, 3, .invokestatic 138, 0, 0), (127, 3, .ifCond .eq 7, 0, 134),
  (130, 1, .iconst 1, 1, 0), (131, 3, .goto 4, 0, 135), (134, 1, .iconst 0, 0, 0), (135, 2, .istore 7, 0, 0),
  (137, 3, .iinc 9 1, 1, 0), (140, 3, .goto (-67), 0, 73), (143, 2, .iload 7, 0, 0), (145, 3, .ifCond .eq 44, 0, 189),
  (148, 1, .aload_n 1, 0, 0), (149, 1, .aload_n 2, 0, 0), (150, 1, .iconst 2, 2, 0), (151, 1, .iaload, 0, 0),
  (152, 1, .iconst 0, 0, 0), (153, 3, .invokestatic 124, 0, 0), (156, 2, .ldc 51, (-100001), 0), (158, 3, .if_icmp .ne 31, 0, 189),
  (161, 1, .aload_n 1, 0, 0), (162, 1, .aload_n 2, 0, 0), (163, 1, .iconst 3, 3, 0), (164, 1, .iaload, 0, 0),
  (165, 1, .iconst 0, 0, 0), (166, 3, .invokestatic 127, 0, 0), (169, 2, .ldc 51, (-100001), 0), (171, 3, .if_icmp .ne 18, 0, 189),
  (174, 1, .aload_n 1, 0, 0), (175, 2, .bipush 11, 11, 0), (177, 3, .invokestatic 121, 0, 0), (180, 2, .ldc 56, (-100002), 0),
  (182, 3, .if_icmp .ne 7, 0, 189), (185, 1, .iconst 1, 1, 0), (186, 3, .goto 4, 0, 190), (189, 1, .iconst 0, 0, 0),
  (190, 1, .ireturn, 0, 0)]
def kL_law_0 : List fw_Ent := [
  (36, 1, .aload_n 2, 0, 0), (37, 1, .iconst 1, 1, 0), (38, 2, .bipush 10, 10, 0), (40, 1, .iastore, 0, 0),
  (41, 1, .aload_n 1, 0, 0), (42, 1, .aload_n 2, 0, 0), (43, 1, .aload_n 3, 0, 0), (44, 2, .aload 4, 0, 0),
  (46, 2, .aload 5, 0, 0), (48, 2, .aload 6, 0, 0), (50, 3, .invokestatic 138, 0, 0), (53, 2, .istore 7, 0, 0),
  (55, 2, .bipush 10, 10, 0), (57, 1, .aload_n 0, 0, 0), (58, 1, .iconst 0, 0, 0), (59, 3, .invokestatic 142, 0, 0),
  (62, 2, .bipush 60, 60, 0), (64, 3, .invokestatic 36, 0, 0), (67, 1, .iadd, 0, 0), (68, 2, .istore 8, 0, 0),
  (70, 1, .iconst 0, 0, 0), (71, 2, .istore 9, 0, 0), (73, 2, .iload 9, 0, 0), (75, 2, .iload 8, 0, 0),
  (77, 3, .if_icmp .ge 66, 0, 143), (80, 2, .iload 7, 0, 0), (82, 3, .ifCond .eq 61, 0, 143), (85, 1, .aload_n 1, 0, 0),
  (86, 1, .aload_n 2, 0, 0), (87, 1, .aload_n 3, 0, 0), (88, 2, .aload 4, 0, 0), (90, 2, .aload 5, 0, 0),
  (92, 2, .aload 6, 0, 0), (94, 1, .aload_n 0, 0, 0), (95, 1, .iconst 1, 1, 0), (96, 2, .iload 9, 0, 0),
  (98, 1, .iadd, 0, 0), (99, 3, .invokestatic 142, 0, 0), (102, 3, .sipush 7919, 7919, 0), (105, 2, .iload 9, 0, 0),
  (107, 1, .imul, 0, 0), (108, 1, .ixor, 0, 0), (109, 3, .invokestatic 146, 0, 0), (112, 3, .ifCond .eq 22, 0, 134),
  (115, 1, .aload_n 1, 0, 0), (116, 1, .aload_n 2, 0, 0), (117, 1, .aload_n 3, 0, 0), (118, 2, .aload 4, 0, 0),
  (120, 2, .aload 5, 0, 0), (122, 2, .aload 6, 0, 0)]
set_option maxRecDepth 100000 in
theorem kL_law_0_ok : kL_law_0.all (fw_rowq cL_law 10) = true := by decide +kernel
def kL_law_1 : List fw_Ent := [
  (124, 3, .invokestatic 138, 0, 0), (127, 3, .ifCond .eq 7, 0, 134), (130, 1, .iconst 1, 1, 0), (131, 3, .goto 4, 0, 135),
  (134, 1, .iconst 0, 0, 0), (135, 2, .istore 7, 0, 0), (137, 3, .iinc 9 1, 1, 0), (140, 3, .goto (-67), 0, 73),
  (143, 2, .iload 7, 0, 0), (145, 3, .ifCond .eq 44, 0, 189), (148, 1, .aload_n 1, 0, 0), (149, 1, .aload_n 2, 0, 0),
  (150, 1, .iconst 2, 2, 0), (151, 1, .iaload, 0, 0), (152, 1, .iconst 0, 0, 0), (153, 3, .invokestatic 124, 0, 0),
  (156, 2, .ldc 51, (-100001), 0), (158, 3, .if_icmp .ne 31, 0, 189), (161, 1, .aload_n 1, 0, 0), (162, 1, .aload_n 2, 0, 0),
  (163, 1, .iconst 3, 3, 0), (164, 1, .iaload, 0, 0), (165, 1, .iconst 0, 0, 0), (166, 3, .invokestatic 127, 0, 0),
  (169, 2, .ldc 51, (-100001), 0), (171, 3, .if_icmp .ne 18, 0, 189), (174, 1, .aload_n 1, 0, 0), (175, 2, .bipush 11, 11, 0),
  (177, 3, .invokestatic 121, 0, 0), (180, 2, .ldc 56, (-100002), 0), (182, 3, .if_icmp .ne 7, 0, 189), (185, 1, .iconst 1, 1, 0),
  (186, 3, .goto 4, 0, 190), (189, 1, .iconst 0, 0, 0), (190, 1, .ireturn, 0, 0)]
set_option maxRecDepth 100000 in
theorem kL_law_1_ok : kL_law_1.all (fw_rowq cL_law 10) = true := by decide +kernel
set_option maxRecDepth 100000 in
theorem kL_law_eq : kL_law = kL_law_0 ++ (kL_law_1) := rfl
theorem kL_law_all : kL_law.all (fw_rowq cL_law 10) = true := by
  rw [kL_law_eq]
  simp only [List.all_append, Bool.and_eq_true]
  exact ⟨kL_law_0_ok, kL_law_1_ok⟩
set_option maxRecDepth 100000 in
theorem kL_law_chain : fw_chain kL_law = true := by decide +kernel
theorem kL_law_ok : fw_chk cL_law 10 kL_law = true := by
  show (kL_law.all (fw_rowq cL_law 10) && fw_chain kL_law) = true
  rw [kL_law_all, kL_law_chain]
  rfl
set_option maxRecDepth 100000 in
theorem kL_law_cst : ∀ en ∈ kL_law, fw_CstOK RL [] en := by
  have h : kL_law.all (fw_cstq cp_L) = true := by decide +kernel
  exact fun en he => fw_cstX cp_L_ok (fun i v hq => nomatch hq) (List.all_eq_true.mp h en he)

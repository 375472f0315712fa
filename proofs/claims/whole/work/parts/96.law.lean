/-! THE LAW: its callees, what holds at its places (printed by program) -/
section LC
def cal_law (B : Nat) : List fw_Cal := [(78, 1, 0, 4, 1, fun as M Q => M.2.2 ≤ 2600 ∧ ct_L_addCourier B as M Q (fun _ _ => False)),
  (83, 0, 6, 3, 1, fun as M Q => M.2.2 ≤ 2600 ∧ ct_X6_addCourier B as M Q (fun _ _ => False)),
  (84, 0, 6, 1, 1, fun as M Q => M.2.2 ≤ 2600 ∧ ct_X6_thrown B as M Q (fun _ _ => False)),
  (87, 1, 0, 4, 1, fun as M Q => M.2.2 ≤ 2600 ∧ ct_L_setArea B as M Q (fun _ _ => False)),
  (89, 0, 6, 3, 1, fun as M Q => M.2.2 ≤ 2600 ∧ ct_X6_setArea B as M Q (fun _ _ => False)),
  (90, 1, 0, 6, 1, fun as M Q => M.2.2 ≤ 2600 ∧ ct_L_give B as M Q (fun _ _ => False)),
  (93, 0, 6, 5, 1, fun as M Q => M.2.2 ≤ 2600 ∧ ct_X6_give B as M Q (fun _ _ => False)),
  (94, 1, 0, 3, 1, fun as M Q => M.2.2 ≤ 2600 ∧ ct_L_setGrace B as M Q (fun _ _ => False)),
  (97, 0, 6, 2, 1, fun as M Q => M.2.2 ≤ 2600 ∧ ct_X6_setGrace B as M Q (fun _ _ => False)),
  (98, 1, 0, 3, 1, fun as M Q => M.2.2 ≤ 2600 ∧ ct_L_drop B as M Q (fun _ _ => False)),
  (100, 0, 6, 2, 1, fun as M Q => M.2.2 ≤ 2600 ∧ ct_X6_drop B as M Q (fun _ _ => False)),
  (101, 1, 0, 3, 1, fun as M Q => M.2.2 ≤ 2600 ∧ ct_L_run B as M Q (fun _ _ => False)),
  (103, 0, 6, 2, 1, fun as M Q => M.2.2 ≤ 2600 ∧ ct_X6_run B as M Q (fun _ _ => False)),
  (104, 1, 0, 3, 1, fun as M Q => M.2.2 ≤ 2600 ∧ ct_L_value B as M Q (fun _ _ => False)),
  (106, 0, 6, 2, 1, fun as M Q => M.2.2 ≤ 2600 ∧ ct_X6_value B as M Q (fun _ _ => False)),
  (107, 1, 0, 4, 1, fun as M Q => M.2.2 ≤ 2600 ∧ ct_L_courier B as M Q (fun _ _ => False)),
  (109, 0, 6, 3, 1, fun as M Q => M.2.2 ≤ 2600 ∧ ct_X6_courier B as M Q (fun _ _ => False)),
  (110, 1, 0, 4, 1, fun as M Q => M.2.2 ≤ 2600 ∧ ct_L_parcel B as M Q (fun _ _ => False)),
  (112, 0, 6, 3, 1, fun as M Q => M.2.2 ≤ 2600 ∧ ct_X6_parcel B as M Q (fun _ _ => False)),
  (113, 1, 0, 5, 1, fun as M Q => M.2.2 ≤ 2600 ∧ ct_L_legs B as M Q (fun _ _ => False)),
  (116, 0, 6, 4, 1, fun as M Q => M.2.2 ≤ 2600 ∧ ct_X6_legs B as M Q (fun _ _ => False)),
  (117, 1, 0, 4, 1, fun as M Q => M.2.2 ≤ 2600 ∧ ct_L_distance B as M Q (fun _ _ => False)),
  (119, 0, 6, 3, 1, fun as M Q => M.2.2 ≤ 2600 ∧ ct_X6_distance B as M Q (fun _ _ => False)),
  (120, 1, 0, 3, 1, fun as M Q => M.2.2 ≤ 2600 ∧ ct_L_suited B as M Q (fun _ _ => False)),
  (122, 0, 6, 2, 1, fun as M Q => M.2.2 ≤ 2600 ∧ ct_X6_suited B as M Q (fun _ _ => False)),
  (123, 1, 0, 3, 1, fun as M Q => M.2.2 ≤ 2600 ∧ ct_L_leastRelay B as M Q (fun _ _ => False)),
  (125, 0, 6, 2, 1, fun as M Q => M.2.2 ≤ 2600 ∧ ct_X6_leastRelay B as M Q (fun _ _ => False)),
  (126, 0, 5, 1, 1, fun as M Q => M.2.2 ≤ 2600 ∧ ct_X5_punctuality B as M Q (fun _ _ => False)),
  (130, 0, 6, 1, 1, fun as M Q => M.2.2 ≤ 2600 ∧ ct_X6_punctuality B as M Q (fun _ _ => False)),
  (131, 1, 0, 3, 1, fun as M Q => M.2.2 ≤ 2600 ∧ ct_L_paidIn B as M Q (fun _ _ => False)),
  (133, 0, 6, 2, 1, fun as M Q => M.2.2 ≤ 2600 ∧ ct_X6_paidIn B as M Q (fun _ _ => False)),
  (134, 1, 0, 4, 1, fun as M Q => M.2.2 ≤ 2600 ∧ ct_L_bestZone B as M Q (fun _ _ => False)),
  (136, 0, 6, 3, 1, fun as M Q => M.2.2 ≤ 2600 ∧ ct_X6_bestZone B as M Q (fun _ _ => False)),
  (137, 1, 0, 4, 1, fun as M Q => M.2.2 ≤ 2600 ∧ ct_L_worth B as M Q (fun _ _ => False)),
  (139, 0, 6, 3, 1, fun as M Q => M.2.2 ≤ 2600 ∧ ct_X6_worth B as M Q (fun _ _ => False)),
  (140, 0, 5, 1, 1, fun as M Q => M.2.2 ≤ 2600 ∧ ct_X5_doneIn B as M Q (fun _ _ => False)),
  (143, 0, 6, 1, 1, fun as M Q => M.2.2 ≤ 2600 ∧ ct_X6_doneIn B as M Q (fun _ _ => False)),
  (144, 1, 0, 3, 1, fun as M Q => M.2.2 ≤ 2600 ∧ ct_L_append B as M Q (fun _ _ => False)),
  (146, 0, 6, 2, 1, fun as M Q => M.2.2 ≤ 2600 ∧ ct_X6_append B as M Q (fun _ _ => False)),
  (147, 0, 5, 1, 1, fun as M Q => M.2.2 ≤ 2600 ∧ ct_X5_clearText B as M Q (fun _ _ => False)),
  (150, 0, 6, 1, 1, fun as M Q => M.2.2 ≤ 2600 ∧ ct_X6_clearText B as M Q (fun _ _ => False)),
  (151, 0, 5, 1, 1, fun as M Q => M.2.2 ≤ 2600 ∧ ct_X5_parse B as M Q (fun _ _ => False)),
  (154, 0, 6, 1, 1, fun as M Q => M.2.2 ≤ 2600 ∧ ct_X6_parse B as M Q (fun _ _ => False)),
  (155, 1, 0, 2, 1, fun as M Q => M.2.2 ≤ 2600 ∧ ct_L_undo B as M Q (fun _ _ => False)),
  (158, 0, 6, 1, 1, fun as M Q => M.2.2 ≤ 2600 ∧ ct_X6_undo B as M Q (fun _ _ => False)),
  (159, 0, 5, 1, 1, fun as M Q => M.2.2 ≤ 2600 ∧ ct_X5_digest B as M Q (fun _ _ => False)),
  (163, 0, 6, 1, 1, fun as M Q => M.2.2 ≤ 2600 ∧ ct_X6_digest B as M Q (fun _ _ => False))]
def lwI (B b i : Nat) (ls : fw_L) (st : List Value) : Prop := ls = [some (.ref b), some (.ref B), some (.ref (B + 492)), some (.ref (B + 498)), some (.int (nI i)), none, none, none, none] ∧ st = []
def lwZ (B : Nat) (M : fw_M) : Prop := ∃ Z, RC B M Z ∧ RM B M Z ∧ KZ Z
def lwH (B b L n : Nat) (ls : fw_L) (st : List Value) (M : fw_M) : Prop := ∃ i, n = 4 * (L - i) + 3 ∧ i ≤ L ∧ lwI B b i ls st ∧ M.2.2 ≤ i ∧ lwZ B M
def lwC (B b L n : Nat) (ls : fw_L) (st : List Value) (M : fw_M) : Prop := ∃ i, n = 4 * (L - i) + 2 ∧ i + 5 ≤ L ∧ lwI B b i ls st ∧ M.2.2 ≤ i ∧ lwZ B M
def lwE (B b L n : Nat) (ls : fw_L) (st : List Value) (M : fw_M) : Prop := ∃ i, n = 4 * (L - i) + 1 ∧ i + 5 ≤ L ∧ lwI B b i ls st ∧ M.2.2 ≤ i + 3 ∧ lwZ B M
abbrev lwm : List Bool := [true, true, true, true, true, false, false, false, false]
def lwA (B b L : Nat) : fw_AL := [(23, lwm, lwH B b L), (1394, lwm, lwE B b L), (144, lwm, lwC B b L), (212, lwm, lwC B b L), (280, lwm, lwC B b L), (372, lwm, lwC B b L), (428, lwm, lwC B b L), (484, lwm, lwC B b L), (540, lwm, lwC B b L), (596, lwm, lwC B b L), (664, lwm, lwC B b L), (732, lwm, lwC B b L), (828, lwm, lwC B b L), (896, lwm, lwC B b L), (952, lwm, lwC B b L), (1008, lwm, lwC B b L), (1049, lwm, lwC B b L), (1105, lwm, lwC B b L), (1173, lwm, lwC B b L), (1241, lwm, lwC B b L), (1254, lwm, lwC B b L), (1310, lwm, lwC B b L), (1323, lwm, lwC B b L), (1336, lwm, lwC B b L), (1380, lwm, lwC B b L)]
def lwQ : Option Value → fw_M → Prop := fun r M => r = some (.int 1) ∧ M.2.2 ≤ 2600
def lwS (B b L n : Nat) (xs : Nat → Int32) (t : Nat) (ls : fw_L) (st : List Value) (M : fw_M) : Prop := ∃ F, fw_wp B [] (cal_law B) [] [] (some (b, L, xs)) (some .boolean) lwQ (fun _ _ => False) kL_law (fw_Kn (lwA B b L) n) F true (fw_seek t kL_law) ls st M
theorem k492 {B : Nat} : fw_kd B (B + 492) = 6 := kd_at (by decide)
theorem lg_self {x : Int64} : lg_cmp x x = 0 := by
  unfold lg_cmp
  simp
theorem RC_hi {B : Nat} {M M' : fw_M} {Z : Zs} (h : RC B M Z) (e : ∀ b, b < B + 492 → M'.1 b = M.1 b) : RC B M' Z :=
  ⟨Rep_fr h.1 (fun c h1 h2 => e c (by omega)), HS_fr h.2.1 (fun c h1 h2 => e c (by omega)), TS_eq h.2.2 (e _ (by omega)) (e _ (by omega))⟩
theorem RM_lo {B : Nat} {M M' : fw_M} {Z : Zs} (h : RM B M Z) (e : ∀ b, B + 492 ≤ b → M'.1 b = M.1 b) : RM B M' Z := by
  obtain ⟨h1, h2, h3, h4, h5, h6, h7⟩ := h
  refine ⟨by rw [e _ (by omega)]; exact h1, by rw [e _ (by omega)]; exact h2, h3, fun i hi k hk => by rw [e _ (by omega)]; exact h4 i hi k hk, by rw [e _ (by omega)]; exact h5, h6, fun k hk => by rw [e _ (by omega)]; exact h7 k hk⟩
theorem vi_k {L i k : Nat} (hL : L ≤ 2560) (h : i + 5 ≤ L) (hk : k < 5) : fw_sd (vp_in (nI i + nI k) L) := by
  rw [n_add]
  exact vn_i (by omega) (by omega)
/-- on to the next round -/
theorem lw_go {B b L i c : Nat} {M : fw_M} {Z : Zs} (h5 : i + 5 ≤ L) (hc : M.2.2 ≤ i + 3) (h1 : RC B M Z) (h2 : RM B M Z) (h3 : KZ Z) (hn : c = 4 * (L - i) + 2) : ∃ n', n' < c ∧ lwE B b L n' [some (.ref b), some (.ref B), some (.ref (B + 492)), some (.ref (B + 498)), some (.int (nI i)), none, none, none, none] [] M :=
  ⟨4 * (L - i) + 1, by omega, i, rfl, h5, ⟨rfl, rfl⟩, hc, Z, h1, h2, h3⟩
end LC

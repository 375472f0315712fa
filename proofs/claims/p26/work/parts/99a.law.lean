/-! THE LAW'S BODY: from the first check on -/
section LAW
def cal_law (B b L : Nat) (xs : Nat → Int32) : List fw_Cal := [(138, 1, 0, 6, 302, fun as M Q => M.2.2 ≤ 23000 ∧ ct_L_isSo B as M Q (fun _ _ => False)), (142, 1, 0, 2, 1, fun as M Q => M.2.2 ≤ 23000 ∧ ct_L_cell b L xs as M Q (fun _ _ => False)), (36, 1, 0, 2, 1, fun as M Q => M.2.2 ≤ 23000 ∧ ct_L_low B as M Q (fun _ _ => False)), (146, 1, 0, 7, 21, fun as M Q => M.2.2 ≤ 23000 ∧ ct_L_acts B as M Q (fun _ _ => False)), (124, 1, 0, 3, 1, fun as M Q => M.2.2 ≤ 23000 ∧ ct_L_courierOf B as M Q (fun _ _ => False)), (127, 1, 0, 3, 1, fun as M Q => M.2.2 ≤ 23000 ∧ ct_L_parcelOf B as M Q (fun _ _ => False)), (121, 1, 0, 2, 1, fun as M Q => M.2.2 ≤ 23000 ∧ ct_L_valueOf B as M Q (fun _ _ => False))]
abbrev lwL (B b : Nat) (T i : Nat) : fw_L := [some (.ref b), some (.ref B), some (.ref (B + 492)), some (.ref (B + 493)), some (.ref (B + 494)), some (.ref (B + 495)), some (.ref (B + 496)), some (.int 1), some (.int (nI T)), some (.int (nI i))]
abbrev lwm : List Bool := [true, true, true, true, true, true, true, true, true, true]
def lwI (B b n : Nat) (ls : fw_L) (st : List Value) (M : fw_M) : Prop := ∃ T i, n = T - i ∧ i ≤ T ∧ T ≤ 69 ∧ ls = lwL B b T i ∧ st = [] ∧ (∃ Z, LZ B M Z) ∧ M.2.2 ≤ 304 + 325 * i
def lwA (B b : Nat) : fw_AL := [(73, lwm, lwI B b)]
def lwQ : Option Value → fw_M → Prop := fun r M => r = some (.int 1) ∧ M.2.2 ≤ 23000
theorem op_value_no {Z : Zs} : opValue 11 Z = (1, 0, Z) := by
  unfold opValue
  rw [if_neg (by decide)]
set_option maxRecDepth 100000 in
theorem lw_all {B b L : Nat} {xs : Nat → Int32} : ∀ q ∈ lwA B b, ∀ n ls st M, q.2.2 n ls st M → ∃ F, fw_wp B [] (cal_law B b L xs) [] [] none (some .boolean) lwQ (fun _ _ => False) kL_law (fw_Kn (lwA B b) n) F true (fw_seek q.1 kL_law) ls st M := by
  intro q hq n ls st M hi
  cases List.mem_singleton.mp hq
  obtain ⟨T, i, rfl, hi, hT, rfl, rfl, ⟨Z, hX⟩, hc⟩ := hi
  have hR := hX.2.2.1
  obtain ⟨t, -, -, hW, -⟩ := hX.2.2.2.1
  have hn := hW.2.1
  have hm24 := hW.2.2.2.1
  refine ⟨300, And.intro (fun h1 => And.intro (fun z => absurd z (by decide)) (fun _ => ?_)) (fun h1 => And.intro (fun z => absurd z (by decide)) (fun _ => ?_))⟩
  · refine And.intro kd_492 (And.intro vrg2 (And.intro (show M.2.2 ≤ 23000 by omega) (And.intro rfl (Exists.intro Z (And.intro hX.1 (And.intro hX.2.1 (fun M1 a1 b1 => ?_)))))))
    have x2 : M.1 (B + 492) (2 : Int32).toNatClampNeg = nI (cn Z.1) := (rrg2 hR).trans hW.1
    have e1 : opCourier (M.1 (B + 492) (2 : Int32).toNatClampNeg) 0 Z = (1, 0, Z) := by
      unfold opCourier
      rw [if_neg (by rw [cr_none hW (fun k hk e => by rw [x2, nI_eq (by omega) (by omega)] at e; omega)]; decide)]
    have a1 : RC B M1 (opCourier (M.1 (B + 492) (2 : Int32).toNatClampNeg) 0 Z).2.2 := a1
    rw [e1] at a1
    have hX1 : LZ B M1 Z := LZ_to (Z' := Z) hX rfl a1 b1
    have hR1 := hX1.2.2.1
    refine And.intro (fun z => absurd ?_ z) (fun _ => And.intro kd_492 (And.intro vrg3 (And.intro (show M.2.2 + 1 ≤ 23000 by omega) (And.intro rfl (Exists.intro Z (And.intro hX1.1 (And.intro hX1.2.1 (fun M2 a2 b2 => ?_))))))))
    · show hv (-100001) (-100002) (opCourier (M.1 (B + 492) (2 : Int32).toNatClampNeg) 0 Z) = -100001
      rw [e1]
      rfl
    · have x3 : M1.1 (B + 492) (3 : Int32).toNatClampNeg = nI (pn Z.1) := (rrg3 hR1).trans hW.2.2.1
      have e2 : opParcel (M1.1 (B + 492) (3 : Int32).toNatClampNeg) 0 Z = (1, 0, Z) := by
        unfold opParcel
        rw [if_neg (by rw [pc_none hW (fun k hk e => by rw [x3, nI_eq (by omega) (by omega)] at e; omega)]; decide)]
      have a2 : RC B M2 (opParcel (M1.1 (B + 492) (3 : Int32).toNatClampNeg) 0 Z).2.2 := a2
      rw [e2] at a2
      have hX2 : LZ B M2 Z := LZ_to (Z' := Z) hX1 rfl a2 b2
      refine And.intro (fun z => absurd ?_ z) (fun _ => And.intro (show M.2.2 + 1 + 1 ≤ 23000 by omega) (And.intro rfl (Exists.intro Z (And.intro hX2.1 (And.intro hX2.2.1 (fun M3 a3 b3 => And.intro (fun z => absurd ?_ z) (fun _ => And.intro (Or.inr rfl) ⟨rfl, ?_⟩)))))))
      · show hv (-100001) (-100002) (opParcel (M1.1 (B + 492) (3 : Int32).toNatClampNeg) 0 Z) = -100001
        rw [e2]
        rfl
      · show hv (-100002) 0 (opValue 11 Z) = -100002
        rw [op_value_no]
        rfl
      · show M.2.2 + 1 + 1 + 1 ≤ 23000
        omega
  · have h1 : ¬ nI T ≤ nI i := h1
    rw [n_ge (by omega) (by omega)] at h1
    have e1 : (1 : Int32) + nI i = nI (1 + i) := by rw [n1, n_add]
    refine And.intro (show M.2.2 ≤ 23000 by omega) (And.intro rfl (Exists.intro (1 + i) (And.intro (by omega) (And.intro e1 (fun v => ?_)))))
    refine And.intro (show M.2.2 + 1 ≤ 23000 by omega) (And.intro rfl (And.intro rfl (And.intro rfl (And.intro rfl (And.intro rfl (And.intro rfl (Exists.intro Z (And.intro hX (fun Z' M1 hX1 => ?_)))))))))
    refine And.intro (fun z => absurd z (by decide)) (fun _ => And.intro (show M.2.2 + 1 + 21 ≤ 23000 by omega) (And.intro rfl (And.intro rfl (And.intro rfl (And.intro rfl (And.intro rfl (And.intro rfl (Exists.intro Z' (And.intro hX1 (fun M2 hX2 => And.intro (fun z => absurd z (by decide)) (fun _ => ?_)))))))))))
    refine Exists.intro (T - (i + 1)) (And.intro (by omega) (Exists.intro T (Exists.intro (i + 1) ⟨rfl, by omega, hT, ?_, rfl, ⟨Z', hX2⟩, ?_⟩)))
    · show [some (Value.ref b), some (.ref B), some (.ref (B + 492)), some (.ref (B + 493)), some (.ref (B + 494)), some (.ref (B + 495)), some (.ref (B + 496)), some (.int 1), some (.int (nI T)), some (.int (nI i + 1))] = _
      rw [nI_1]
    · show M.2.2 + 1 + 21 + 302 ≤ 304 + 325 * (i + 1)
      omega
set_option maxRecDepth 100000 in
/-- up to the loop -/
theorem lw_go {B b L : Nat} {xs : Nat → Int32} {M : fw_M} {Z : Zs} (h : LZ B (fw_st M (B + 492) (1 : Int32).toNatClampNeg 10) Z) (hc : M.2.2 = 0) : ∃ F, fw_wp B [] (cal_law B b L xs) [] [] none (some .boolean) lwQ (fun _ _ => False) kL_law (fw_Ka (lwA B b)) F true (fw_seek 36 kL_law) [some (.ref b), some (.ref B), some (.ref (B + 492)), some (.ref (B + 493)), some (.ref (B + 494)), some (.ref (B + 495)), some (.ref (B + 496)), none, none, none] [] M := by
  refine ⟨300, And.intro kd_492 (And.intro vrg1 (And.intro (show M.2.2 ≤ 23000 by omega) (And.intro rfl (And.intro rfl (And.intro rfl (And.intro rfl (And.intro rfl (And.intro rfl (Exists.intro Z (And.intro h (fun M1 hX1 => ?_)))))))))))⟩
  refine And.intro (show M.2.2 + 302 ≤ 23000 by omega) (And.intro rfl (Exists.intro 0 (And.intro (by omega) (And.intro rfl (fun v => ?_)))))
  refine And.intro (show M.2.2 + 302 + 1 ≤ 23000 by omega) (Exists.intro 60 (And.intro (by decide) (And.intro (by decide) (And.intro rfl (fun j hj => ?_)))))
  refine Exists.intro (10 + j) (Exists.intro (10 + j) (Exists.intro 0 ⟨rfl, Nat.zero_le _, by omega, ?_, rfl, ⟨Z, hX1⟩, ?_⟩))
  · show [some (Value.ref b), some (.ref B), some (.ref (B + 492)), some (.ref (B + 493)), some (.ref (B + 494)), some (.ref (B + 495)), some (.ref (B + 496)), some (.int 1), some (.int (nI 10 + nI j)), some (.int 0)] = _
    rw [n_add]
    rfl
  · show M.2.2 + 302 + 1 + 1 ≤ 304 + 325 * 0
    omega
end LAW

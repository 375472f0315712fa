/-! THE LAW: what is told without a throw; the loop -/
section LX
theorem op1_parse {Z : Zs} : (opParse Z).1 = 0 := by unfold opParse; split <;> rfl
set_option maxRecDepth 100000 in
theorem lc_punctuality {B b L n : Nat} {xs : Nat → Int32} {ls : fw_L} {st : List Value} {M : fw_M} (hL : L ≤ 2560) (h : lwC B b L n ls st M) : lwS B b L n xs 1008 ls st M := by
  obtain ⟨i, hn, h5, ⟨rfl, rfl⟩, hc, Z, hR, hM, hK⟩ := h
  refine ⟨1000, And.intro kB (And.intro (show M.2.2 ≤ 2600 by omega) (And.intro rfl (Exists.intro Z (And.intro hR (And.intro hK.1 (And.intro k492 (And.intro (show M.2.2 + 1 ≤ 2600 by omega) (And.intro rfl (Exists.intro Z (And.intro hM (And.intro hK.1 ?_)))))))))))⟩
  intro M2 r2 r4
  have hR2 : RC B M2 Z := RC_hi hR (fun b hb => r4.1 b (Or.inl hb))
  obtain ⟨n1, q1, q2⟩ := lw_go (B := B) (b := b) (L := L) (i := i) (c := n) (M := (M2.1, M2.2.1, M.2.2 + 1 + 1)) (Z := Z) h5 (by show M.2.2 + 1 + 1 ≤ i + 3; omega) hR2 r2 hK hn
  exact And.intro (fun w => Exists.intro n1 (And.intro q1 q2)) (fun w => And.intro (fun w2 => absurd w2 w) (fun w2 => And.intro (fun w3 => Exists.intro n1 (And.intro q1 q2)) (fun w3 => absurd w3 w)))
set_option maxRecDepth 100000 in
theorem lc_doneIn {B b L n : Nat} {xs : Nat → Int32} {ls : fw_L} {st : List Value} {M : fw_M} (hL : L ≤ 2560) (h : lwC B b L n ls st M) : lwS B b L n xs 1241 ls st M := by
  obtain ⟨i, hn, h5, ⟨rfl, rfl⟩, hc, Z, hR, hM, hK⟩ := h
  refine ⟨1000, And.intro kB (And.intro (show M.2.2 ≤ 2600 by omega) (And.intro rfl (Exists.intro Z (And.intro hR (And.intro hK.1 (And.intro hK.2 (And.intro (fun _ => ?_) (fun e => absurd rfl e))))))))⟩
  intro M1 g1 g2
  have g1 : RC B M1 Z := g1
  have hM1 := RM_lo hM g2.1
  refine And.intro k492 (And.intro (show M.2.2 + 1 ≤ 2600 by omega) (And.intro rfl (Exists.intro Z (And.intro hM1 (And.intro hK.1 ?_)))))
  intro r M2 r1 r2 r3 r4
  have hR2 : RC B M2 Z := RC_hi g1 (fun b hb => r4.1 b (Or.inl hb))
  obtain ⟨n1, q1, q2⟩ := lw_go (B := B) (b := b) (L := L) (i := i) (c := n) (M := (M2.1, M2.2.1, M.2.2 + 1 + 1)) (Z := Z) h5 (by show M.2.2 + 1 + 1 ≤ i + 3; omega) hR2 r2 hK hn
  exact And.intro (fun w => Exists.intro n1 (And.intro q1 q2)) (fun w => absurd (r1 rfl).symm w)
set_option maxRecDepth 100000 in
theorem lc_clearText {B b L n : Nat} {xs : Nat → Int32} {ls : fw_L} {st : List Value} {M : fw_M} (hL : L ≤ 2560) (h : lwC B b L n ls st M) : lwS B b L n xs 1310 ls st M := by
  obtain ⟨i, hn, h5, ⟨rfl, rfl⟩, hc, Z, hR, hM, hK⟩ := h
  refine ⟨1000, And.intro kB (And.intro (show M.2.2 ≤ 2600 by omega) (And.intro rfl (Exists.intro Z (And.intro hR (And.intro hK.1 (And.intro hK.2 (And.intro (fun _ => ?_) (fun e => absurd rfl e))))))))⟩
  intro M1 g1 g2
  have g1 : RC B M1 (opClear Z).2.2 := g1
  have hM1 := RM_lo hM g2.1
  refine And.intro k492 (And.intro (show M.2.2 + 1 ≤ 2600 by omega) (And.intro rfl (Exists.intro Z (And.intro hM1 (And.intro hK.1 ?_)))))
  intro r M2 r1 r2 r3 r4
  have hR2 : RC B M2 (opClear Z).2.2 := RC_hi g1 (fun b hb => r4.1 b (Or.inl hb))
  obtain ⟨n1, q1, q2⟩ := lw_go (B := B) (b := b) (L := L) (i := i) (c := n) (M := (M2.1, M2.2.1, M.2.2 + 1 + 1)) (Z := (opClear Z).2.2) h5 (by show M.2.2 + 1 + 1 ≤ i + 3; omega) hR2 r2 (KZ_clear hK) hn
  exact And.intro (fun w => Exists.intro n1 (And.intro q1 q2)) (fun w => absurd (r1 rfl).symm w)
set_option maxRecDepth 100000 in
theorem lc_parse {B b L n : Nat} {xs : Nat → Int32} {ls : fw_L} {st : List Value} {M : fw_M} (hL : L ≤ 2560) (h : lwC B b L n ls st M) : lwS B b L n xs 1323 ls st M := by
  obtain ⟨i, hn, h5, ⟨rfl, rfl⟩, hc, Z, hR, hM, hK⟩ := h
  refine ⟨1000, And.intro kB (And.intro (show M.2.2 ≤ 2600 by omega) (And.intro rfl (Exists.intro Z (And.intro hR (And.intro hK.1 (And.intro hK.2 (And.intro (fun _ => ?_) (fun e => absurd op1_parse e))))))))⟩
  intro M1 g1 g2
  have g1 : RC B M1 (opParse Z).2.2 := g1
  have hM1 := RM_lo hM g2.1
  refine And.intro k492 (And.intro (show M.2.2 + 1 ≤ 2600 by omega) (And.intro rfl (Exists.intro Z (And.intro hM1 (And.intro hK.1 ?_)))))
  intro M2 r2 r4
  have hR2 : RC B M2 (opParse Z).2.2 := RC_hi g1 (fun b hb => r4.1 b (Or.inl hb))
  obtain ⟨n1, q1, q2⟩ := lw_go (B := B) (b := b) (L := L) (i := i) (c := n) (M := (M2.1, M2.2.1, M.2.2 + 1 + 1)) (Z := (opParse Z).2.2) h5 (by show M.2.2 + 1 + 1 ≤ i + 3; omega) hR2 r2 (KZ_parse hK) hn
  exact And.intro (fun w => Exists.intro n1 (And.intro q1 q2)) (fun w => absurd rfl w)
set_option maxRecDepth 100000 in
theorem lc_digest {B b L n : Nat} {xs : Nat → Int32} {ls : fw_L} {st : List Value} {M : fw_M} (hL : L ≤ 2560) (h : lwC B b L n ls st M) : lwS B b L n xs 1380 ls st M := by
  obtain ⟨i, hn, h5, ⟨rfl, rfl⟩, hc, Z, hR, hM, hK⟩ := h
  refine ⟨1000, And.intro kB (And.intro (show M.2.2 ≤ 2600 by omega) (And.intro rfl (Exists.intro Z (And.intro hR (And.intro hK.1 (And.intro k492 (And.intro (show M.2.2 + 1 ≤ 2600 by omega) (And.intro rfl (Exists.intro Z (And.intro hM (And.intro hK.1 ?_)))))))))))⟩
  intro M2 r2 r4
  have hR2 : RC B M2 Z := RC_hi hR (fun b hb => r4.1 b (Or.inl hb))
  obtain ⟨n1, q1, q2⟩ := lw_go (B := B) (b := b) (L := L) (i := i) (c := n) (M := (M2.1, M2.2.1, M.2.2 + 1 + 1)) (Z := Z) h5 (by show M.2.2 + 1 + 1 ≤ i + 3; omega) hR2 r2 hK hn
  exact And.intro (fun w => Exists.intro n1 (And.intro q1 q2)) (fun w => absurd lg_self w)
set_option maxRecDepth 100000 in
theorem lc_end {B b L n : Nat} {xs : Nat → Int32} {ls : fw_L} {st : List Value} {M : fw_M} (h : lwE B b L n ls st M) : lwS B b L n xs 1394 ls st M := by
  obtain ⟨i, hn, h5, ⟨rfl, rfl⟩, hc, hZ⟩ := h
  refine ⟨1000, Exists.intro (4 * (L - (i + 5)) + 3) (And.intro (by omega) (Exists.intro (i + 5) ⟨rfl, h5, ⟨?_, rfl⟩, by omega, hZ⟩))⟩
  show [some (Value.ref b), some (.ref B), some (.ref (B + 492)), some (.ref (B + 498)), some (.int (nI i + nI 5)), none, none, none, none] = _
  rw [n_add]
theorem lw_sub {L i : Nat} (hL : L ≤ 2560) (hi : i ≤ 2560) : Int32.ofNat L - nI 5 < nI i ↔ L < i + 5 := by
  rcases Nat.lt_or_ge L 5 with z | z
  · have e : ∀ L, L < 5 → (Int32.ofNat L - nI 5).toInt = (L : Int) - 5 := by decide
    rw [Int32.lt_iff_toInt_lt, e L z, nI_toInt (by omega)]
    omega
  · rw [show Int32.ofNat L = nI L from rfl, pk_sub z, n_lt (by omega) (by omega)]
    omega
set_option maxRecDepth 100000 in
theorem lc_head {B b L n : Nat} {xs : Nat → Int32} {ls : fw_L} {st : List Value} {M : fw_M} (hL : L ≤ 2560) (h : lwH B b L n ls st M) : lwS B b L n xs 23 ls st M := by
  obtain ⟨i, hn, h5, ⟨rfl, rfl⟩, hc, hZ⟩ := h
  refine ⟨1000, And.intro rfl (And.intro (fun w => ?_) (fun w => ?_))⟩
  · exact And.intro (Or.inr rfl) ⟨rfl, by omega⟩
  · have w : ¬ Int32.ofNat L - nI 5 < nI i := w
    rw [lw_sub hL (by omega)] at w
    have hv : fw_sd (vp_in (nI i) L) := vn_i (by omega) (by omega)
    obtain ⟨c, hcn, q2⟩ : ∃ c, c < n ∧ lwC B b L c [some (.ref b), some (.ref B), some (.ref (B + 492)), some (.ref (B + 498)), some (.int (nI i)), none, none, none, none] [] M := ⟨4 * (L - i) + 2, by omega, i, rfl, by omega, ⟨rfl, rfl⟩, hc, hZ⟩
    obtain ⟨d, hdn, q3⟩ : ∃ c, c < n ∧ lwE B b L c [some (.ref b), some (.ref B), some (.ref (B + 492)), some (.ref (B + 498)), some (.int (nI i)), none, none, none, none] [] M := ⟨4 * (L - i) + 1, by omega, i, rfl, by omega, ⟨rfl, rfl⟩, by omega, hZ⟩
    have q1 := hcn
    exact And.intro rfl (And.intro hv (And.intro (And.intro (fun _ => Exists.intro c (And.intro q1 q2)) (And.intro (fun _ => Exists.intro c (And.intro q1 q2)) (And.intro (fun _ => Exists.intro c (And.intro q1 q2)) (And.intro (fun _ => Exists.intro c (And.intro q1 q2)) (And.intro (fun _ => Exists.intro c (And.intro q1 q2)) (And.intro (fun _ => Exists.intro c (And.intro q1 q2)) (And.intro (fun _ => Exists.intro c (And.intro q1 q2)) (And.intro (fun _ => Exists.intro c (And.intro q1 q2)) (And.intro (fun _ => Exists.intro c (And.intro q1 q2)) (And.intro (fun _ => Exists.intro c (And.intro q1 q2)) (And.intro (fun _ => Exists.intro c (And.intro q1 q2)) (And.intro (fun _ => Exists.intro c (And.intro q1 q2)) (And.intro (fun _ => Exists.intro c (And.intro q1 q2)) (And.intro (fun _ => Exists.intro c (And.intro q1 q2)) (And.intro (fun _ => Exists.intro c (And.intro q1 q2)) (And.intro (fun _ => Exists.intro c (And.intro q1 q2)) (And.intro (fun _ => Exists.intro c (And.intro q1 q2)) (And.intro (fun _ => Exists.intro c (And.intro q1 q2)) (And.intro (fun _ => Exists.intro c (And.intro q1 q2)) (And.intro (fun _ => Exists.intro c (And.intro q1 q2)) (And.intro (fun _ => Exists.intro c (And.intro q1 q2)) (And.intro (fun _ => Exists.intro c (And.intro q1 q2)) (And.intro (fun _ => Exists.intro c (And.intro q1 q2)) (trivial)))))))))))))))))))))))) (fun _ => Exists.intro d (And.intro hdn q3))))
theorem lw_all {B b L : Nat} {xs : Nat → Int32} (hL : L ≤ 2560) : ∀ q ∈ lwA B b L, ∀ n ls st M, q.2.2 n ls st M → ∃ F, fw_wp B [] (cal_law B) [] [] (some (b, L, xs)) (some .boolean) lwQ (fun _ _ => False) kL_law (fw_Kn (lwA B b L) n) F true (fw_seek q.1 kL_law) ls st M := by
  intro q hq n ls st M h
  unfold lwA at hq
  simp only [List.mem_cons, List.not_mem_nil, or_false] at hq
  rcases hq with rfl | rfl | rfl | rfl | rfl | rfl | rfl | rfl | rfl | rfl | rfl | rfl | rfl | rfl | rfl | rfl | rfl | rfl | rfl | rfl | rfl | rfl | rfl | rfl | rfl
  · exact lc_head hL h
  · exact lc_end h
  · exact lc_addCourier hL h
  · exact lc_setArea hL h
  · exact lc_give hL h
  · exact lc_setGrace hL h
  · exact lc_drop hL h
  · exact lc_run hL h
  · exact lc_value hL h
  · exact lc_courier hL h
  · exact lc_parcel hL h
  · exact lc_legs hL h
  · exact lc_distance hL h
  · exact lc_suited hL h
  · exact lc_leastRelay hL h
  · exact lc_punctuality hL h
  · exact lc_paidIn hL h
  · exact lc_bestZone hL h
  · exact lc_worth hL h
  · exact lc_doneIn hL h
  · exact lc_append hL h
  · exact lc_clearText hL h
  · exact lc_parse hL h
  · exact lc_undo hL h
  · exact lc_digest hL h
end LX

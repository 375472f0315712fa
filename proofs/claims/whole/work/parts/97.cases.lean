/-! THE LAW: its cases (printed by program) -/
section LW
set_option maxRecDepth 100000 in
theorem lc_addCourier {B b L n : Nat} {xs : Nat → Int32} (hL : L ≤ 2560) {ls : fw_L} {st : List Value} {M : fw_M} (h : lwC B b L n ls st M) : lwS B b L n xs 144 ls st M := by
  obtain ⟨i, hn, h5, ⟨rfl, rfl⟩, hc, Z, hR, hM, hK⟩ := h
  have v1 := vi_k (k := 1) hL h5 (by decide)
  have v2 := vi_k (k := 2) hL h5 (by decide)
  have hK2 : KZ ((opAdd (xs (nI i + nI 1).toNatClampNeg) (xs (nI i + nI 2).toNatClampNeg)) Z).2.2 := KZ_add hK
  refine ⟨1000, And.intro rfl (And.intro v1 (And.intro rfl (And.intro v2 (And.intro (show M.2.2 ≤ 2600 by omega) (And.intro rfl (And.intro rfl (Exists.intro Z (And.intro hR (And.intro hK.1 (And.intro hK.2 ?_))))))))))⟩
  intro M1 g1 g2 g3 g4
  have g1 : RC B M1 ((opAdd (xs (nI i + nI 1).toNatClampNeg) (xs (nI i + nI 2).toNatClampNeg)) Z).2.2 := g1
  have g4 : ((opAdd (xs (nI i + nI 1).toNatClampNeg) (xs (nI i + nI 2).toNatClampNeg)) Z).1 = 0 → M1.2.1 1 = ((opAdd (xs (nI i + nI 1).toNatClampNeg) (xs (nI i + nI 2).toNatClampNeg)) Z).2.1.toInt64 := g4
  have hM1 := RM_lo hM g2
  refine And.intro rfl (And.intro v1 (And.intro rfl (And.intro v2 (And.intro k492 (And.intro (show M.2.2 + 1 ≤ 2600 by omega) (And.intro rfl (Exists.intro Z (And.intro hM1 (And.intro hK.1 ?_)))))))))
  intro r M2 r1 r2 r3 r4
  have r1 : ((opAdd (xs (nI i + nI 1).toNatClampNeg) (xs (nI i + nI 2).toNatClampNeg)) Z).1 = 0 → r = ((opAdd (xs (nI i + nI 1).toNatClampNeg) (xs (nI i + nI 2).toNatClampNeg)) Z).2.1 := r1
  have r2 : RM B M2 ((opAdd (xs (nI i + nI 1).toNatClampNeg) (xs (nI i + nI 2).toNatClampNeg)) Z).2.2 := r2
  have r3 : M2.1 (B + 492) 7 = nI ((opAdd (xs (nI i + nI 1).toNatClampNeg) (xs (nI i + nI 2).toNatClampNeg)) Z).1 := r3
  have hR2 : RC B M2 ((opAdd (xs (nI i + nI 1).toNatClampNeg) (xs (nI i + nI 2).toNatClampNeg)) Z).2.2 := RC_hi g1 (fun b hb => r4.1 b (Or.inl hb))
  obtain ⟨n1, q1, q2⟩ := lw_go (B := B) (b := b) (L := L) (i := i) (c := n) (M := (M2.1, M2.2.1, M.2.2 + 1 + 1 + 1)) (Z := ((opAdd (xs (nI i + nI 1).toNatClampNeg) (xs (nI i + nI 2).toNatClampNeg)) Z).2.2) h5 (by show M.2.2 + 1 + 1 + 1 ≤ i + 3; omega) hR2 r2 hK2 hn
  refine And.intro k492 (And.intro (show M.2.2 + 1 + 1 ≤ 2600 by omega) (And.intro rfl (And.intro (fun w => And.intro (fun w2 => ?_) (fun w2 => And.intro k498 (And.intro rfl (And.intro (fun w3 => ?_) (fun w3 => ?_))))) (fun w => ?_))))
  · exact Exists.intro n1 (And.intro q1 q2)
  · exact Exists.intro n1 (And.intro q1 q2)
  · exfalso
    have w2 : nI ((opAdd (xs (nI i + nI 1).toNatClampNeg) (xs (nI i + nI 2).toNatClampNeg)) Z).1 = 0 := w2
    have w2 : ((opAdd (xs (nI i + nI 1).toNatClampNeg) (xs (nI i + nI 2).toNatClampNeg)) Z).1 = 0 := by rcases (o3_addCourier : ((opAdd (xs (nI i + nI 1).toNatClampNeg) (xs (nI i + nI 2).toNatClampNeg)) Z).1 = 0 ∨ ((opAdd (xs (nI i + nI 1).toNatClampNeg) (xs (nI i + nI 2).toNatClampNeg)) Z).1 = 1 ∨ ((opAdd (xs (nI i + nI 1).toNatClampNeg) (xs (nI i + nI 2).toNatClampNeg)) Z).1 = 2) with y | y | y <;> rw [y] at w2 <;> first | exact y | exact absurd w2 (by decide)
    have w3 : ¬ lg_cmp (M2.2.1 1) r.toInt64 = 0 := w3
    rw [r4.2.1, g4 w2, r1 w2] at w3
    exact w3 lg_self
  · exfalso
    have w : ¬ M2.1 (B + 492) 7 = nI ((opAdd (xs (nI i + nI 1).toNatClampNeg) (xs (nI i + nI 2).toNatClampNeg)) Z).1 := w
    exact w r3
set_option maxRecDepth 100000 in
theorem lc_setArea {B b L n : Nat} {xs : Nat → Int32} (hL : L ≤ 2560) {ls : fw_L} {st : List Value} {M : fw_M} (h : lwC B b L n ls st M) : lwS B b L n xs 212 ls st M := by
  obtain ⟨i, hn, h5, ⟨rfl, rfl⟩, hc, Z, hR, hM, hK⟩ := h
  have v1 := vi_k (k := 1) hL h5 (by decide)
  have v2 := vi_k (k := 2) hL h5 (by decide)
  have hK2 : KZ ((opArea (xs (nI i + nI 1).toNatClampNeg) (xs (nI i + nI 2).toNatClampNeg)) Z).2.2 := KZ_area hK
  refine ⟨1000, And.intro rfl (And.intro v1 (And.intro rfl (And.intro v2 (And.intro (show M.2.2 ≤ 2600 by omega) (And.intro rfl (And.intro rfl (Exists.intro Z (And.intro hR (And.intro hK.1 (And.intro hK.2 ?_))))))))))⟩
  intro M1 g1 g2 g3 g4
  have g1 : RC B M1 ((opArea (xs (nI i + nI 1).toNatClampNeg) (xs (nI i + nI 2).toNatClampNeg)) Z).2.2 := g1
  have g4 : ((opArea (xs (nI i + nI 1).toNatClampNeg) (xs (nI i + nI 2).toNatClampNeg)) Z).1 = 0 → M1.2.1 1 = ((opArea (xs (nI i + nI 1).toNatClampNeg) (xs (nI i + nI 2).toNatClampNeg)) Z).2.1.toInt64 := g4
  have hM1 := RM_lo hM g2
  refine And.intro rfl (And.intro v1 (And.intro rfl (And.intro v2 (And.intro k492 (And.intro (show M.2.2 + 1 ≤ 2600 by omega) (And.intro rfl (Exists.intro Z (And.intro hM1 (And.intro hK.1 ?_)))))))))
  intro r M2 r1 r2 r3 r4
  have r1 : ((opArea (xs (nI i + nI 1).toNatClampNeg) (xs (nI i + nI 2).toNatClampNeg)) Z).1 = 0 → r = ((opArea (xs (nI i + nI 1).toNatClampNeg) (xs (nI i + nI 2).toNatClampNeg)) Z).2.1 := r1
  have r2 : RM B M2 ((opArea (xs (nI i + nI 1).toNatClampNeg) (xs (nI i + nI 2).toNatClampNeg)) Z).2.2 := r2
  have r3 : M2.1 (B + 492) 7 = nI ((opArea (xs (nI i + nI 1).toNatClampNeg) (xs (nI i + nI 2).toNatClampNeg)) Z).1 := r3
  have hR2 : RC B M2 ((opArea (xs (nI i + nI 1).toNatClampNeg) (xs (nI i + nI 2).toNatClampNeg)) Z).2.2 := RC_hi g1 (fun b hb => r4.1 b (Or.inl hb))
  obtain ⟨n1, q1, q2⟩ := lw_go (B := B) (b := b) (L := L) (i := i) (c := n) (M := (M2.1, M2.2.1, M.2.2 + 1 + 1 + 1)) (Z := ((opArea (xs (nI i + nI 1).toNatClampNeg) (xs (nI i + nI 2).toNatClampNeg)) Z).2.2) h5 (by show M.2.2 + 1 + 1 + 1 ≤ i + 3; omega) hR2 r2 hK2 hn
  refine And.intro k492 (And.intro (show M.2.2 + 1 + 1 ≤ 2600 by omega) (And.intro rfl (And.intro (fun w => And.intro (fun w2 => ?_) (fun w2 => And.intro k498 (And.intro rfl (And.intro (fun w3 => ?_) (fun w3 => ?_))))) (fun w => ?_))))
  · exact Exists.intro n1 (And.intro q1 q2)
  · exact Exists.intro n1 (And.intro q1 q2)
  · exfalso
    have w2 : nI ((opArea (xs (nI i + nI 1).toNatClampNeg) (xs (nI i + nI 2).toNatClampNeg)) Z).1 = 0 := w2
    have w2 : ((opArea (xs (nI i + nI 1).toNatClampNeg) (xs (nI i + nI 2).toNatClampNeg)) Z).1 = 0 := by rcases (o3_setArea : ((opArea (xs (nI i + nI 1).toNatClampNeg) (xs (nI i + nI 2).toNatClampNeg)) Z).1 = 0 ∨ ((opArea (xs (nI i + nI 1).toNatClampNeg) (xs (nI i + nI 2).toNatClampNeg)) Z).1 = 1 ∨ ((opArea (xs (nI i + nI 1).toNatClampNeg) (xs (nI i + nI 2).toNatClampNeg)) Z).1 = 2) with y | y | y <;> rw [y] at w2 <;> first | exact y | exact absurd w2 (by decide)
    have w3 : ¬ lg_cmp (M2.2.1 1) r.toInt64 = 0 := w3
    rw [r4.2.1, g4 w2, r1 w2] at w3
    exact w3 lg_self
  · exfalso
    have w : ¬ M2.1 (B + 492) 7 = nI ((opArea (xs (nI i + nI 1).toNatClampNeg) (xs (nI i + nI 2).toNatClampNeg)) Z).1 := w
    exact w r3
set_option maxRecDepth 100000 in
theorem lc_give {B b L n : Nat} {xs : Nat → Int32} (hL : L ≤ 2560) {ls : fw_L} {st : List Value} {M : fw_M} (h : lwC B b L n ls st M) : lwS B b L n xs 280 ls st M := by
  obtain ⟨i, hn, h5, ⟨rfl, rfl⟩, hc, Z, hR, hM, hK⟩ := h
  have v1 := vi_k (k := 1) hL h5 (by decide)
  have v2 := vi_k (k := 2) hL h5 (by decide)
  have v3 := vi_k (k := 3) hL h5 (by decide)
  have v4 := vi_k (k := 4) hL h5 (by decide)
  have hK2 : KZ ((opGive (xs (nI i + nI 1).toNatClampNeg) (xs (nI i + nI 2).toNatClampNeg) (xs (nI i + nI 3).toNatClampNeg) (xs (nI i + nI 4).toNatClampNeg)) Z).2.2 := KZ_give hK
  refine ⟨1000, And.intro rfl (And.intro v1 (And.intro rfl (And.intro v2 (And.intro rfl (And.intro v3 (And.intro rfl (And.intro v4 (And.intro (show M.2.2 ≤ 2600 by omega) (And.intro rfl (And.intro rfl (Exists.intro Z (And.intro hR (And.intro hK.1 (And.intro hK.2 ?_))))))))))))))⟩
  intro M1 g1 g2 g3 g4
  have g1 : RC B M1 ((opGive (xs (nI i + nI 1).toNatClampNeg) (xs (nI i + nI 2).toNatClampNeg) (xs (nI i + nI 3).toNatClampNeg) (xs (nI i + nI 4).toNatClampNeg)) Z).2.2 := g1
  have g4 : ((opGive (xs (nI i + nI 1).toNatClampNeg) (xs (nI i + nI 2).toNatClampNeg) (xs (nI i + nI 3).toNatClampNeg) (xs (nI i + nI 4).toNatClampNeg)) Z).1 = 0 → M1.2.1 1 = ((opGive (xs (nI i + nI 1).toNatClampNeg) (xs (nI i + nI 2).toNatClampNeg) (xs (nI i + nI 3).toNatClampNeg) (xs (nI i + nI 4).toNatClampNeg)) Z).2.1.toInt64 := g4
  have hM1 := RM_lo hM g2
  refine And.intro rfl (And.intro v1 (And.intro rfl (And.intro v2 (And.intro rfl (And.intro v3 (And.intro rfl (And.intro v4 (And.intro k492 (And.intro (show M.2.2 + 1 ≤ 2600 by omega) (And.intro rfl (Exists.intro Z (And.intro hM1 (And.intro hK.1 ?_)))))))))))))
  intro r M2 r1 r2 r3 r4
  have r1 : ((opGive (xs (nI i + nI 1).toNatClampNeg) (xs (nI i + nI 2).toNatClampNeg) (xs (nI i + nI 3).toNatClampNeg) (xs (nI i + nI 4).toNatClampNeg)) Z).1 = 0 → r = ((opGive (xs (nI i + nI 1).toNatClampNeg) (xs (nI i + nI 2).toNatClampNeg) (xs (nI i + nI 3).toNatClampNeg) (xs (nI i + nI 4).toNatClampNeg)) Z).2.1 := r1
  have r2 : RM B M2 ((opGive (xs (nI i + nI 1).toNatClampNeg) (xs (nI i + nI 2).toNatClampNeg) (xs (nI i + nI 3).toNatClampNeg) (xs (nI i + nI 4).toNatClampNeg)) Z).2.2 := r2
  have r3 : M2.1 (B + 492) 7 = nI ((opGive (xs (nI i + nI 1).toNatClampNeg) (xs (nI i + nI 2).toNatClampNeg) (xs (nI i + nI 3).toNatClampNeg) (xs (nI i + nI 4).toNatClampNeg)) Z).1 := r3
  have hR2 : RC B M2 ((opGive (xs (nI i + nI 1).toNatClampNeg) (xs (nI i + nI 2).toNatClampNeg) (xs (nI i + nI 3).toNatClampNeg) (xs (nI i + nI 4).toNatClampNeg)) Z).2.2 := RC_hi g1 (fun b hb => r4.1 b (Or.inl hb))
  obtain ⟨n1, q1, q2⟩ := lw_go (B := B) (b := b) (L := L) (i := i) (c := n) (M := (M2.1, M2.2.1, M.2.2 + 1 + 1 + 1)) (Z := ((opGive (xs (nI i + nI 1).toNatClampNeg) (xs (nI i + nI 2).toNatClampNeg) (xs (nI i + nI 3).toNatClampNeg) (xs (nI i + nI 4).toNatClampNeg)) Z).2.2) h5 (by show M.2.2 + 1 + 1 + 1 ≤ i + 3; omega) hR2 r2 hK2 hn
  refine And.intro k492 (And.intro (show M.2.2 + 1 + 1 ≤ 2600 by omega) (And.intro rfl (And.intro (fun w => And.intro (fun w2 => ?_) (fun w2 => And.intro k498 (And.intro rfl (And.intro (fun w3 => ?_) (fun w3 => ?_))))) (fun w => ?_))))
  · exact Exists.intro n1 (And.intro q1 q2)
  · exact Exists.intro n1 (And.intro q1 q2)
  · exfalso
    have w2 : nI ((opGive (xs (nI i + nI 1).toNatClampNeg) (xs (nI i + nI 2).toNatClampNeg) (xs (nI i + nI 3).toNatClampNeg) (xs (nI i + nI 4).toNatClampNeg)) Z).1 = 0 := w2
    have w2 : ((opGive (xs (nI i + nI 1).toNatClampNeg) (xs (nI i + nI 2).toNatClampNeg) (xs (nI i + nI 3).toNatClampNeg) (xs (nI i + nI 4).toNatClampNeg)) Z).1 = 0 := by rcases (o3_give : ((opGive (xs (nI i + nI 1).toNatClampNeg) (xs (nI i + nI 2).toNatClampNeg) (xs (nI i + nI 3).toNatClampNeg) (xs (nI i + nI 4).toNatClampNeg)) Z).1 = 0 ∨ ((opGive (xs (nI i + nI 1).toNatClampNeg) (xs (nI i + nI 2).toNatClampNeg) (xs (nI i + nI 3).toNatClampNeg) (xs (nI i + nI 4).toNatClampNeg)) Z).1 = 1 ∨ ((opGive (xs (nI i + nI 1).toNatClampNeg) (xs (nI i + nI 2).toNatClampNeg) (xs (nI i + nI 3).toNatClampNeg) (xs (nI i + nI 4).toNatClampNeg)) Z).1 = 2) with y | y | y <;> rw [y] at w2 <;> first | exact y | exact absurd w2 (by decide)
    have w3 : ¬ lg_cmp (M2.2.1 1) r.toInt64 = 0 := w3
    rw [r4.2.1, g4 w2, r1 w2] at w3
    exact w3 lg_self
  · exfalso
    have w : ¬ M2.1 (B + 492) 7 = nI ((opGive (xs (nI i + nI 1).toNatClampNeg) (xs (nI i + nI 2).toNatClampNeg) (xs (nI i + nI 3).toNatClampNeg) (xs (nI i + nI 4).toNatClampNeg)) Z).1 := w
    exact w r3
set_option maxRecDepth 100000 in
theorem lc_setGrace {B b L n : Nat} {xs : Nat → Int32} (hL : L ≤ 2560) {ls : fw_L} {st : List Value} {M : fw_M} (h : lwC B b L n ls st M) : lwS B b L n xs 372 ls st M := by
  obtain ⟨i, hn, h5, ⟨rfl, rfl⟩, hc, Z, hR, hM, hK⟩ := h
  have v1 := vi_k (k := 1) hL h5 (by decide)
  have hK2 : KZ ((opGrace (xs (nI i + nI 1).toNatClampNeg)) Z).2.2 := KZ_grace hK
  refine ⟨1000, And.intro rfl (And.intro v1 (And.intro (show M.2.2 ≤ 2600 by omega) (And.intro rfl (And.intro rfl (Exists.intro Z (And.intro hR (And.intro hK.1 (And.intro hK.2 ?_))))))))⟩
  intro M1 g1 g2 g3 g4
  have g1 : RC B M1 ((opGrace (xs (nI i + nI 1).toNatClampNeg)) Z).2.2 := g1
  have g4 : ((opGrace (xs (nI i + nI 1).toNatClampNeg)) Z).1 = 0 → M1.2.1 1 = ((opGrace (xs (nI i + nI 1).toNatClampNeg)) Z).2.1.toInt64 := g4
  have hM1 := RM_lo hM g2
  refine And.intro rfl (And.intro v1 (And.intro k492 (And.intro (show M.2.2 + 1 ≤ 2600 by omega) (And.intro rfl (Exists.intro Z (And.intro hM1 (And.intro hK.1 ?_)))))))
  intro r M2 r1 r2 r3 r4
  have r1 : ((opGrace (xs (nI i + nI 1).toNatClampNeg)) Z).1 = 0 → r = ((opGrace (xs (nI i + nI 1).toNatClampNeg)) Z).2.1 := r1
  have r2 : RM B M2 ((opGrace (xs (nI i + nI 1).toNatClampNeg)) Z).2.2 := r2
  have r3 : M2.1 (B + 492) 7 = nI ((opGrace (xs (nI i + nI 1).toNatClampNeg)) Z).1 := r3
  have hR2 : RC B M2 ((opGrace (xs (nI i + nI 1).toNatClampNeg)) Z).2.2 := RC_hi g1 (fun b hb => r4.1 b (Or.inl hb))
  obtain ⟨n1, q1, q2⟩ := lw_go (B := B) (b := b) (L := L) (i := i) (c := n) (M := (M2.1, M2.2.1, M.2.2 + 1 + 1 + 1)) (Z := ((opGrace (xs (nI i + nI 1).toNatClampNeg)) Z).2.2) h5 (by show M.2.2 + 1 + 1 + 1 ≤ i + 3; omega) hR2 r2 hK2 hn
  refine And.intro k492 (And.intro (show M.2.2 + 1 + 1 ≤ 2600 by omega) (And.intro rfl (And.intro (fun w => And.intro (fun w2 => ?_) (fun w2 => And.intro k498 (And.intro rfl (And.intro (fun w3 => ?_) (fun w3 => ?_))))) (fun w => ?_))))
  · exact Exists.intro n1 (And.intro q1 q2)
  · exact Exists.intro n1 (And.intro q1 q2)
  · exfalso
    have w2 : nI ((opGrace (xs (nI i + nI 1).toNatClampNeg)) Z).1 = 0 := w2
    have w2 : ((opGrace (xs (nI i + nI 1).toNatClampNeg)) Z).1 = 0 := by rcases (o3_setGrace : ((opGrace (xs (nI i + nI 1).toNatClampNeg)) Z).1 = 0 ∨ ((opGrace (xs (nI i + nI 1).toNatClampNeg)) Z).1 = 1 ∨ ((opGrace (xs (nI i + nI 1).toNatClampNeg)) Z).1 = 2) with y | y | y <;> rw [y] at w2 <;> first | exact y | exact absurd w2 (by decide)
    have w3 : ¬ lg_cmp (M2.2.1 1) r.toInt64 = 0 := w3
    rw [r4.2.1, g4 w2, r1 w2] at w3
    exact w3 lg_self
  · exfalso
    have w : ¬ M2.1 (B + 492) 7 = nI ((opGrace (xs (nI i + nI 1).toNatClampNeg)) Z).1 := w
    exact w r3
set_option maxRecDepth 100000 in
theorem lc_drop {B b L n : Nat} {xs : Nat → Int32} (hL : L ≤ 2560) {ls : fw_L} {st : List Value} {M : fw_M} (h : lwC B b L n ls st M) : lwS B b L n xs 428 ls st M := by
  obtain ⟨i, hn, h5, ⟨rfl, rfl⟩, hc, Z, hR, hM, hK⟩ := h
  have v1 := vi_k (k := 1) hL h5 (by decide)
  have hK2 : KZ ((opDrop (xs (nI i + nI 1).toNatClampNeg)) Z).2.2 := KZ_drop hK
  refine ⟨1000, And.intro rfl (And.intro v1 (And.intro (show M.2.2 ≤ 2600 by omega) (And.intro rfl (And.intro rfl (Exists.intro Z (And.intro hR (And.intro hK.1 (And.intro hK.2 ?_))))))))⟩
  intro M1 g1 g2 g3 g4
  have g1 : RC B M1 ((opDrop (xs (nI i + nI 1).toNatClampNeg)) Z).2.2 := g1
  have g4 : ((opDrop (xs (nI i + nI 1).toNatClampNeg)) Z).1 = 0 → M1.2.1 1 = ((opDrop (xs (nI i + nI 1).toNatClampNeg)) Z).2.1.toInt64 := g4
  have hM1 := RM_lo hM g2
  refine And.intro rfl (And.intro v1 (And.intro k492 (And.intro (show M.2.2 + 1 ≤ 2600 by omega) (And.intro rfl (Exists.intro Z (And.intro hM1 (And.intro hK.1 ?_)))))))
  intro r M2 r1 r2 r3 r4
  have r1 : ((opDrop (xs (nI i + nI 1).toNatClampNeg)) Z).1 = 0 → r = ((opDrop (xs (nI i + nI 1).toNatClampNeg)) Z).2.1 := r1
  have r2 : RM B M2 ((opDrop (xs (nI i + nI 1).toNatClampNeg)) Z).2.2 := r2
  have r3 : M2.1 (B + 492) 7 = nI ((opDrop (xs (nI i + nI 1).toNatClampNeg)) Z).1 := r3
  have hR2 : RC B M2 ((opDrop (xs (nI i + nI 1).toNatClampNeg)) Z).2.2 := RC_hi g1 (fun b hb => r4.1 b (Or.inl hb))
  obtain ⟨n1, q1, q2⟩ := lw_go (B := B) (b := b) (L := L) (i := i) (c := n) (M := (M2.1, M2.2.1, M.2.2 + 1 + 1 + 1)) (Z := ((opDrop (xs (nI i + nI 1).toNatClampNeg)) Z).2.2) h5 (by show M.2.2 + 1 + 1 + 1 ≤ i + 3; omega) hR2 r2 hK2 hn
  refine And.intro k492 (And.intro (show M.2.2 + 1 + 1 ≤ 2600 by omega) (And.intro rfl (And.intro (fun w => And.intro (fun w2 => ?_) (fun w2 => And.intro k498 (And.intro rfl (And.intro (fun w3 => ?_) (fun w3 => ?_))))) (fun w => ?_))))
  · exact Exists.intro n1 (And.intro q1 q2)
  · exact Exists.intro n1 (And.intro q1 q2)
  · exfalso
    have w2 : nI ((opDrop (xs (nI i + nI 1).toNatClampNeg)) Z).1 = 0 := w2
    have w2 : ((opDrop (xs (nI i + nI 1).toNatClampNeg)) Z).1 = 0 := by rcases (o3_drop : ((opDrop (xs (nI i + nI 1).toNatClampNeg)) Z).1 = 0 ∨ ((opDrop (xs (nI i + nI 1).toNatClampNeg)) Z).1 = 1 ∨ ((opDrop (xs (nI i + nI 1).toNatClampNeg)) Z).1 = 2) with y | y | y <;> rw [y] at w2 <;> first | exact y | exact absurd w2 (by decide)
    have w3 : ¬ lg_cmp (M2.2.1 1) r.toInt64 = 0 := w3
    rw [r4.2.1, g4 w2, r1 w2] at w3
    exact w3 lg_self
  · exfalso
    have w : ¬ M2.1 (B + 492) 7 = nI ((opDrop (xs (nI i + nI 1).toNatClampNeg)) Z).1 := w
    exact w r3
set_option maxRecDepth 100000 in
theorem lc_run {B b L n : Nat} {xs : Nat → Int32} (hL : L ≤ 2560) {ls : fw_L} {st : List Value} {M : fw_M} (h : lwC B b L n ls st M) : lwS B b L n xs 484 ls st M := by
  obtain ⟨i, hn, h5, ⟨rfl, rfl⟩, hc, Z, hR, hM, hK⟩ := h
  have v1 := vi_k (k := 1) hL h5 (by decide)
  have hK2 : KZ ((opRun (xs (nI i + nI 1).toNatClampNeg)) Z).2.2 := KZ_run hK
  refine ⟨1000, And.intro rfl (And.intro v1 (And.intro (show M.2.2 ≤ 2600 by omega) (And.intro rfl (And.intro rfl (Exists.intro Z (And.intro hR (And.intro hK.1 (And.intro hK.2 ?_))))))))⟩
  intro M1 g1 g2 g3 g4
  have g1 : RC B M1 ((opRun (xs (nI i + nI 1).toNatClampNeg)) Z).2.2 := g1
  have g4 : ((opRun (xs (nI i + nI 1).toNatClampNeg)) Z).1 = 0 → M1.2.1 1 = ((opRun (xs (nI i + nI 1).toNatClampNeg)) Z).2.1.toInt64 := g4
  have hM1 := RM_lo hM g2
  refine And.intro rfl (And.intro v1 (And.intro k492 (And.intro (show M.2.2 + 1 ≤ 2600 by omega) (And.intro rfl (Exists.intro Z (And.intro hM1 (And.intro hK.1 ?_)))))))
  intro r M2 r1 r2 r3 r4
  have r1 : ((opRun (xs (nI i + nI 1).toNatClampNeg)) Z).1 = 0 → r = ((opRun (xs (nI i + nI 1).toNatClampNeg)) Z).2.1 := r1
  have r2 : RM B M2 ((opRun (xs (nI i + nI 1).toNatClampNeg)) Z).2.2 := r2
  have r3 : M2.1 (B + 492) 7 = nI ((opRun (xs (nI i + nI 1).toNatClampNeg)) Z).1 := r3
  have hR2 : RC B M2 ((opRun (xs (nI i + nI 1).toNatClampNeg)) Z).2.2 := RC_hi g1 (fun b hb => r4.1 b (Or.inl hb))
  obtain ⟨n1, q1, q2⟩ := lw_go (B := B) (b := b) (L := L) (i := i) (c := n) (M := (M2.1, M2.2.1, M.2.2 + 1 + 1 + 1)) (Z := ((opRun (xs (nI i + nI 1).toNatClampNeg)) Z).2.2) h5 (by show M.2.2 + 1 + 1 + 1 ≤ i + 3; omega) hR2 r2 hK2 hn
  refine And.intro k492 (And.intro (show M.2.2 + 1 + 1 ≤ 2600 by omega) (And.intro rfl (And.intro (fun w => And.intro (fun w2 => ?_) (fun w2 => And.intro k498 (And.intro rfl (And.intro (fun w3 => ?_) (fun w3 => ?_))))) (fun w => ?_))))
  · exact Exists.intro n1 (And.intro q1 q2)
  · exact Exists.intro n1 (And.intro q1 q2)
  · exfalso
    have w2 : nI ((opRun (xs (nI i + nI 1).toNatClampNeg)) Z).1 = 0 := w2
    have w2 : ((opRun (xs (nI i + nI 1).toNatClampNeg)) Z).1 = 0 := by rcases (o3_run : ((opRun (xs (nI i + nI 1).toNatClampNeg)) Z).1 = 0 ∨ ((opRun (xs (nI i + nI 1).toNatClampNeg)) Z).1 = 1 ∨ ((opRun (xs (nI i + nI 1).toNatClampNeg)) Z).1 = 2) with y | y | y <;> rw [y] at w2 <;> first | exact y | exact absurd w2 (by decide)
    have w3 : ¬ lg_cmp (M2.2.1 1) r.toInt64 = 0 := w3
    rw [r4.2.1, g4 w2, r1 w2] at w3
    exact w3 lg_self
  · exfalso
    have w : ¬ M2.1 (B + 492) 7 = nI ((opRun (xs (nI i + nI 1).toNatClampNeg)) Z).1 := w
    exact w r3
set_option maxRecDepth 100000 in
theorem lc_value {B b L n : Nat} {xs : Nat → Int32} (hL : L ≤ 2560) {ls : fw_L} {st : List Value} {M : fw_M} (h : lwC B b L n ls st M) : lwS B b L n xs 540 ls st M := by
  obtain ⟨i, hn, h5, ⟨rfl, rfl⟩, hc, Z, hR, hM, hK⟩ := h
  have v1 := vi_k (k := 1) hL h5 (by decide)
  have hK2 : KZ ((opValue (xs (nI i + nI 1).toNatClampNeg)) Z).2.2 := KZ_same hK sm_value
  refine ⟨1000, And.intro rfl (And.intro v1 (And.intro (show M.2.2 ≤ 2600 by omega) (And.intro rfl (And.intro rfl (Exists.intro Z (And.intro hR (And.intro hK.1 (And.intro hK.2 ?_))))))))⟩
  intro M1 g1 g2 g3 g4
  have g1 : RC B M1 ((opValue (xs (nI i + nI 1).toNatClampNeg)) Z).2.2 := g1
  have g4 : ((opValue (xs (nI i + nI 1).toNatClampNeg)) Z).1 = 0 → M1.2.1 1 = ((opValue (xs (nI i + nI 1).toNatClampNeg)) Z).2.1.toInt64 := g4
  have hM1 := RM_lo hM g2
  refine And.intro rfl (And.intro v1 (And.intro k492 (And.intro (show M.2.2 + 1 ≤ 2600 by omega) (And.intro rfl (Exists.intro Z (And.intro hM1 (And.intro hK.1 ?_)))))))
  intro r M2 r1 r2 r3 r4
  have r1 : ((opValue (xs (nI i + nI 1).toNatClampNeg)) Z).1 = 0 → r = ((opValue (xs (nI i + nI 1).toNatClampNeg)) Z).2.1 := r1
  have r2 : RM B M2 ((opValue (xs (nI i + nI 1).toNatClampNeg)) Z).2.2 := r2
  have r3 : M2.1 (B + 492) 7 = nI ((opValue (xs (nI i + nI 1).toNatClampNeg)) Z).1 := r3
  have hR2 : RC B M2 ((opValue (xs (nI i + nI 1).toNatClampNeg)) Z).2.2 := RC_hi g1 (fun b hb => r4.1 b (Or.inl hb))
  obtain ⟨n1, q1, q2⟩ := lw_go (B := B) (b := b) (L := L) (i := i) (c := n) (M := (M2.1, M2.2.1, M.2.2 + 1 + 1 + 1)) (Z := ((opValue (xs (nI i + nI 1).toNatClampNeg)) Z).2.2) h5 (by show M.2.2 + 1 + 1 + 1 ≤ i + 3; omega) hR2 r2 hK2 hn
  refine And.intro k492 (And.intro (show M.2.2 + 1 + 1 ≤ 2600 by omega) (And.intro rfl (And.intro (fun w => And.intro (fun w2 => ?_) (fun w2 => And.intro k498 (And.intro rfl (And.intro (fun w3 => ?_) (fun w3 => ?_))))) (fun w => ?_))))
  · exact Exists.intro n1 (And.intro q1 q2)
  · exact Exists.intro n1 (And.intro q1 q2)
  · exfalso
    have w2 : nI ((opValue (xs (nI i + nI 1).toNatClampNeg)) Z).1 = 0 := w2
    have w2 : ((opValue (xs (nI i + nI 1).toNatClampNeg)) Z).1 = 0 := by rcases (o3_value : ((opValue (xs (nI i + nI 1).toNatClampNeg)) Z).1 = 0 ∨ ((opValue (xs (nI i + nI 1).toNatClampNeg)) Z).1 = 1 ∨ ((opValue (xs (nI i + nI 1).toNatClampNeg)) Z).1 = 2) with y | y | y <;> rw [y] at w2 <;> first | exact y | exact absurd w2 (by decide)
    have w3 : ¬ lg_cmp (M2.2.1 1) r.toInt64 = 0 := w3
    rw [r4.2.1, g4 w2, r1 w2] at w3
    exact w3 lg_self
  · exfalso
    have w : ¬ M2.1 (B + 492) 7 = nI ((opValue (xs (nI i + nI 1).toNatClampNeg)) Z).1 := w
    exact w r3
set_option maxRecDepth 100000 in
theorem lc_courier {B b L n : Nat} {xs : Nat → Int32} (hL : L ≤ 2560) {ls : fw_L} {st : List Value} {M : fw_M} (h : lwC B b L n ls st M) : lwS B b L n xs 596 ls st M := by
  obtain ⟨i, hn, h5, ⟨rfl, rfl⟩, hc, Z, hR, hM, hK⟩ := h
  have v1 := vi_k (k := 1) hL h5 (by decide)
  have v2 := vi_k (k := 2) hL h5 (by decide)
  have hK2 : KZ ((opCourier (xs (nI i + nI 1).toNatClampNeg) (xs (nI i + nI 2).toNatClampNeg)) Z).2.2 := KZ_same hK sm_courier
  refine ⟨1000, And.intro rfl (And.intro v1 (And.intro rfl (And.intro v2 (And.intro (show M.2.2 ≤ 2600 by omega) (And.intro rfl (And.intro rfl (Exists.intro Z (And.intro hR (And.intro hK.1 (And.intro hK.2 ?_))))))))))⟩
  intro M1 g1 g2 g3 g4
  have g1 : RC B M1 ((opCourier (xs (nI i + nI 1).toNatClampNeg) (xs (nI i + nI 2).toNatClampNeg)) Z).2.2 := g1
  have g4 : ((opCourier (xs (nI i + nI 1).toNatClampNeg) (xs (nI i + nI 2).toNatClampNeg)) Z).1 = 0 → M1.2.1 1 = ((opCourier (xs (nI i + nI 1).toNatClampNeg) (xs (nI i + nI 2).toNatClampNeg)) Z).2.1.toInt64 := g4
  have hM1 := RM_lo hM g2
  refine And.intro rfl (And.intro v1 (And.intro rfl (And.intro v2 (And.intro k492 (And.intro (show M.2.2 + 1 ≤ 2600 by omega) (And.intro rfl (Exists.intro Z (And.intro hM1 (And.intro hK.1 ?_)))))))))
  intro r M2 r1 r2 r3 r4
  have r1 : ((opCourier (xs (nI i + nI 1).toNatClampNeg) (xs (nI i + nI 2).toNatClampNeg)) Z).1 = 0 → r = ((opCourier (xs (nI i + nI 1).toNatClampNeg) (xs (nI i + nI 2).toNatClampNeg)) Z).2.1 := r1
  have r2 : RM B M2 ((opCourier (xs (nI i + nI 1).toNatClampNeg) (xs (nI i + nI 2).toNatClampNeg)) Z).2.2 := r2
  have r3 : M2.1 (B + 492) 7 = nI ((opCourier (xs (nI i + nI 1).toNatClampNeg) (xs (nI i + nI 2).toNatClampNeg)) Z).1 := r3
  have hR2 : RC B M2 ((opCourier (xs (nI i + nI 1).toNatClampNeg) (xs (nI i + nI 2).toNatClampNeg)) Z).2.2 := RC_hi g1 (fun b hb => r4.1 b (Or.inl hb))
  obtain ⟨n1, q1, q2⟩ := lw_go (B := B) (b := b) (L := L) (i := i) (c := n) (M := (M2.1, M2.2.1, M.2.2 + 1 + 1 + 1)) (Z := ((opCourier (xs (nI i + nI 1).toNatClampNeg) (xs (nI i + nI 2).toNatClampNeg)) Z).2.2) h5 (by show M.2.2 + 1 + 1 + 1 ≤ i + 3; omega) hR2 r2 hK2 hn
  refine And.intro k492 (And.intro (show M.2.2 + 1 + 1 ≤ 2600 by omega) (And.intro rfl (And.intro (fun w => And.intro (fun w2 => ?_) (fun w2 => And.intro k498 (And.intro rfl (And.intro (fun w3 => ?_) (fun w3 => ?_))))) (fun w => ?_))))
  · exact Exists.intro n1 (And.intro q1 q2)
  · exact Exists.intro n1 (And.intro q1 q2)
  · exfalso
    have w2 : nI ((opCourier (xs (nI i + nI 1).toNatClampNeg) (xs (nI i + nI 2).toNatClampNeg)) Z).1 = 0 := w2
    have w2 : ((opCourier (xs (nI i + nI 1).toNatClampNeg) (xs (nI i + nI 2).toNatClampNeg)) Z).1 = 0 := by rcases (o3_courier : ((opCourier (xs (nI i + nI 1).toNatClampNeg) (xs (nI i + nI 2).toNatClampNeg)) Z).1 = 0 ∨ ((opCourier (xs (nI i + nI 1).toNatClampNeg) (xs (nI i + nI 2).toNatClampNeg)) Z).1 = 1 ∨ ((opCourier (xs (nI i + nI 1).toNatClampNeg) (xs (nI i + nI 2).toNatClampNeg)) Z).1 = 2) with y | y | y <;> rw [y] at w2 <;> first | exact y | exact absurd w2 (by decide)
    have w3 : ¬ lg_cmp (M2.2.1 1) r.toInt64 = 0 := w3
    rw [r4.2.1, g4 w2, r1 w2] at w3
    exact w3 lg_self
  · exfalso
    have w : ¬ M2.1 (B + 492) 7 = nI ((opCourier (xs (nI i + nI 1).toNatClampNeg) (xs (nI i + nI 2).toNatClampNeg)) Z).1 := w
    exact w r3
set_option maxRecDepth 100000 in
theorem lc_parcel {B b L n : Nat} {xs : Nat → Int32} (hL : L ≤ 2560) {ls : fw_L} {st : List Value} {M : fw_M} (h : lwC B b L n ls st M) : lwS B b L n xs 664 ls st M := by
  obtain ⟨i, hn, h5, ⟨rfl, rfl⟩, hc, Z, hR, hM, hK⟩ := h
  have v1 := vi_k (k := 1) hL h5 (by decide)
  have v2 := vi_k (k := 2) hL h5 (by decide)
  have hK2 : KZ ((opParcel (xs (nI i + nI 1).toNatClampNeg) (xs (nI i + nI 2).toNatClampNeg)) Z).2.2 := KZ_same hK sm_parcel
  refine ⟨1000, And.intro rfl (And.intro v1 (And.intro rfl (And.intro v2 (And.intro (show M.2.2 ≤ 2600 by omega) (And.intro rfl (And.intro rfl (Exists.intro Z (And.intro hR (And.intro hK.1 (And.intro hK.2 ?_))))))))))⟩
  intro M1 g1 g2 g3 g4
  have g1 : RC B M1 ((opParcel (xs (nI i + nI 1).toNatClampNeg) (xs (nI i + nI 2).toNatClampNeg)) Z).2.2 := g1
  have g4 : ((opParcel (xs (nI i + nI 1).toNatClampNeg) (xs (nI i + nI 2).toNatClampNeg)) Z).1 = 0 → M1.2.1 1 = ((opParcel (xs (nI i + nI 1).toNatClampNeg) (xs (nI i + nI 2).toNatClampNeg)) Z).2.1.toInt64 := g4
  have hM1 := RM_lo hM g2
  refine And.intro rfl (And.intro v1 (And.intro rfl (And.intro v2 (And.intro k492 (And.intro (show M.2.2 + 1 ≤ 2600 by omega) (And.intro rfl (Exists.intro Z (And.intro hM1 (And.intro hK.1 ?_)))))))))
  intro r M2 r1 r2 r3 r4
  have r1 : ((opParcel (xs (nI i + nI 1).toNatClampNeg) (xs (nI i + nI 2).toNatClampNeg)) Z).1 = 0 → r = ((opParcel (xs (nI i + nI 1).toNatClampNeg) (xs (nI i + nI 2).toNatClampNeg)) Z).2.1 := r1
  have r2 : RM B M2 ((opParcel (xs (nI i + nI 1).toNatClampNeg) (xs (nI i + nI 2).toNatClampNeg)) Z).2.2 := r2
  have r3 : M2.1 (B + 492) 7 = nI ((opParcel (xs (nI i + nI 1).toNatClampNeg) (xs (nI i + nI 2).toNatClampNeg)) Z).1 := r3
  have hR2 : RC B M2 ((opParcel (xs (nI i + nI 1).toNatClampNeg) (xs (nI i + nI 2).toNatClampNeg)) Z).2.2 := RC_hi g1 (fun b hb => r4.1 b (Or.inl hb))
  obtain ⟨n1, q1, q2⟩ := lw_go (B := B) (b := b) (L := L) (i := i) (c := n) (M := (M2.1, M2.2.1, M.2.2 + 1 + 1 + 1)) (Z := ((opParcel (xs (nI i + nI 1).toNatClampNeg) (xs (nI i + nI 2).toNatClampNeg)) Z).2.2) h5 (by show M.2.2 + 1 + 1 + 1 ≤ i + 3; omega) hR2 r2 hK2 hn
  refine And.intro k492 (And.intro (show M.2.2 + 1 + 1 ≤ 2600 by omega) (And.intro rfl (And.intro (fun w => And.intro (fun w2 => ?_) (fun w2 => And.intro k498 (And.intro rfl (And.intro (fun w3 => ?_) (fun w3 => ?_))))) (fun w => ?_))))
  · exact Exists.intro n1 (And.intro q1 q2)
  · exact Exists.intro n1 (And.intro q1 q2)
  · exfalso
    have w2 : nI ((opParcel (xs (nI i + nI 1).toNatClampNeg) (xs (nI i + nI 2).toNatClampNeg)) Z).1 = 0 := w2
    have w2 : ((opParcel (xs (nI i + nI 1).toNatClampNeg) (xs (nI i + nI 2).toNatClampNeg)) Z).1 = 0 := by rcases (o3_parcel : ((opParcel (xs (nI i + nI 1).toNatClampNeg) (xs (nI i + nI 2).toNatClampNeg)) Z).1 = 0 ∨ ((opParcel (xs (nI i + nI 1).toNatClampNeg) (xs (nI i + nI 2).toNatClampNeg)) Z).1 = 1 ∨ ((opParcel (xs (nI i + nI 1).toNatClampNeg) (xs (nI i + nI 2).toNatClampNeg)) Z).1 = 2) with y | y | y <;> rw [y] at w2 <;> first | exact y | exact absurd w2 (by decide)
    have w3 : ¬ lg_cmp (M2.2.1 1) r.toInt64 = 0 := w3
    rw [r4.2.1, g4 w2, r1 w2] at w3
    exact w3 lg_self
  · exfalso
    have w : ¬ M2.1 (B + 492) 7 = nI ((opParcel (xs (nI i + nI 1).toNatClampNeg) (xs (nI i + nI 2).toNatClampNeg)) Z).1 := w
    exact w r3
set_option maxRecDepth 100000 in
theorem lc_legs {B b L n : Nat} {xs : Nat → Int32} (hL : L ≤ 2560) {ls : fw_L} {st : List Value} {M : fw_M} (h : lwC B b L n ls st M) : lwS B b L n xs 732 ls st M := by
  obtain ⟨i, hn, h5, ⟨rfl, rfl⟩, hc, Z, hR, hM, hK⟩ := h
  have v1 := vi_k (k := 1) hL h5 (by decide)
  have v2 := vi_k (k := 2) hL h5 (by decide)
  have v3 := vi_k (k := 3) hL h5 (by decide)
  by_cases z : xs (nI i + nI 3).toNatClampNeg = 0
  · have hK2 : KZ ((opLegs (xs (nI i + nI 1).toNatClampNeg) (xs (nI i + nI 2).toNatClampNeg) 0) Z).2.2 := KZ_same hK sm_legs
    refine ⟨1000, And.intro rfl (And.intro v1 (And.intro rfl (And.intro v2 (And.intro rfl (And.intro v3 (And.intro (fun z2 => ?_) (fun z2 => ?_)))))))⟩
    · refine And.intro (show M.2.2 ≤ 2600 by omega) (And.intro rfl (And.intro rfl (Exists.intro Z (And.intro hR (And.intro hK.1 (And.intro hK.2 ?_))))))
      intro M1 g1 g2 g3 g4
      have g1 : RC B M1 ((opLegs (xs (nI i + nI 1).toNatClampNeg) (xs (nI i + nI 2).toNatClampNeg) 0) Z).2.2 := g1
      have g4 : ((opLegs (xs (nI i + nI 1).toNatClampNeg) (xs (nI i + nI 2).toNatClampNeg) 0) Z).1 = 0 → M1.2.1 1 = ((opLegs (xs (nI i + nI 1).toNatClampNeg) (xs (nI i + nI 2).toNatClampNeg) 0) Z).2.1.toInt64 := g4
      have hM1 := RM_lo hM g2
      refine And.intro rfl (And.intro v1 (And.intro rfl (And.intro v2 (And.intro rfl (And.intro v3 (And.intro (fun z2 => ?_) (fun z2 => ?_)))))))
      · refine And.intro k492 (And.intro (show M.2.2 + 1 ≤ 2600 by omega) (And.intro rfl (Exists.intro Z (And.intro hM1 (And.intro hK.1 ?_)))))
        intro r M2 r1 r2 r3 r4
        have r1 : ((opLegs (xs (nI i + nI 1).toNatClampNeg) (xs (nI i + nI 2).toNatClampNeg) 0) Z).1 = 0 → r = ((opLegs (xs (nI i + nI 1).toNatClampNeg) (xs (nI i + nI 2).toNatClampNeg) 0) Z).2.1 := r1
        have r2 : RM B M2 ((opLegs (xs (nI i + nI 1).toNatClampNeg) (xs (nI i + nI 2).toNatClampNeg) 0) Z).2.2 := r2
        have r3 : M2.1 (B + 492) 7 = nI ((opLegs (xs (nI i + nI 1).toNatClampNeg) (xs (nI i + nI 2).toNatClampNeg) 0) Z).1 := r3
        have hR2 : RC B M2 ((opLegs (xs (nI i + nI 1).toNatClampNeg) (xs (nI i + nI 2).toNatClampNeg) 0) Z).2.2 := RC_hi g1 (fun b hb => r4.1 b (Or.inl hb))
        obtain ⟨n1, q1, q2⟩ := lw_go (B := B) (b := b) (L := L) (i := i) (c := n) (M := (M2.1, M2.2.1, M.2.2 + 1 + 1 + 1)) (Z := ((opLegs (xs (nI i + nI 1).toNatClampNeg) (xs (nI i + nI 2).toNatClampNeg) 0) Z).2.2) h5 (by show M.2.2 + 1 + 1 + 1 ≤ i + 3; omega) hR2 r2 hK2 hn
        refine And.intro k492 (And.intro (show M.2.2 + 1 + 1 ≤ 2600 by omega) (And.intro rfl (And.intro (fun w => And.intro (fun w2 => ?_) (fun w2 => And.intro k498 (And.intro rfl (And.intro (fun w3 => ?_) (fun w3 => ?_))))) (fun w => ?_))))
        · exact Exists.intro n1 (And.intro q1 q2)
        · exact Exists.intro n1 (And.intro q1 q2)
        · exfalso
          have w2 : nI ((opLegs (xs (nI i + nI 1).toNatClampNeg) (xs (nI i + nI 2).toNatClampNeg) 0) Z).1 = 0 := w2
          have w2 : ((opLegs (xs (nI i + nI 1).toNatClampNeg) (xs (nI i + nI 2).toNatClampNeg) 0) Z).1 = 0 := by rcases (o3_legs : ((opLegs (xs (nI i + nI 1).toNatClampNeg) (xs (nI i + nI 2).toNatClampNeg) 0) Z).1 = 0 ∨ ((opLegs (xs (nI i + nI 1).toNatClampNeg) (xs (nI i + nI 2).toNatClampNeg) 0) Z).1 = 1 ∨ ((opLegs (xs (nI i + nI 1).toNatClampNeg) (xs (nI i + nI 2).toNatClampNeg) 0) Z).1 = 2) with y | y | y <;> rw [y] at w2 <;> first | exact y | exact absurd w2 (by decide)
          have w3 : ¬ lg_cmp (M2.2.1 1) r.toInt64 = 0 := w3
          rw [r4.2.1, g4 w2, r1 w2] at w3
          exact w3 lg_self
        · exfalso
          have w : ¬ M2.1 (B + 492) 7 = nI ((opLegs (xs (nI i + nI 1).toNatClampNeg) (xs (nI i + nI 2).toNatClampNeg) 0) Z).1 := w
          exact w r3
      · exact absurd z z2
    · exact absurd z z2
  · have hK2 : KZ ((opLegs (xs (nI i + nI 1).toNatClampNeg) (xs (nI i + nI 2).toNatClampNeg) 1) Z).2.2 := KZ_same hK sm_legs
    refine ⟨1000, And.intro rfl (And.intro v1 (And.intro rfl (And.intro v2 (And.intro rfl (And.intro v3 (And.intro (fun z2 => ?_) (fun z2 => ?_)))))))⟩
    · exact absurd z2 z
    · refine And.intro (show M.2.2 ≤ 2600 by omega) (And.intro rfl (And.intro rfl (Exists.intro Z (And.intro hR (And.intro hK.1 (And.intro hK.2 ?_))))))
      intro M1 g1 g2 g3 g4
      have g1 : RC B M1 ((opLegs (xs (nI i + nI 1).toNatClampNeg) (xs (nI i + nI 2).toNatClampNeg) 1) Z).2.2 := g1
      have g4 : ((opLegs (xs (nI i + nI 1).toNatClampNeg) (xs (nI i + nI 2).toNatClampNeg) 1) Z).1 = 0 → M1.2.1 1 = ((opLegs (xs (nI i + nI 1).toNatClampNeg) (xs (nI i + nI 2).toNatClampNeg) 1) Z).2.1.toInt64 := g4
      have hM1 := RM_lo hM g2
      refine And.intro rfl (And.intro v1 (And.intro rfl (And.intro v2 (And.intro rfl (And.intro v3 (And.intro (fun z2 => ?_) (fun z2 => ?_)))))))
      · exact absurd z2 z
      · refine And.intro k492 (And.intro (show M.2.2 + 1 ≤ 2600 by omega) (And.intro rfl (Exists.intro Z (And.intro hM1 (And.intro hK.1 ?_)))))
        intro r M2 r1 r2 r3 r4
        have r1 : ((opLegs (xs (nI i + nI 1).toNatClampNeg) (xs (nI i + nI 2).toNatClampNeg) 1) Z).1 = 0 → r = ((opLegs (xs (nI i + nI 1).toNatClampNeg) (xs (nI i + nI 2).toNatClampNeg) 1) Z).2.1 := r1
        have r2 : RM B M2 ((opLegs (xs (nI i + nI 1).toNatClampNeg) (xs (nI i + nI 2).toNatClampNeg) 1) Z).2.2 := r2
        have r3 : M2.1 (B + 492) 7 = nI ((opLegs (xs (nI i + nI 1).toNatClampNeg) (xs (nI i + nI 2).toNatClampNeg) 1) Z).1 := r3
        have hR2 : RC B M2 ((opLegs (xs (nI i + nI 1).toNatClampNeg) (xs (nI i + nI 2).toNatClampNeg) 1) Z).2.2 := RC_hi g1 (fun b hb => r4.1 b (Or.inl hb))
        obtain ⟨n1, q1, q2⟩ := lw_go (B := B) (b := b) (L := L) (i := i) (c := n) (M := (M2.1, M2.2.1, M.2.2 + 1 + 1 + 1)) (Z := ((opLegs (xs (nI i + nI 1).toNatClampNeg) (xs (nI i + nI 2).toNatClampNeg) 1) Z).2.2) h5 (by show M.2.2 + 1 + 1 + 1 ≤ i + 3; omega) hR2 r2 hK2 hn
        refine And.intro k492 (And.intro (show M.2.2 + 1 + 1 ≤ 2600 by omega) (And.intro rfl (And.intro (fun w => And.intro (fun w2 => ?_) (fun w2 => And.intro k498 (And.intro rfl (And.intro (fun w3 => ?_) (fun w3 => ?_))))) (fun w => ?_))))
        · exact Exists.intro n1 (And.intro q1 q2)
        · exact Exists.intro n1 (And.intro q1 q2)
        · exfalso
          have w2 : nI ((opLegs (xs (nI i + nI 1).toNatClampNeg) (xs (nI i + nI 2).toNatClampNeg) 1) Z).1 = 0 := w2
          have w2 : ((opLegs (xs (nI i + nI 1).toNatClampNeg) (xs (nI i + nI 2).toNatClampNeg) 1) Z).1 = 0 := by rcases (o3_legs : ((opLegs (xs (nI i + nI 1).toNatClampNeg) (xs (nI i + nI 2).toNatClampNeg) 1) Z).1 = 0 ∨ ((opLegs (xs (nI i + nI 1).toNatClampNeg) (xs (nI i + nI 2).toNatClampNeg) 1) Z).1 = 1 ∨ ((opLegs (xs (nI i + nI 1).toNatClampNeg) (xs (nI i + nI 2).toNatClampNeg) 1) Z).1 = 2) with y | y | y <;> rw [y] at w2 <;> first | exact y | exact absurd w2 (by decide)
          have w3 : ¬ lg_cmp (M2.2.1 1) r.toInt64 = 0 := w3
          rw [r4.2.1, g4 w2, r1 w2] at w3
          exact w3 lg_self
        · exfalso
          have w : ¬ M2.1 (B + 492) 7 = nI ((opLegs (xs (nI i + nI 1).toNatClampNeg) (xs (nI i + nI 2).toNatClampNeg) 1) Z).1 := w
          exact w r3
set_option maxRecDepth 100000 in
theorem lc_distance {B b L n : Nat} {xs : Nat → Int32} (hL : L ≤ 2560) {ls : fw_L} {st : List Value} {M : fw_M} (h : lwC B b L n ls st M) : lwS B b L n xs 828 ls st M := by
  obtain ⟨i, hn, h5, ⟨rfl, rfl⟩, hc, Z, hR, hM, hK⟩ := h
  have v1 := vi_k (k := 1) hL h5 (by decide)
  have v2 := vi_k (k := 2) hL h5 (by decide)
  have hK2 : KZ ((opDist (xs (nI i + nI 1).toNatClampNeg) (xs (nI i + nI 2).toNatClampNeg)) Z).2.2 := KZ_same hK sm_dist
  refine ⟨1000, And.intro rfl (And.intro v1 (And.intro rfl (And.intro v2 (And.intro (show M.2.2 ≤ 2600 by omega) (And.intro rfl (And.intro rfl (Exists.intro Z (And.intro hR (And.intro hK.1 (And.intro hK.2 ?_))))))))))⟩
  intro M1 g1 g2 g3 g4
  have g1 : RC B M1 ((opDist (xs (nI i + nI 1).toNatClampNeg) (xs (nI i + nI 2).toNatClampNeg)) Z).2.2 := g1
  have g4 : ((opDist (xs (nI i + nI 1).toNatClampNeg) (xs (nI i + nI 2).toNatClampNeg)) Z).1 = 0 → M1.2.1 1 = ((opDist (xs (nI i + nI 1).toNatClampNeg) (xs (nI i + nI 2).toNatClampNeg)) Z).2.1.toInt64 := g4
  have hM1 := RM_lo hM g2
  refine And.intro rfl (And.intro v1 (And.intro rfl (And.intro v2 (And.intro k492 (And.intro (show M.2.2 + 1 ≤ 2600 by omega) (And.intro rfl (Exists.intro Z (And.intro hM1 (And.intro hK.1 ?_)))))))))
  intro r M2 r1 r2 r3 r4
  have r1 : ((opDist (xs (nI i + nI 1).toNatClampNeg) (xs (nI i + nI 2).toNatClampNeg)) Z).1 = 0 → r = ((opDist (xs (nI i + nI 1).toNatClampNeg) (xs (nI i + nI 2).toNatClampNeg)) Z).2.1 := r1
  have r2 : RM B M2 ((opDist (xs (nI i + nI 1).toNatClampNeg) (xs (nI i + nI 2).toNatClampNeg)) Z).2.2 := r2
  have r3 : M2.1 (B + 492) 7 = nI ((opDist (xs (nI i + nI 1).toNatClampNeg) (xs (nI i + nI 2).toNatClampNeg)) Z).1 := r3
  have hR2 : RC B M2 ((opDist (xs (nI i + nI 1).toNatClampNeg) (xs (nI i + nI 2).toNatClampNeg)) Z).2.2 := RC_hi g1 (fun b hb => r4.1 b (Or.inl hb))
  obtain ⟨n1, q1, q2⟩ := lw_go (B := B) (b := b) (L := L) (i := i) (c := n) (M := (M2.1, M2.2.1, M.2.2 + 1 + 1 + 1)) (Z := ((opDist (xs (nI i + nI 1).toNatClampNeg) (xs (nI i + nI 2).toNatClampNeg)) Z).2.2) h5 (by show M.2.2 + 1 + 1 + 1 ≤ i + 3; omega) hR2 r2 hK2 hn
  refine And.intro k492 (And.intro (show M.2.2 + 1 + 1 ≤ 2600 by omega) (And.intro rfl (And.intro (fun w => And.intro (fun w2 => ?_) (fun w2 => And.intro k498 (And.intro rfl (And.intro (fun w3 => ?_) (fun w3 => ?_))))) (fun w => ?_))))
  · exact Exists.intro n1 (And.intro q1 q2)
  · exact Exists.intro n1 (And.intro q1 q2)
  · exfalso
    have w2 : nI ((opDist (xs (nI i + nI 1).toNatClampNeg) (xs (nI i + nI 2).toNatClampNeg)) Z).1 = 0 := w2
    have w2 : ((opDist (xs (nI i + nI 1).toNatClampNeg) (xs (nI i + nI 2).toNatClampNeg)) Z).1 = 0 := by rcases (o3_distance : ((opDist (xs (nI i + nI 1).toNatClampNeg) (xs (nI i + nI 2).toNatClampNeg)) Z).1 = 0 ∨ ((opDist (xs (nI i + nI 1).toNatClampNeg) (xs (nI i + nI 2).toNatClampNeg)) Z).1 = 1 ∨ ((opDist (xs (nI i + nI 1).toNatClampNeg) (xs (nI i + nI 2).toNatClampNeg)) Z).1 = 2) with y | y | y <;> rw [y] at w2 <;> first | exact y | exact absurd w2 (by decide)
    have w3 : ¬ lg_cmp (M2.2.1 1) r.toInt64 = 0 := w3
    rw [r4.2.1, g4 w2, r1 w2] at w3
    exact w3 lg_self
  · exfalso
    have w : ¬ M2.1 (B + 492) 7 = nI ((opDist (xs (nI i + nI 1).toNatClampNeg) (xs (nI i + nI 2).toNatClampNeg)) Z).1 := w
    exact w r3
set_option maxRecDepth 100000 in
theorem lc_suited {B b L n : Nat} {xs : Nat → Int32} (hL : L ≤ 2560) {ls : fw_L} {st : List Value} {M : fw_M} (h : lwC B b L n ls st M) : lwS B b L n xs 896 ls st M := by
  obtain ⟨i, hn, h5, ⟨rfl, rfl⟩, hc, Z, hR, hM, hK⟩ := h
  have v1 := vi_k (k := 1) hL h5 (by decide)
  have hK2 : KZ ((opSuited (xs (nI i + nI 1).toNatClampNeg)) Z).2.2 := KZ_same hK sm_suited
  refine ⟨1000, And.intro rfl (And.intro v1 (And.intro (show M.2.2 ≤ 2600 by omega) (And.intro rfl (And.intro rfl (Exists.intro Z (And.intro hR (And.intro hK.1 (And.intro hK.2 ?_))))))))⟩
  intro M1 g1 g2 g3 g4
  have g1 : RC B M1 ((opSuited (xs (nI i + nI 1).toNatClampNeg)) Z).2.2 := g1
  have g4 : ((opSuited (xs (nI i + nI 1).toNatClampNeg)) Z).1 = 0 → M1.2.1 1 = ((opSuited (xs (nI i + nI 1).toNatClampNeg)) Z).2.1.toInt64 := g4
  have hM1 := RM_lo hM g2
  refine And.intro rfl (And.intro v1 (And.intro k492 (And.intro (show M.2.2 + 1 ≤ 2600 by omega) (And.intro rfl (Exists.intro Z (And.intro hM1 (And.intro hK.1 ?_)))))))
  intro r M2 r1 r2 r3 r4
  have r1 : ((opSuited (xs (nI i + nI 1).toNatClampNeg)) Z).1 = 0 → r = ((opSuited (xs (nI i + nI 1).toNatClampNeg)) Z).2.1 := r1
  have r2 : RM B M2 ((opSuited (xs (nI i + nI 1).toNatClampNeg)) Z).2.2 := r2
  have r3 : M2.1 (B + 492) 7 = nI ((opSuited (xs (nI i + nI 1).toNatClampNeg)) Z).1 := r3
  have hR2 : RC B M2 ((opSuited (xs (nI i + nI 1).toNatClampNeg)) Z).2.2 := RC_hi g1 (fun b hb => r4.1 b (Or.inl hb))
  obtain ⟨n1, q1, q2⟩ := lw_go (B := B) (b := b) (L := L) (i := i) (c := n) (M := (M2.1, M2.2.1, M.2.2 + 1 + 1 + 1)) (Z := ((opSuited (xs (nI i + nI 1).toNatClampNeg)) Z).2.2) h5 (by show M.2.2 + 1 + 1 + 1 ≤ i + 3; omega) hR2 r2 hK2 hn
  refine And.intro k492 (And.intro (show M.2.2 + 1 + 1 ≤ 2600 by omega) (And.intro rfl (And.intro (fun w => And.intro (fun w2 => ?_) (fun w2 => And.intro k498 (And.intro rfl (And.intro (fun w3 => ?_) (fun w3 => ?_))))) (fun w => ?_))))
  · exact Exists.intro n1 (And.intro q1 q2)
  · exact Exists.intro n1 (And.intro q1 q2)
  · exfalso
    have w2 : nI ((opSuited (xs (nI i + nI 1).toNatClampNeg)) Z).1 = 0 := w2
    have w2 : ((opSuited (xs (nI i + nI 1).toNatClampNeg)) Z).1 = 0 := by rcases (o3_suited : ((opSuited (xs (nI i + nI 1).toNatClampNeg)) Z).1 = 0 ∨ ((opSuited (xs (nI i + nI 1).toNatClampNeg)) Z).1 = 1 ∨ ((opSuited (xs (nI i + nI 1).toNatClampNeg)) Z).1 = 2) with y | y | y <;> rw [y] at w2 <;> first | exact y | exact absurd w2 (by decide)
    have w3 : ¬ lg_cmp (M2.2.1 1) r.toInt64 = 0 := w3
    rw [r4.2.1, g4 w2, r1 w2] at w3
    exact w3 lg_self
  · exfalso
    have w : ¬ M2.1 (B + 492) 7 = nI ((opSuited (xs (nI i + nI 1).toNatClampNeg)) Z).1 := w
    exact w r3
set_option maxRecDepth 100000 in
theorem lc_leastRelay {B b L n : Nat} {xs : Nat → Int32} (hL : L ≤ 2560) {ls : fw_L} {st : List Value} {M : fw_M} (h : lwC B b L n ls st M) : lwS B b L n xs 952 ls st M := by
  obtain ⟨i, hn, h5, ⟨rfl, rfl⟩, hc, Z, hR, hM, hK⟩ := h
  have v1 := vi_k (k := 1) hL h5 (by decide)
  have hK2 : KZ ((opRelay (xs (nI i + nI 1).toNatClampNeg)) Z).2.2 := KZ_same hK sm_relay
  refine ⟨1000, And.intro rfl (And.intro v1 (And.intro (show M.2.2 ≤ 2600 by omega) (And.intro rfl (And.intro rfl (Exists.intro Z (And.intro hR (And.intro hK.1 (And.intro hK.2 ?_))))))))⟩
  intro M1 g1 g2 g3 g4
  have g1 : RC B M1 ((opRelay (xs (nI i + nI 1).toNatClampNeg)) Z).2.2 := g1
  have g4 : ((opRelay (xs (nI i + nI 1).toNatClampNeg)) Z).1 = 0 → M1.2.1 1 = ((opRelay (xs (nI i + nI 1).toNatClampNeg)) Z).2.1.toInt64 := g4
  have hM1 := RM_lo hM g2
  refine And.intro rfl (And.intro v1 (And.intro k492 (And.intro (show M.2.2 + 1 ≤ 2600 by omega) (And.intro rfl (Exists.intro Z (And.intro hM1 (And.intro hK.1 ?_)))))))
  intro r M2 r1 r2 r3 r4
  have r1 : ((opRelay (xs (nI i + nI 1).toNatClampNeg)) Z).1 = 0 → r = ((opRelay (xs (nI i + nI 1).toNatClampNeg)) Z).2.1 := r1
  have r2 : RM B M2 ((opRelay (xs (nI i + nI 1).toNatClampNeg)) Z).2.2 := r2
  have r3 : M2.1 (B + 492) 7 = nI ((opRelay (xs (nI i + nI 1).toNatClampNeg)) Z).1 := r3
  have hR2 : RC B M2 ((opRelay (xs (nI i + nI 1).toNatClampNeg)) Z).2.2 := RC_hi g1 (fun b hb => r4.1 b (Or.inl hb))
  obtain ⟨n1, q1, q2⟩ := lw_go (B := B) (b := b) (L := L) (i := i) (c := n) (M := (M2.1, M2.2.1, M.2.2 + 1 + 1 + 1)) (Z := ((opRelay (xs (nI i + nI 1).toNatClampNeg)) Z).2.2) h5 (by show M.2.2 + 1 + 1 + 1 ≤ i + 3; omega) hR2 r2 hK2 hn
  refine And.intro k492 (And.intro (show M.2.2 + 1 + 1 ≤ 2600 by omega) (And.intro rfl (And.intro (fun w => And.intro (fun w2 => ?_) (fun w2 => And.intro k498 (And.intro rfl (And.intro (fun w3 => ?_) (fun w3 => ?_))))) (fun w => ?_))))
  · exact Exists.intro n1 (And.intro q1 q2)
  · exact Exists.intro n1 (And.intro q1 q2)
  · exfalso
    have w2 : nI ((opRelay (xs (nI i + nI 1).toNatClampNeg)) Z).1 = 0 := w2
    have w2 : ((opRelay (xs (nI i + nI 1).toNatClampNeg)) Z).1 = 0 := by rcases (o3_leastRelay : ((opRelay (xs (nI i + nI 1).toNatClampNeg)) Z).1 = 0 ∨ ((opRelay (xs (nI i + nI 1).toNatClampNeg)) Z).1 = 1 ∨ ((opRelay (xs (nI i + nI 1).toNatClampNeg)) Z).1 = 2) with y | y | y <;> rw [y] at w2 <;> first | exact y | exact absurd w2 (by decide)
    have w3 : ¬ lg_cmp (M2.2.1 1) r.toInt64 = 0 := w3
    rw [r4.2.1, g4 w2, r1 w2] at w3
    exact w3 lg_self
  · exfalso
    have w : ¬ M2.1 (B + 492) 7 = nI ((opRelay (xs (nI i + nI 1).toNatClampNeg)) Z).1 := w
    exact w r3
set_option maxRecDepth 100000 in
theorem lc_paidIn {B b L n : Nat} {xs : Nat → Int32} (hL : L ≤ 2560) {ls : fw_L} {st : List Value} {M : fw_M} (h : lwC B b L n ls st M) : lwS B b L n xs 1049 ls st M := by
  obtain ⟨i, hn, h5, ⟨rfl, rfl⟩, hc, Z, hR, hM, hK⟩ := h
  have v1 := vi_k (k := 1) hL h5 (by decide)
  have hK2 : KZ ((opPaid (xs (nI i + nI 1).toNatClampNeg)) Z).2.2 := KZ_same hK sm_paid
  refine ⟨1000, And.intro rfl (And.intro v1 (And.intro (show M.2.2 ≤ 2600 by omega) (And.intro rfl (And.intro rfl (Exists.intro Z (And.intro hR (And.intro hK.1 (And.intro hK.2 ?_))))))))⟩
  intro M1 g1 g2 g3 g4
  have g1 : RC B M1 ((opPaid (xs (nI i + nI 1).toNatClampNeg)) Z).2.2 := g1
  have g4 : ((opPaid (xs (nI i + nI 1).toNatClampNeg)) Z).1 = 0 → M1.2.1 1 = ((opPaid (xs (nI i + nI 1).toNatClampNeg)) Z).2.1.toInt64 := g4
  have hM1 := RM_lo hM g2
  refine And.intro rfl (And.intro v1 (And.intro k492 (And.intro (show M.2.2 + 1 ≤ 2600 by omega) (And.intro rfl (Exists.intro Z (And.intro hM1 (And.intro hK.1 ?_)))))))
  intro r M2 r1 r2 r3 r4
  have r1 : ((opPaid (xs (nI i + nI 1).toNatClampNeg)) Z).1 = 0 → r = ((opPaid (xs (nI i + nI 1).toNatClampNeg)) Z).2.1 := r1
  have r2 : RM B M2 ((opPaid (xs (nI i + nI 1).toNatClampNeg)) Z).2.2 := r2
  have r3 : M2.1 (B + 492) 7 = nI ((opPaid (xs (nI i + nI 1).toNatClampNeg)) Z).1 := r3
  have hR2 : RC B M2 ((opPaid (xs (nI i + nI 1).toNatClampNeg)) Z).2.2 := RC_hi g1 (fun b hb => r4.1 b (Or.inl hb))
  obtain ⟨n1, q1, q2⟩ := lw_go (B := B) (b := b) (L := L) (i := i) (c := n) (M := (M2.1, M2.2.1, M.2.2 + 1 + 1 + 1)) (Z := ((opPaid (xs (nI i + nI 1).toNatClampNeg)) Z).2.2) h5 (by show M.2.2 + 1 + 1 + 1 ≤ i + 3; omega) hR2 r2 hK2 hn
  refine And.intro k492 (And.intro (show M.2.2 + 1 + 1 ≤ 2600 by omega) (And.intro rfl (And.intro (fun w => And.intro (fun w2 => ?_) (fun w2 => And.intro k498 (And.intro rfl (And.intro (fun w3 => ?_) (fun w3 => ?_))))) (fun w => ?_))))
  · exact Exists.intro n1 (And.intro q1 q2)
  · exact Exists.intro n1 (And.intro q1 q2)
  · exfalso
    have w2 : nI ((opPaid (xs (nI i + nI 1).toNatClampNeg)) Z).1 = 0 := w2
    have w2 : ((opPaid (xs (nI i + nI 1).toNatClampNeg)) Z).1 = 0 := by rcases (o3_paidIn : ((opPaid (xs (nI i + nI 1).toNatClampNeg)) Z).1 = 0 ∨ ((opPaid (xs (nI i + nI 1).toNatClampNeg)) Z).1 = 1 ∨ ((opPaid (xs (nI i + nI 1).toNatClampNeg)) Z).1 = 2) with y | y | y <;> rw [y] at w2 <;> first | exact y | exact absurd w2 (by decide)
    have w3 : ¬ lg_cmp (M2.2.1 1) r.toInt64 = 0 := w3
    rw [r4.2.1, g4 w2, r1 w2] at w3
    exact w3 lg_self
  · exfalso
    have w : ¬ M2.1 (B + 492) 7 = nI ((opPaid (xs (nI i + nI 1).toNatClampNeg)) Z).1 := w
    exact w r3
set_option maxRecDepth 100000 in
theorem lc_bestZone {B b L n : Nat} {xs : Nat → Int32} (hL : L ≤ 2560) {ls : fw_L} {st : List Value} {M : fw_M} (h : lwC B b L n ls st M) : lwS B b L n xs 1105 ls st M := by
  obtain ⟨i, hn, h5, ⟨rfl, rfl⟩, hc, Z, hR, hM, hK⟩ := h
  have v1 := vi_k (k := 1) hL h5 (by decide)
  have v2 := vi_k (k := 2) hL h5 (by decide)
  have hK2 : KZ ((opBest (xs (nI i + nI 1).toNatClampNeg) (xs (nI i + nI 2).toNatClampNeg)) Z).2.2 := KZ_same hK sm_best
  refine ⟨1000, And.intro rfl (And.intro v1 (And.intro rfl (And.intro v2 (And.intro (show M.2.2 ≤ 2600 by omega) (And.intro rfl (And.intro rfl (Exists.intro Z (And.intro hR (And.intro hK.1 (And.intro hK.2 ?_))))))))))⟩
  intro M1 g1 g2 g3 g4
  have g1 : RC B M1 ((opBest (xs (nI i + nI 1).toNatClampNeg) (xs (nI i + nI 2).toNatClampNeg)) Z).2.2 := g1
  have g4 : ((opBest (xs (nI i + nI 1).toNatClampNeg) (xs (nI i + nI 2).toNatClampNeg)) Z).1 = 0 → M1.2.1 1 = ((opBest (xs (nI i + nI 1).toNatClampNeg) (xs (nI i + nI 2).toNatClampNeg)) Z).2.1.toInt64 := g4
  have hM1 := RM_lo hM g2
  refine And.intro rfl (And.intro v1 (And.intro rfl (And.intro v2 (And.intro k492 (And.intro (show M.2.2 + 1 ≤ 2600 by omega) (And.intro rfl (Exists.intro Z (And.intro hM1 (And.intro hK.1 ?_)))))))))
  intro r M2 r1 r2 r3 r4
  have r1 : ((opBest (xs (nI i + nI 1).toNatClampNeg) (xs (nI i + nI 2).toNatClampNeg)) Z).1 = 0 → r = ((opBest (xs (nI i + nI 1).toNatClampNeg) (xs (nI i + nI 2).toNatClampNeg)) Z).2.1 := r1
  have r2 : RM B M2 ((opBest (xs (nI i + nI 1).toNatClampNeg) (xs (nI i + nI 2).toNatClampNeg)) Z).2.2 := r2
  have r3 : M2.1 (B + 492) 7 = nI ((opBest (xs (nI i + nI 1).toNatClampNeg) (xs (nI i + nI 2).toNatClampNeg)) Z).1 := r3
  have hR2 : RC B M2 ((opBest (xs (nI i + nI 1).toNatClampNeg) (xs (nI i + nI 2).toNatClampNeg)) Z).2.2 := RC_hi g1 (fun b hb => r4.1 b (Or.inl hb))
  obtain ⟨n1, q1, q2⟩ := lw_go (B := B) (b := b) (L := L) (i := i) (c := n) (M := (M2.1, M2.2.1, M.2.2 + 1 + 1 + 1)) (Z := ((opBest (xs (nI i + nI 1).toNatClampNeg) (xs (nI i + nI 2).toNatClampNeg)) Z).2.2) h5 (by show M.2.2 + 1 + 1 + 1 ≤ i + 3; omega) hR2 r2 hK2 hn
  refine And.intro k492 (And.intro (show M.2.2 + 1 + 1 ≤ 2600 by omega) (And.intro rfl (And.intro (fun w => And.intro (fun w2 => ?_) (fun w2 => And.intro k498 (And.intro rfl (And.intro (fun w3 => ?_) (fun w3 => ?_))))) (fun w => ?_))))
  · exact Exists.intro n1 (And.intro q1 q2)
  · exact Exists.intro n1 (And.intro q1 q2)
  · exfalso
    have w2 : nI ((opBest (xs (nI i + nI 1).toNatClampNeg) (xs (nI i + nI 2).toNatClampNeg)) Z).1 = 0 := w2
    have w2 : ((opBest (xs (nI i + nI 1).toNatClampNeg) (xs (nI i + nI 2).toNatClampNeg)) Z).1 = 0 := by rcases (o3_bestZone : ((opBest (xs (nI i + nI 1).toNatClampNeg) (xs (nI i + nI 2).toNatClampNeg)) Z).1 = 0 ∨ ((opBest (xs (nI i + nI 1).toNatClampNeg) (xs (nI i + nI 2).toNatClampNeg)) Z).1 = 1 ∨ ((opBest (xs (nI i + nI 1).toNatClampNeg) (xs (nI i + nI 2).toNatClampNeg)) Z).1 = 2) with y | y | y <;> rw [y] at w2 <;> first | exact y | exact absurd w2 (by decide)
    have w3 : ¬ lg_cmp (M2.2.1 1) r.toInt64 = 0 := w3
    rw [r4.2.1, g4 w2, r1 w2] at w3
    exact w3 lg_self
  · exfalso
    have w : ¬ M2.1 (B + 492) 7 = nI ((opBest (xs (nI i + nI 1).toNatClampNeg) (xs (nI i + nI 2).toNatClampNeg)) Z).1 := w
    exact w r3
set_option maxRecDepth 100000 in
theorem lc_worth {B b L n : Nat} {xs : Nat → Int32} (hL : L ≤ 2560) {ls : fw_L} {st : List Value} {M : fw_M} (h : lwC B b L n ls st M) : lwS B b L n xs 1173 ls st M := by
  obtain ⟨i, hn, h5, ⟨rfl, rfl⟩, hc, Z, hR, hM, hK⟩ := h
  have v1 := vi_k (k := 1) hL h5 (by decide)
  have v2 := vi_k (k := 2) hL h5 (by decide)
  have hK2 : KZ ((opWorth (xs (nI i + nI 1).toNatClampNeg) (xs (nI i + nI 2).toNatClampNeg)) Z).2.2 := KZ_same hK sm_worth
  refine ⟨1000, And.intro rfl (And.intro v1 (And.intro rfl (And.intro v2 (And.intro (show M.2.2 ≤ 2600 by omega) (And.intro rfl (And.intro rfl (Exists.intro Z (And.intro hR (And.intro hK.1 (And.intro hK.2 ?_))))))))))⟩
  intro M1 g1 g2 g3 g4
  have g1 : RC B M1 ((opWorth (xs (nI i + nI 1).toNatClampNeg) (xs (nI i + nI 2).toNatClampNeg)) Z).2.2 := g1
  have g4 : ((opWorth (xs (nI i + nI 1).toNatClampNeg) (xs (nI i + nI 2).toNatClampNeg)) Z).1 = 0 → M1.2.1 1 = ((opWorth (xs (nI i + nI 1).toNatClampNeg) (xs (nI i + nI 2).toNatClampNeg)) Z).2.1.toInt64 := g4
  have hM1 := RM_lo hM g2
  refine And.intro rfl (And.intro v1 (And.intro rfl (And.intro v2 (And.intro k492 (And.intro (show M.2.2 + 1 ≤ 2600 by omega) (And.intro rfl (Exists.intro Z (And.intro hM1 (And.intro hK.1 ?_)))))))))
  intro r M2 r1 r2 r3 r4
  have r1 : ((opWorth (xs (nI i + nI 1).toNatClampNeg) (xs (nI i + nI 2).toNatClampNeg)) Z).1 = 0 → r = ((opWorth (xs (nI i + nI 1).toNatClampNeg) (xs (nI i + nI 2).toNatClampNeg)) Z).2.1 := r1
  have r2 : RM B M2 ((opWorth (xs (nI i + nI 1).toNatClampNeg) (xs (nI i + nI 2).toNatClampNeg)) Z).2.2 := r2
  have r3 : M2.1 (B + 492) 7 = nI ((opWorth (xs (nI i + nI 1).toNatClampNeg) (xs (nI i + nI 2).toNatClampNeg)) Z).1 := r3
  have hR2 : RC B M2 ((opWorth (xs (nI i + nI 1).toNatClampNeg) (xs (nI i + nI 2).toNatClampNeg)) Z).2.2 := RC_hi g1 (fun b hb => r4.1 b (Or.inl hb))
  obtain ⟨n1, q1, q2⟩ := lw_go (B := B) (b := b) (L := L) (i := i) (c := n) (M := (M2.1, M2.2.1, M.2.2 + 1 + 1 + 1)) (Z := ((opWorth (xs (nI i + nI 1).toNatClampNeg) (xs (nI i + nI 2).toNatClampNeg)) Z).2.2) h5 (by show M.2.2 + 1 + 1 + 1 ≤ i + 3; omega) hR2 r2 hK2 hn
  refine And.intro k492 (And.intro (show M.2.2 + 1 + 1 ≤ 2600 by omega) (And.intro rfl (And.intro (fun w => And.intro (fun w2 => ?_) (fun w2 => And.intro k498 (And.intro rfl (And.intro (fun w3 => ?_) (fun w3 => ?_))))) (fun w => ?_))))
  · exact Exists.intro n1 (And.intro q1 q2)
  · exact Exists.intro n1 (And.intro q1 q2)
  · exfalso
    have w2 : nI ((opWorth (xs (nI i + nI 1).toNatClampNeg) (xs (nI i + nI 2).toNatClampNeg)) Z).1 = 0 := w2
    have w2 : ((opWorth (xs (nI i + nI 1).toNatClampNeg) (xs (nI i + nI 2).toNatClampNeg)) Z).1 = 0 := by rcases (o3_worth : ((opWorth (xs (nI i + nI 1).toNatClampNeg) (xs (nI i + nI 2).toNatClampNeg)) Z).1 = 0 ∨ ((opWorth (xs (nI i + nI 1).toNatClampNeg) (xs (nI i + nI 2).toNatClampNeg)) Z).1 = 1 ∨ ((opWorth (xs (nI i + nI 1).toNatClampNeg) (xs (nI i + nI 2).toNatClampNeg)) Z).1 = 2) with y | y | y <;> rw [y] at w2 <;> first | exact y | exact absurd w2 (by decide)
    have w3 : ¬ lg_cmp (M2.2.1 1) r.toInt64 = 0 := w3
    rw [r4.2.1, g4 w2, r1 w2] at w3
    exact w3 lg_self
  · exfalso
    have w : ¬ M2.1 (B + 492) 7 = nI ((opWorth (xs (nI i + nI 1).toNatClampNeg) (xs (nI i + nI 2).toNatClampNeg)) Z).1 := w
    exact w r3
set_option maxRecDepth 100000 in
theorem lc_append {B b L n : Nat} {xs : Nat → Int32} (hL : L ≤ 2560) {ls : fw_L} {st : List Value} {M : fw_M} (h : lwC B b L n ls st M) : lwS B b L n xs 1254 ls st M := by
  obtain ⟨i, hn, h5, ⟨rfl, rfl⟩, hc, Z, hR, hM, hK⟩ := h
  have v1 := vi_k (k := 1) hL h5 (by decide)
  have hK2 : KZ ((opAppend (xs (nI i + nI 1).toNatClampNeg)) Z).2.2 := KZ_append hK
  refine ⟨1000, And.intro rfl (And.intro v1 (And.intro (show M.2.2 ≤ 2600 by omega) (And.intro rfl (And.intro rfl (Exists.intro Z (And.intro hR (And.intro hK.1 (And.intro hK.2 ?_))))))))⟩
  intro M1 g1 g2 g3 g4
  have g1 : RC B M1 ((opAppend (xs (nI i + nI 1).toNatClampNeg)) Z).2.2 := g1
  have g4 : ((opAppend (xs (nI i + nI 1).toNatClampNeg)) Z).1 = 0 → M1.2.1 1 = ((opAppend (xs (nI i + nI 1).toNatClampNeg)) Z).2.1.toInt64 := g4
  have hM1 := RM_lo hM g2
  refine And.intro rfl (And.intro v1 (And.intro k492 (And.intro (show M.2.2 + 1 ≤ 2600 by omega) (And.intro rfl (Exists.intro Z (And.intro hM1 (And.intro hK.1 ?_)))))))
  intro r M2 r1 r2 r3 r4
  have r1 : ((opAppend (xs (nI i + nI 1).toNatClampNeg)) Z).1 = 0 → r = ((opAppend (xs (nI i + nI 1).toNatClampNeg)) Z).2.1 := r1
  have r2 : RM B M2 ((opAppend (xs (nI i + nI 1).toNatClampNeg)) Z).2.2 := r2
  have r3 : M2.1 (B + 492) 7 = nI ((opAppend (xs (nI i + nI 1).toNatClampNeg)) Z).1 := r3
  have hR2 : RC B M2 ((opAppend (xs (nI i + nI 1).toNatClampNeg)) Z).2.2 := RC_hi g1 (fun b hb => r4.1 b (Or.inl hb))
  obtain ⟨n1, q1, q2⟩ := lw_go (B := B) (b := b) (L := L) (i := i) (c := n) (M := (M2.1, M2.2.1, M.2.2 + 1 + 1 + 1)) (Z := ((opAppend (xs (nI i + nI 1).toNatClampNeg)) Z).2.2) h5 (by show M.2.2 + 1 + 1 + 1 ≤ i + 3; omega) hR2 r2 hK2 hn
  refine And.intro k492 (And.intro (show M.2.2 + 1 + 1 ≤ 2600 by omega) (And.intro rfl (And.intro (fun w => And.intro (fun w2 => ?_) (fun w2 => And.intro k498 (And.intro rfl (And.intro (fun w3 => ?_) (fun w3 => ?_))))) (fun w => ?_))))
  · exact Exists.intro n1 (And.intro q1 q2)
  · exact Exists.intro n1 (And.intro q1 q2)
  · exfalso
    have w2 : nI ((opAppend (xs (nI i + nI 1).toNatClampNeg)) Z).1 = 0 := w2
    have w2 : ((opAppend (xs (nI i + nI 1).toNatClampNeg)) Z).1 = 0 := by rcases (o3_append : ((opAppend (xs (nI i + nI 1).toNatClampNeg)) Z).1 = 0 ∨ ((opAppend (xs (nI i + nI 1).toNatClampNeg)) Z).1 = 1 ∨ ((opAppend (xs (nI i + nI 1).toNatClampNeg)) Z).1 = 2) with y | y | y <;> rw [y] at w2 <;> first | exact y | exact absurd w2 (by decide)
    have w3 : ¬ lg_cmp (M2.2.1 1) r.toInt64 = 0 := w3
    rw [r4.2.1, g4 w2, r1 w2] at w3
    exact w3 lg_self
  · exfalso
    have w : ¬ M2.1 (B + 492) 7 = nI ((opAppend (xs (nI i + nI 1).toNatClampNeg)) Z).1 := w
    exact w r3
set_option maxRecDepth 100000 in
theorem lc_undo {B b L n : Nat} {xs : Nat → Int32} (hL : L ≤ 2560) {ls : fw_L} {st : List Value} {M : fw_M} (h : lwC B b L n ls st M) : lwS B b L n xs 1336 ls st M := by
  obtain ⟨i, hn, h5, ⟨rfl, rfl⟩, hc, Z, hR, hM, hK⟩ := h
  have hK2 : KZ (opUndo Z).2.2 := KZ_undo hK
  refine ⟨1000, And.intro (show M.2.2 ≤ 2600 by omega) (And.intro rfl (And.intro rfl (Exists.intro Z (And.intro hR (And.intro hK.1 (And.intro hK.2 ?_))))))⟩
  intro M1 g1 g2 g3 g4
  have g1 : RC B M1 (opUndo Z).2.2 := g1
  have g4 : (opUndo Z).1 = 0 → M1.2.1 1 = (opUndo Z).2.1.toInt64 := g4
  have hM1 := RM_lo hM g2
  refine And.intro k492 (And.intro (show M.2.2 + 1 ≤ 2600 by omega) (And.intro rfl (Exists.intro Z (And.intro hM1 (And.intro hK.1 ?_)))))
  intro r M2 r1 r2 r3 r4
  have r1 : (opUndo Z).1 = 0 → r = (opUndo Z).2.1 := r1
  have r2 : RM B M2 (opUndo Z).2.2 := r2
  have r3 : M2.1 (B + 492) 7 = nI (opUndo Z).1 := r3
  have hR2 : RC B M2 (opUndo Z).2.2 := RC_hi g1 (fun b hb => r4.1 b (Or.inl hb))
  obtain ⟨n1, q1, q2⟩ := lw_go (B := B) (b := b) (L := L) (i := i) (c := n) (M := (M2.1, M2.2.1, M.2.2 + 1 + 1 + 1)) (Z := (opUndo Z).2.2) h5 (by show M.2.2 + 1 + 1 + 1 ≤ i + 3; omega) hR2 r2 hK2 hn
  refine And.intro k492 (And.intro (show M.2.2 + 1 + 1 ≤ 2600 by omega) (And.intro rfl (And.intro (fun w => And.intro (fun w2 => ?_) (fun w2 => And.intro k498 (And.intro rfl (And.intro (fun w3 => ?_) (fun w3 => ?_))))) (fun w => ?_))))
  · exact Exists.intro n1 (And.intro q1 q2)
  · exact Exists.intro n1 (And.intro q1 q2)
  · exfalso
    have w2 : nI (opUndo Z).1 = 0 := w2
    have w2 : (opUndo Z).1 = 0 := by rcases (o3_undo : (opUndo Z).1 = 0 ∨ (opUndo Z).1 = 1 ∨ (opUndo Z).1 = 2) with y | y | y <;> rw [y] at w2 <;> first | exact y | exact absurd w2 (by decide)
    have w3 : ¬ lg_cmp (M2.2.1 1) r.toInt64 = 0 := w3
    rw [r4.2.1, g4 w2, r1 w2] at w3
    exact w3 lg_self
  · exfalso
    have w : ¬ M2.1 (B + 492) 7 = nI (opUndo Z).1 := w
    exact w r3
end LW

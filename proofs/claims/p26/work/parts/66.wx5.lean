/-! AN EXCHANGE BECOMES ANOTHER -/
section WX5
def Tp (V : Nat → Nat → Int32) (x : Nat) (S : Sx) : Prop := V x 0 = S 0 ∧ V x 1 = S 1 ∧ V x 2 = S 2 ∧ V x 3 = S 3 ∧ V x 4 = S 6 ∧ V x 5 = S 4 ∧ V x 6 = S 5
def CpC (V : Nat → Nat → Int32) (x : Nat) (S : Sx) (i : Nat) : Prop := ∀ c, c < i → ∀ w, w < 5 → V (x + 3 + c) w = sC S c w
def CpP (V : Nat → Nat → Int32) (x : Nat) (S : Sx) (i : Nat) : Prop := ∀ p, p < i → (∀ w, w < 8 → V (x + 9 + 3 * p) w = sP S p w) ∧ ∀ c, c < 6 → V (x + 9 + 3 * p + 1) c = sP S p (8 + c) ∧ V (x + 9 + 3 * p + 2) c = sP S p (14 + c)
theorem Tp_o {V V' : Nat → Nat → Int32} {x : Nat} {S : Sx} (h : Tp V x S) (e : V' x = V x) : Tp V' x S := by
  unfold Tp at h ⊢
  rw [e]; exact h
theorem bc_step {x y i : Nat} {M : fw_M} {S : Sx} (hT : Tp M.1 x S) (hC : CpC M.1 x S i) (hy : ∀ w, w < 5 → M.1 (y + 3 + i) w = sC S i w) :
    Tp (fw_st (fw_st (fw_st (fw_st (fw_st M (x + 3 + i) 0 (M.1 (y + 3 + i) 0)) (x + 3 + i) 1 (M.1 (y + 3 + i) 1)) (x + 3 + i) 2 (M.1 (y + 3 + i) 2)) (x + 3 + i) 3 (M.1 (y + 3 + i) 3)) (x + 3 + i) 4 (M.1 (y + 3 + i) 4)).1 x S ∧
    CpC (fw_st (fw_st (fw_st (fw_st (fw_st M (x + 3 + i) 0 (M.1 (y + 3 + i) 0)) (x + 3 + i) 1 (M.1 (y + 3 + i) 1)) (x + 3 + i) 2 (M.1 (y + 3 + i) 2)) (x + 3 + i) 3 (M.1 (y + 3 + i) 3)) (x + 3 + i) 4 (M.1 (y + 3 + i) 4)).1 x S (i + 1) := by
  refine ⟨Tp_o hT ?_, fun c hc w hw => ?_⟩
  · rw [st_o (by omega), st_o (by omega), st_o (by omega), st_o (by omega), st_o (by omega)]
  · by_cases e : c = i
    · subst e
      rw [← hy w hw]
      rcases (show w = 0 ∨ w = 1 ∨ w = 2 ∨ w = 3 ∨ w = 4 by omega) with z | z | z | z | z <;> subst z <;> simp [st_s, st_n]
    · rw [st_o (by omega), st_o (by omega), st_o (by omega), st_o (by omega), st_o (by omega)]
      exact hC c (by omega) w hw
theorem bp_step {x y i n : Nat} {M : fw_M} {S : Sx} (hT : Tp M.1 x S) (hC : CpC M.1 x S n) (hn : n ≤ 6) (hP : CpP M.1 x S i)
    (h1 : ∀ w, w < 8 → M.1 (y + 9 + 3 * i) w = sP S i w) (h2 : ∀ c, c < 6 → M.1 (y + 9 + 3 * i + 1) c = sP S i (8 + c) ∧ M.1 (y + 9 + 3 * i + 2) c = sP S i (14 + c)) :
    Tp (fw_row (fw_row (pC M (x + 9 + 3 * i) (y + 9 + 3 * i)) (x + 9 + 3 * i + 1) (cpN 6 (M.1 (y + 9 + 3 * i + 1)) (M.1 (x + 9 + 3 * i + 1)))) (x + 9 + 3 * i + 2) (cpN 6 (M.1 (y + 9 + 3 * i + 2)) (M.1 (x + 9 + 3 * i + 2)))).1 x S ∧
    CpC (fw_row (fw_row (pC M (x + 9 + 3 * i) (y + 9 + 3 * i)) (x + 9 + 3 * i + 1) (cpN 6 (M.1 (y + 9 + 3 * i + 1)) (M.1 (x + 9 + 3 * i + 1)))) (x + 9 + 3 * i + 2) (cpN 6 (M.1 (y + 9 + 3 * i + 2)) (M.1 (x + 9 + 3 * i + 2)))).1 x S n ∧
    CpP (fw_row (fw_row (pC M (x + 9 + 3 * i) (y + 9 + 3 * i)) (x + 9 + 3 * i + 1) (cpN 6 (M.1 (y + 9 + 3 * i + 1)) (M.1 (x + 9 + 3 * i + 1)))) (x + 9 + 3 * i + 2) (cpN 6 (M.1 (y + 9 + 3 * i + 2)) (M.1 (x + 9 + 3 * i + 2)))).1 x S (i + 1) := by
  have old : ∀ (c : Nat), c ≠ x + 9 + 3 * i → c ≠ x + 9 + 3 * i + 1 → c ≠ x + 9 + 3 * i + 2 → (fw_row (fw_row (pC M (x + 9 + 3 * i) (y + 9 + 3 * i)) (x + 9 + 3 * i + 1) (cpN 6 (M.1 (y + 9 + 3 * i + 1)) (M.1 (x + 9 + 3 * i + 1)))) (x + 9 + 3 * i + 2) (cpN 6 (M.1 (y + 9 + 3 * i + 2)) (M.1 (x + 9 + 3 * i + 2)))).1 c = M.1 c := fun c g0 g1 g2 => by
    rw [row_n g2, row_n g1, pC_o g0]
  refine ⟨Tp_o hT (old x (by omega) (by omega) (by omega)), fun c hc w hw => ?_, fun p hp => ?_⟩
  · rw [old _ (by omega) (by omega) (by omega)]; exact hC c hc w hw
  · by_cases e : p = i
    · subst e
      refine ⟨fun w hw => ?_, fun c hc => ⟨?_, ?_⟩⟩
      · rw [row_n (by omega), row_n (by omega), ← h1 w hw]
        unfold pC
        rcases (show w = 0 ∨ w = 1 ∨ w = 2 ∨ w = 3 ∨ w = 4 ∨ w = 5 ∨ w = 6 ∨ w = 7 by omega) with z | z | z | z | z | z | z | z <;> subst z <;> simp [st_s, st_n]
      · rw [row_n (by omega), row_1]; unfold cpN; rw [if_pos hc]; exact (h2 c hc).1
      · rw [row_1]; unfold cpN; rw [if_pos hc]; exact (h2 c hc).2
    · obtain ⟨g1, g2⟩ := hP p (by omega)
      refine ⟨fun w hw => ?_, fun c hc => ⟨?_, ?_⟩⟩
      · rw [old _ (by omega) (by omega) (by omega)]; exact g1 w hw
      · rw [old _ (by omega) (by omega) (by omega)]; exact (g2 c hc).1
      · rw [old _ (by omega) (by omega) (by omega)]; exact (g2 c hc).2
theorem FX_C5 {x i : Nat} {M : fw_M} {a0 a1 a2 a3 a4 : Int32} (h : i < 6) : FX x M (fw_st (fw_st (fw_st (fw_st (fw_st M (x + 3 + i) 0 a0) (x + 3 + i) 1 a1) (x + 3 + i) 2 a2) (x + 3 + i) 3 a3) (x + 3 + i) 4 a4) := FX_tr (fC h) (FX_tr (fC h) (FX_tr (fC h) (FX_tr (fC h) (fC h))))
theorem FX_PC {x i b : Nat} {M : fw_M} {f g : Nat → Int32} (h : i < 24) : FX x M (fw_row (fw_row (pC M (x + 9 + 3 * i) b) (x + 9 + 3 * i + 1) f) (x + 9 + 3 * i + 2) g) := by
  refine FX_tr ?_ (FX_tr (FX_row (by omega) (by omega)) (FX_row (by omega) (by omega)))
  exact FX_tr (fP h) (FX_tr (fP h) (FX_tr (fP h) (FX_tr (fP h) (FX_tr (fP h) (FX_tr (fP h) (FX_tr (fP h) (fP h)))))))
theorem top_all {x y : Nat} {M : fw_M} {S : Sx} (hy : Rep M.1 y S) (hne : y ≠ x) : Tp (fw_st (fw_st (fw_st (fw_st (fw_st (fw_st (fw_st M x 0 (M.1 y 0)) x 1 (M.1 y 1)) x 2 (M.1 y 2)) x 3 (M.1 y 3)) x 4 (M.1 y 4)) x 5 (M.1 y 5)) x 6 (M.1 y 6)).1 x S ∧ FX x M (fw_st (fw_st (fw_st (fw_st (fw_st (fw_st (fw_st M x 0 (M.1 y 0)) x 1 (M.1 y 1)) x 2 (M.1 y 2)) x 3 (M.1 y 3)) x 4 (M.1 y 4)) x 5 (M.1 y 5)) x 6 (M.1 y 6)) := by
  refine ⟨?_, FX_tr fX (FX_tr fX (FX_tr fX (FX_tr fX (FX_tr fX (FX_tr fX fX)))))⟩
  unfold Tp
  rw [← r0 hy, ← r1 hy, ← r2 hy, ← r3 hy, ← r4 hy, ← r5 hy, ← r6 hy]
  simp [st_s, st_n]
theorem ne_C {x y c d : Nat} (h : x + 81 ≤ y ∨ y + 81 ≤ x) (hc : c < 6) (hd : d < 6) : y + 3 + c ≠ x + 3 + d := by omega
theorem dj_P {x y p : Nat} (h : x + 81 ≤ y ∨ y + 81 ≤ x) (hp : p < 24) : y + 9 + 3 * p + 2 < x + 9 + 3 * p ∨ x + 9 + 3 * p + 2 < y + 9 + 3 * p := by omega
theorem Rep_y {x y : Nat} {M M' : fw_M} {S : Sx} (hy : Rep M.1 y S) (hd : x + 81 ≤ y ∨ y + 81 ≤ x) (hF : FX x M M') : Rep M'.1 y S := Rep_fr hy (fun b h1 h2 => hF.1 b (by omega))
set_option maxRecDepth 100000 in
theorem wk_X1_become (B : Nat) : fw_Wk B fl_X1 (cal_X1_become B) [] cst_X1 none kX1_become 5 (ct_X1_become B) := by
  intro as M Q QX h
  unfold ct_X1_become at h
  split at h
  · rename_i x y
    obtain ⟨hE, hne, b, S, ⟨hEy, hRy, hW⟩, h⟩ := h
    have hd := EX_dj hE hEy hne
    have hne' : y ≠ x := fun e => hne e.symm
    have hn6 : cn S ≤ 6 := hW.2.1
    have hm24 : pn S ≤ 24 := hW.2.2.2.1
    have kx := kX hE
    have ky := kX hEy
    obtain ⟨t1, t2⟩ := top_all hRy hne'
    refine ⟨rfl, [
      (58, [true, true, true, false, false], fun m ls st M' => ∃ i, m = 100 + (cn S - i) ∧ i ≤ cn S ∧ ls = [some (.ref x), some (.ref y), some (.int (nI i)), none, none] ∧ st = [] ∧ Tp M'.1 x S ∧ CpC M'.1 x S i ∧ FX x M M'),
      (102, [true, true, true, false, false], fun m ls st M' => ∃ i, m = pn S - i ∧ i ≤ pn S ∧ ls = [some (.ref x), some (.ref y), some (.int (nI i)), none, none] ∧ st = [] ∧ Tp M'.1 x S ∧ CpC M'.1 x S (cn S) ∧ CpP M'.1 x S i ∧ FX x M M')], ⟨120, ?_⟩, ?_⟩
    · refine And.intro ky (And.intro kx (And.intro ky (And.intro kx (And.intro ky (And.intro kx (And.intro ky (And.intro kx (And.intro ky (And.intro kx (And.intro ky (And.intro kx (And.intro ky (And.intro kx ?_)))))))))))))
      refine Exists.intro (100 + (cn S - 0)) (Exists.intro 0 ⟨rfl, by omega, rfl, rfl, ?_, fun c hc => absurd hc (Nat.not_lt_zero c), ?_⟩)
      · simp only [fw_fv, fw_fw, fw_fc, st_o hne']
        exact t1
      · simp only [fw_fv, fw_fw, fw_fc, st_o hne']
        exact t2
    · intro q hq m ls st M' hi
      simp only [List.mem_cons, List.not_mem_nil, or_false] at hq
      rcases hq with rfl | rfl
      · obtain ⟨i, rfl, hi, rfl, rfl, hT, hC, hF⟩ := hi
        have e2 : M'.1 x 2 = nI (cn S) := hT.2.2.1.trans hW.1
        have hRy' := Rep_y hRy hd hF
        have f2 : M'.1 y 2 = nI (cn S) := (r2 hRy').trans hW.1
        refine ⟨100, And.intro kx (And.intro (fun h1 => ?_) (fun h1 => ?_))⟩
        · have h1 : M'.1 x 2 ≤ nI i := h1
          rw [e2, n_ge (by omega) (by omega)] at h1
          exact Exists.intro (pn S - 0) (And.intro (by omega) (Exists.intro 0 ⟨rfl, by omega, rfl, rfl, hT, by rw [show cn S = i by omega]; exact hC, fun p hp => absurd hp (Nat.not_lt_zero p), hF⟩))
        · have h1 : ¬ M'.1 x 2 ≤ nI i := h1
          rw [e2, n_ge (by omega) (by omega)] at h1
          refine And.intro kx (And.intro hE (Exists.intro (cn S) (And.intro hn6 (And.intro e2 (Or.inl (Exists.intro i (And.intro (by omega) (And.intro rfl ?_))))))))
          refine And.intro ky (And.intro hEy (Exists.intro (cn S) (And.intro hn6 (And.intro f2 (Or.inl (Exists.intro i (And.intro (by omega) (And.intro rfl ?_))))))))
          obtain ⟨g1, g2⟩ := bc_step (y := y) hT hC (fun w hw => rC hRy' (by omega) hw)
          refine And.intro (kC hE (by omega)) (And.intro (kC hE (by omega)) (And.intro (kC hEy (by omega)) (And.intro (ne_C hd (by omega) (by omega)) ?_)))
          refine Exists.intro (100 + (cn S - (i + 1))) (And.intro (by omega) (Exists.intro (i + 1) ⟨rfl, by omega, ?_, rfl, g1, g2, FX_tr hF (FX_C5 (by omega))⟩))
          show [some (Value.ref x), some (Value.ref y), some (Value.int (nI i + 1)), none, none] = _
          rw [nI_1]
      · obtain ⟨i, rfl, hi, rfl, rfl, hT, hC, hP, hF⟩ := hi
        have e3 : M'.1 x 3 = nI (pn S) := hT.2.2.2.1.trans hW.2.2.1
        have hRy' := Rep_y hRy hd hF
        have f3 : M'.1 y 3 = nI (pn S) := (r3 hRy').trans hW.2.2.1
        refine ⟨100, And.intro kx (And.intro (fun h1 => ?_) (fun h1 => ?_))⟩
        · have h1 : M'.1 x 3 ≤ nI i := h1
          rw [e3, n_ge (by omega) (by omega)] at h1
          obtain ⟨a0, a1, a2, a3, a4, a5, a6⟩ := hT
          exact h M' (Rep_mk hn6 hm24 a0 a1 a2 a3 a4 a5 a6 hC (by rw [show pn S = i by omega]; exact hP)) hF
        · have h1 : ¬ M'.1 x 3 ≤ nI i := h1
          rw [e3, n_ge (by omega) (by omega)] at h1
          refine And.intro kx (And.intro hE (Exists.intro (pn S) (And.intro hm24 (And.intro e3 (Or.inl (Exists.intro i (And.intro (by omega) (And.intro rfl ?_))))))))
          refine And.intro ky (And.intro hEy (Exists.intro (pn S) (And.intro hm24 (And.intro f3 (Or.inl (Exists.intro i (And.intro (by omega) (And.intro rfl ?_))))))))
          obtain ⟨g1, g2, g3⟩ := bp_step (y := y) hT hC hn6 hP (fun w hw => rP hRy' (by omega) hw) (fun c hc => ⟨rL hRy' (by omega) hc, rS hRy' (by omega) hc⟩)
          refine And.intro (kP hE (by omega)) (And.intro (PK_of hE (by omega)) (And.intro (PK_of hEy (by omega)) (And.intro (dj_P hd (by omega)) ?_)))
          refine Exists.intro (pn S - (i + 1)) (And.intro (by omega) (Exists.intro (i + 1) ⟨rfl, by omega, ?_, rfl, g1, g2, g3, FX_tr hF (FX_PC (by omega))⟩))
          show [some (Value.ref x), some (Value.ref y), some (Value.int (nI i + 1)), none, none] = _
          rw [nI_1]
  · exact h.elim
end WX5

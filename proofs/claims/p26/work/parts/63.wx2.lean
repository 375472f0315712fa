/-! AN EXCHANGE'S METHODS WALKED: those that change it -/
section WX2
theorem Rep_mk {V : Nat → Nat → Int32} {x : Nat} {S : Sx} (hn : cn S ≤ 6) (hm : pn S ≤ 24) (e0 : V x 0 = S 0) (e1 : V x 1 = S 1) (e2 : V x 2 = S 2) (e3 : V x 3 = S 3) (e4 : V x 4 = S 6) (e5 : V x 5 = S 4) (e6 : V x 6 = S 5)
    (hC : ∀ c, c < cn S → ∀ w, w < 5 → V (x + 3 + c) w = sC S c w) (hP : ∀ p, p < pn S → (∀ w, w < 8 → V (x + 9 + 3 * p) w = sP S p w) ∧ ∀ c, c < 6 → V (x + 9 + 3 * p + 1) c = sP S p (8 + c) ∧ V (x + 9 + 3 * p + 2) c = sP S p (14 + c)) : Rep V x S := by
  refine ⟨hn, hm, fun j hj => ?_⟩
  by_cases a : j < 7
  · rcases (show j = 0 ∨ j = 1 ∨ j = 2 ∨ j = 3 ∨ j = 4 ∨ j = 5 ∨ j = 6 by omega) with y | y | y | y | y | y | y <;> subst y
    · exact e0
    · exact e1
    · exact e2
    · exact e3
    · exact e5
    · exact e6
    · exact e4
  · by_cases b : j < 37
    · have hw : (j - 7) % 5 < 5 := Nat.mod_lt _ (by decide)
      have hc : (j - 7) / 5 < cn S := by omega
      have ej : j = 7 + 5 * ((j - 7) / 5) + (j - 7) % 5 := by omega
      generalize (j - 7) / 5 = c at hc ej
      generalize (j - 7) % 5 = w at hw ej
      subst ej
      rw [(lo_C (by omega) hw).1, (lo_C (x := x) (by omega) hw).2]
      exact hC c hc w hw
    · have hw : (j - 37) % 20 < 20 := Nat.mod_lt _ (by decide)
      have hp : (j - 37) / 20 < pn S := by omega
      have ej : j = 37 + 20 * ((j - 37) / 20) + (j - 37) % 20 := by omega
      generalize (j - 37) / 20 = p at hp ej
      generalize (j - 37) % 20 = w at hw ej
      subst ej
      obtain ⟨h1, h2⟩ := hP p hp
      by_cases w8 : w < 8
      · rw [(lo_P w8).1, (lo_P (x := x) w8).2]
        exact h1 w w8
      · by_cases w14 : w < 14
        · obtain ⟨c, rfl⟩ : ∃ c, w = 8 + c := ⟨w - 8, by omega⟩
          rw [(lo_L (by omega)).1, (lo_L (x := x) (by omega)).2]
          exact (h2 c (by omega)).1
        · obtain ⟨c, rfl⟩ : ∃ c, w = 14 + c := ⟨w - 14, by omega⟩
          rw [(lo_S (by omega)).1, (lo_S (x := x) (by omega)).2]
          exact (h2 c (by omega)).2
theorem EX_dj {B x y : Nat} (hx : EX B x) (hy : EX B y) (h : x ≠ y) : x + 81 ≤ y ∨ y + 81 ≤ x := by
  obtain ⟨o, ho, rfl⟩ := hx
  obtain ⟨o', ho', rfl⟩ := hy
  simp only [List.mem_cons, List.not_mem_nil, or_false] at ho ho'
  omega
theorem fC {x c k : Nat} {M : fw_M} {v : Int32} (hc : c < 6) : FX x M (fw_st M (x + 3 + c) k v) := FX_st (by omega) (by omega)
theorem fP {x p k : Nat} {M : fw_M} {v : Int32} (hp : p < 24) : FX x M (fw_st M (x + 9 + 3 * p) k v) := FX_st (by omega) (by omega)
theorem fX {x k : Nat} {M : fw_M} {v : Int32} : FX x M (fw_st M x k v) := FX_st (by omega) (by omega)
theorem Rep_free {x c : Nat} {M : fw_M} {S : Sx} (h : Rep M.1 x S) (hc : c < 6) : Rep (fw_st (fw_st M (x + 3 + c) 3 0) (x + 3 + c) 4 (-1)).1 x (frS S c) := Rep_C (Rep_C h hc (by decide)) hc (by decide)
theorem F_free {x c : Nat} {M : fw_M} (hc : c < 6) : FX x M (fw_st (fw_st M (x + 3 + c) 3 0) (x + 3 + c) 4 (-1)) := FX_tr (fC hc) (fC hc)
set_option maxRecDepth 100000 in
theorem wk_X1_release (B : Nat) : fw_Wk B fl_X1 (cal_X1_release B) [] cst_X1 none kX1_release 3 (ct_X1_release B) := by
  intro as M Q QX h
  unfold ct_X1_release at h
  split at h
  · rename_i x y
    obtain ⟨b, S, c, ⟨hE, hR, hW⟩, hJ, hc, rfl, h⟩ := h
    have hn6 : cn S ≤ 6 := hW.2.1
    have hm24 : pn S ≤ 24 := hW.2.2.2.1
    have e3 : M.1 x 3 = nI (pn S) := (r3 hR).trans hW.2.2.1
    have hc6 : c < 6 := by omega
    have e4 : M.1 (x + 3 + c) 4 = sC S c 4 := rC hR hc (by decide)
    unfold drS at h
    refine ⟨rfl, [], ⟨60, And.intro (kC hE hc6) ?_⟩, nofun⟩
    rcases (hW.2.2.2.2.1 c hc).2 with ⟨d0, a0⟩ | ⟨p, hp, ea, hd⟩
    · refine And.intro (kX hE) (And.intro hE (Exists.intro (pn S) (And.intro hm24 (And.intro e3 (Or.inr (And.intro (fun k hk e => ?_) ?_))))))
      · have e : M.1 (x + 3 + c) 4 = nI k := e
        rw [e4, a0] at e
        exact nI_m1 (by omega) e.symm
      · rw [if_neg (by rw [d0]; decide)] at h
        exact And.intro (kC hE hc6) (And.intro (kC hE hc6) (h _ (Rep_free hR hc6) (F_free hc6)))
    · refine And.intro (kX hE) (And.intro hE (Exists.intro (pn S) (And.intro hm24 (And.intro e3 (Or.inl (Exists.intro p (And.intro hp (And.intro (e4.trans ea) ?_))))))))
      have hp24 : p < 24 := by omega
      have e5 : M.1 (x + 9 + 3 * p) 4 = sP S p 4 := rP hR hp (by decide)
      refine And.intro (kP hE hp24) (And.intro (fun h1 => ?_) (fun h1 => ?_))
      · have h1 : ¬ M.1 (x + 9 + 3 * p) 4 = 1 := h1
        rw [e5] at h1
        rw [if_neg (fun z => hd.elim (fun y => by rw [y] at z; exact absurd z (by decide)) (fun y => h1 y.2))] at h
        exact And.intro (kC hE hc6) (And.intro (kC hE hc6) (h _ (Rep_free hR hc6) (F_free hc6)))
      · have h1 : M.1 (x + 9 + 3 * p) 4 = 1 := h1
        rw [e5] at h1
        have d2 : sC S c 3 = 2 := hd.elim (fun y => by
          have := hJ.2 c p hc hp ea y
          rw [this] at h1
          exact absurd h1 (by decide)) (fun y => y.1)
        rw [if_pos d2, ea, n_cl (by omega)] at h
        exact And.intro (kP hE hp24) (And.intro (kC hE hc6) (And.intro (kC hE hc6) (h _ (Rep_free (Rep_P hR hp24 (by decide)) hc6) (FX_tr (fP hp24) (F_free hc6)))))
  · exact h.elim
set_option maxRecDepth 100000 in
theorem wk_X1_approach (B : Nat) : fw_Wk B fl_X1 (cal_X1_approach B) [] cst_X1 none kX1_approach 3 (ct_X1_approach B) := by
  intro as M Q QX h
  unfold ct_X1_approach at h
  split at h
  · rename_i x y q
    obtain ⟨b, S, c, p, ⟨hE, hR, hW⟩, hc, hp, rfl, rfl, h⟩ := h
    have hn6 : cn S ≤ 6 := hW.2.1
    have hm24 : pn S ≤ 24 := hW.2.2.2.1
    have hc6 : c < 6 := by omega
    have hp24 : p < 24 := by omega
    have e1 : M.1 (x + 3 + c) 1 = sC S c 1 := rC hR hc (by decide)
    have e5 : M.1 (x + 9 + 3 * p) 5 = sP S p 5 := rP hR hp (by decide)
    obtain ⟨z, hz, ez⟩ := (hW.2.2.2.2.1 c hc).1
    obtain ⟨d, hd, ed⟩ := (hW.2.2.2.2.2.2 p hp).2.2.2.2.1
    unfold goS at h
    refine ⟨rfl, [], ⟨60, And.intro (kC hE hc6) (And.intro (kP hE hp24) (And.intro (fun h1 => ?_) (fun h1 => ?_)))⟩, nofun⟩
    · have h1 : ¬ M.1 (x + 3 + c) 1 = M.1 (x + 9 + 3 * p) 5 := h1
      rw [e1, e5] at h1
      rw [if_neg h1, ← e1, ← e5] at h
      refine And.intro (kC hE hc6) (And.intro (kP hE hp24) (Exists.intro z (Exists.intro d (And.intro hz (And.intro hd (And.intro (e1.trans ez) (And.intro (e5.trans ed) (And.intro (kC hE hc6) (And.intro (kX hE) (And.intro (kX hE) ?_))))))))))
      have e6 : ∀ v, (fw_st M (x + 3 + c) 1 v).1 x 6 = S 5 := fun v => by rw [st_o (by omega)]; exact r6 hR
      have key := fun v (e : v = S 5 + 1) => h (fw_st (fw_st M (x + 3 + c) 1 (nxz (M.1 (x + 3 + c) 1) (M.1 (x + 9 + 3 * p) 5))) x 6 v) (by rw [e]; exact Rep_6 (Rep_C hR hc6 (by decide))) (FX_tr (fC hc6) fX)
      exact key _ (by rw [← e6 (nxz (M.1 (x + 3 + c) 1) (M.1 (x + 9 + 3 * p) 5))])
    · have h1 : M.1 (x + 3 + c) 1 = M.1 (x + 9 + 3 * p) 5 := h1
      rw [e1, e5] at h1
      rw [if_pos h1] at h
      exact And.intro (kC hE hc6) (And.intro (kP hE hp24) (h _ (Rep_P (Rep_C hR hc6 (by decide)) hp24 (by decide)) (FX_tr (fC hc6) (fP hp24))))
  · exact h.elim
theorem cn_frW {S : Sx} {p i : Nat} : cn (frW S p i) = cn S := cn_eq (frW_lo (by decide) i)
set_option maxRecDepth 100000 in
theorem wk_X1_freeCouriersOf (B : Nat) : fw_Wk B fl_X1 (cal_X1_freeCouriersOf B) [] cst_X1 none kX1_freeCouriersOf 4 (ct_X1_freeCouriersOf B) := by
  intro as M Q QX h
  unfold ct_X1_freeCouriersOf at h
  split at h
  · rename_i x v
    obtain ⟨hE, S, p, hR, hS2, rfl, h⟩ := h
    have hn6 : cn S ≤ 6 := hR.1
    refine ⟨rfl, [(2, [true, true, true, false], fun m ls st M' => ∃ i, m = cn S - i ∧ i ≤ cn S ∧ ls = [some (.ref x), some (.int (nI p)), some (.int (nI i)), none] ∧ st = [] ∧ Rep M'.1 x (frW S p i) ∧ FX x M M')], ⟨20, ?_⟩, ?_⟩
    · exact Exists.intro (cn S) (Exists.intro 0 ⟨rfl, by omega, rfl, rfl, hR, FX_id⟩)
    · intro q hq m ls st M' hi
      cases List.mem_singleton.mp hq
      obtain ⟨i, rfl, hi, rfl, rfl, hR', hF'⟩ := hi
      have e2 : M'.1 x 2 = nI (cn S) := by rw [r2 hR', frW_lo (by decide)]; exact hS2
      refine ⟨80, And.intro (kX hE) (And.intro (fun h1 => ?_) (fun h1 => ?_))⟩
      · have h1 : M'.1 x 2 ≤ nI i := h1
        rw [e2, n_ge (by omega) (by omega)] at h1
        rw [show i = cn S by omega] at hR'
        exact h M' hR' hF'
      · have h1 : ¬ M'.1 x 2 ≤ nI i := h1
        rw [e2, n_ge (by omega) (by omega)] at h1
        refine And.intro (kX hE) (And.intro hE (Exists.intro (cn S) (And.intro hn6 (And.intro e2 (Or.inl (Exists.intro i (And.intro (by omega) (And.intro rfl ?_))))))))
        have rc : M'.1 (x + 3 + i) 4 = sC (frW S p i) i 4 := rC hR' (by rw [cn_frW]; omega) (by decide)
        refine And.intro (kC hE (by omega)) (And.intro (fun h2 => ?_) (fun h2 => ?_))
        · have h2 : ¬ M'.1 (x + 3 + i) 4 = nI p := h2
          rw [rc] at h2
          refine Exists.intro (cn S - (i + 1)) (And.intro (by omega) (Exists.intro (i + 1) ⟨rfl, by omega, ?_, rfl, ?_, hF'⟩))
          · show [some (Value.ref x), some (Value.int (nI p)), some (Value.int (nI i + 1)), none] = _
            rw [nI_1]
          · unfold frW; rw [if_neg h2]; exact hR'
        · have h2 : M'.1 (x + 3 + i) 4 = nI p := h2
          rw [rc] at h2
          refine And.intro (kC hE (by omega)) (And.intro (kC hE (by omega)) ?_)
          refine Exists.intro (cn S - (i + 1)) (And.intro (by omega) (Exists.intro (i + 1) ⟨rfl, by omega, ?_, rfl, ?_, FX_tr hF' (F_free (by omega))⟩))
          · show [some (Value.ref x), some (Value.int (nI p)), some (Value.int (nI i + 1)), none] = _
            rw [nI_1]
          · unfold frW; rw [if_pos h2]; exact Rep_free hR' (by omega)
  · exact h.elim
theorem pn_flW {S : Sx} {i : Nat} : pn (flW S i) = pn S := pn_eq (flW_lo (by decide) i)
theorem cn_flW {S : Sx} {i : Nat} : cn (flW S i) = cn S := cn_eq (flW_lo (by decide) i)
theorem open_lt {k : Nat} (h : k ≤ 3) : (decide (nI k = 0) || decide (nI k = 1)) = decide (nI k < 2) := by
  rcases (show k = 0 ∨ k = 1 ∨ k = 2 ∨ k = 3 by omega) with y | y | y | y <;> subst y <;> decide
set_option maxRecDepth 100000 in
theorem wk_X1_failLateParcels (B : Nat) : fw_Wk B fl_X1 (cal_X1_failLateParcels B) [] cst_X1 none kX1_failLateParcels 3 (ct_X1_failLateParcels B) := by
  intro as M Q QX h
  unfold ct_X1_failLateParcels at h
  split at h
  · rename_i x
    obtain ⟨b, S, ⟨hE, hR, hW⟩, h⟩ := h
    have hm24 : pn S ≤ 24 := hR.2.1
    refine ⟨rfl, [(2, [true, true, false], fun m ls st M' => ∃ i, m = pn S - i ∧ i ≤ pn S ∧ ls = [some (.ref x), some (.int (nI i)), none] ∧ st = [] ∧ Rep M'.1 x (flW S i) ∧ FX x M M')], ⟨20, ?_⟩, ?_⟩
    · exact Exists.intro (pn S) (Exists.intro 0 ⟨rfl, by omega, rfl, rfl, hR, FX_id⟩)
    · intro q hq m ls st M' hi
      cases List.mem_singleton.mp hq
      obtain ⟨i, rfl, hi, rfl, rfl, hR', hF'⟩ := hi
      have e3 : M'.1 x 3 = nI (pn S) := by rw [r3 hR', flW_lo (by decide)]; exact hW.2.2.1
      refine ⟨120, And.intro (kX hE) (And.intro (fun h1 => ?_) (fun h1 => ?_))⟩
      · have h1 : M'.1 x 3 ≤ nI i := h1
        rw [e3, n_ge (by omega) (by omega)] at h1
        rw [show i = pn S by omega] at hR'
        exact h M' hR' hF'
      · have h1 : ¬ M'.1 x 3 ≤ nI i := h1
        rw [e3, n_ge (by omega) (by omega)] at h1
        have hWi := WF_flW hW i hi
        obtain ⟨-, -, -, ⟨k, hk, ek⟩, -⟩ := hWi.2.2.2.2.2.2 i (by rw [pn_flW]; omega)
        have r4' : M'.1 (x + 9 + 3 * i) 4 = nI k := by rw [← ek]; exact rP hR' (by rw [pn_flW]; omega) (by decide)
        have r2' : M'.1 (x + 9 + 3 * i) 2 = sP (flW S i) i 2 := rP hR' (by rw [pn_flW]; omega) (by decide)
        have key : ∀ M'' w, w = none → Rep M''.1 x (flW S (i + 1)) → FX x M M'' → ∃ m', m' < pn S - i ∧ ∃ i', m' = pn S - i' ∧ i' ≤ pn S ∧ ([some (.ref x), some (.int (nI i + 1)), w] : fw_L) = [some (.ref x), some (.int (nI i')), none] ∧ ([] : List Value) = [] ∧ Rep M''.1 x (flW S i') ∧ FX x M M'' := by
          rintro M'' w rfl g1 g2
          exact ⟨pn S - (i + 1), by omega, i + 1, rfl, by omega, by rw [nI_1], rfl, g1, g2⟩
        refine And.intro (kX hE) (And.intro hE (Exists.intro (pn S) (And.intro hm24 (And.intro e3 (Or.inl (Exists.intro i (And.intro (by omega) (And.intro rfl ?_))))))))
        refine And.intro (kP hE (by omega)) (And.intro (kP hE (by omega)) (And.intro (fun h2 => ?_) (fun h2 => ?_)))
        · have h2 : (decide (M'.1 (x + 9 + 3 * i) 4 = 0) || decide (M'.1 (x + 9 + 3 * i) 4 = 1)) = false := bi_0.mp h2
          rw [r4', open_lt hk, decide_eq_false_iff_not, ← ek] at h2
          refine key M' none rfl ?_ hF'
          unfold flW
          rw [if_neg (fun e => h2 e.1)]
          exact hR'
        · have h2 : (decide (M'.1 (x + 9 + 3 * i) 4 = 0) || decide (M'.1 (x + 9 + 3 * i) 4 = 1)) = true := bi_n0.mp h2
          rw [r4', open_lt hk, decide_eq_true_iff, ← ek] at h2
          refine And.intro (kP hE (by omega)) (And.intro (kX hE) (And.intro (kX hE) (And.intro (fun h3 => ?_) (fun h3 => ?_))))
          · have h3 : M'.1 x 0 ≤ M'.1 (x + 9 + 3 * i) 2 + M'.1 x 1 := h3
            rw [r2', r0 hR', r1 hR'] at h3
            refine key M' none rfl ?_ hF'
            unfold flW
            rw [if_neg (fun e => Int32.not_lt.mpr h3 e.2)]
            exact hR'
          · have h3 : ¬ M'.1 x 0 ≤ M'.1 (x + 9 + 3 * i) 2 + M'.1 x 1 := h3
            rw [r2', r0 hR', r1 hR'] at h3
            refine And.intro (kP hE (by omega)) (And.intro (kX hE) (And.intro hE (Exists.intro (uP (flW S i) i 4 3) (Exists.intro i (And.intro (Rep_P hR' (by omega) (by decide)) (And.intro ?_ (And.intro rfl ?_)))))))
            · rw [cn_eq (uP_lo (by decide)), uP_lo (by decide)]; exact hWi.1
            · intro M'' g1 g2
              refine key M'' none rfl ?_ (FX_tr hF' (FX_tr (fP (by omega)) g2))
              unfold flW
              rw [if_pos ⟨h2, Int32.not_le.mp h3⟩]
              unfold faiS
              rw [cn_eq (uP_lo (by decide))] at g1
              exact g1
  · exact h.elim
end WX2

/-! A PARCEL'S SHARES WALKED -/
section WPs
theorem LG_sum {S : Sx} {p : Nat} (h : LG S p) : ∃ A, 0 < A ∧ A < 2 ^ 31 ∧ lsum S p 6 = nI A := by
  obtain ⟨A, R, L, hS⟩ := SHN_of (k := 0) (Nat.zero_le _) h
  have hA := hS.2.2.1
  have hA2 := hS.2.2.2.1
  exact ⟨A, hA, by omega, by rw [lsum_n hS 6 (Nat.le_refl _), hS.2.1]⟩
theorem rsum_l {f : Nat → Int32} {S : Sx} {p : Nat} (h : ∀ c, c < 6 → f c = sP S p (8 + c)) : ∀ n, n ≤ 6 → rsum f n = lsum S p n := by
  intro n
  induction n with
  | zero => intro _; rfl
  | succ n ih => intro hn; unfold rsum lsum; rw [ih (by omega), h n (by omega)]
theorem cpN_keep {f g : Nat → Int32} {n : Nat} (h : f n = g n) : cpN (n + 1) f g = cpN n f g := by
  funext k
  unfold cpN
  by_cases e : k < n
  · rw [if_pos e, if_pos (by omega)]
  · rw [if_neg e]
    by_cases e2 : k < n + 1
    · rw [if_pos e2, show k = n by omega, h]
    · rw [if_neg e2]
theorem cpN_over {f g x : Nat → Int32} {n : Nat} : cpN n f (cpN n g x) = cpN n f x := by
  funext k
  unfold cpN
  by_cases e : k < n
  · rw [if_pos e, if_pos e]
  · rw [if_neg e, if_neg e, if_neg e]
set_option maxRecDepth 100000 in
theorem wk_X3_rankOf (B : Nat) : fw_Wk B fl_X3 (cal_X3_rankOf B) [] cst_X3 (some .int) kX3_rankOf 7 (ct_X3_rankOf B) := by
  intro as M Q QX h
  unfold ct_X3_rankOf at h
  split at h
  · rename_i a x y z
    obtain ⟨⟨k3, k1, k2, l1, l2⟩, S, p, c, ⟨hl, hLG⟩, hc, rfl, rfl, rfl, h⟩ := h
    obtain ⟨A, hA, hA2, eA⟩ := LG_sum hLG
    generalize hP : M.1 a 7 = paid at h
    refine ⟨rfl, [(6, [true, true, true, true, true, true, false], fun n ls st M' => ∃ i, n = 6 - i ∧ i ≤ 6 ∧ ls = [some (.ref a), some (.int (nI c)), some (.int (shr S p paid c)), some (.int (lsum S p 6)), some (.int (nI (rnk S p paid c i))), some (.int (nI i)), none] ∧ st = [] ∧ M' = M)], ⟨40, ?_⟩, ?_⟩
    · exact Exists.intro 6 (Exists.intro 0 ⟨rfl, by omega, rfl, rfl, rfl⟩)
    · intro q hq n ls st M' hi
      cases List.mem_singleton.mp hq
      obtain ⟨i, rfl, hi, rfl, rfl, rfl⟩ := hi
      refine ⟨100, And.intro k3 (And.intro (kd_7 k1).1 (And.intro (kd_7 k1).2 (And.intro (fun h1 => ?_) (fun h1 => And.intro (fun h2 => ?_) (fun h2 => ?_)))))⟩
      · have h1 : Int32.ofNat (fw_aln B (a + 1)) ≤ nI i := h1
        rw [aln7 k1 l1, n_ge (by decide) (by omega)] at h1
        rw [show i = 6 by omega]
        exact h
      · have h2 : lsum S p 6 ≤ nI 0 := h2
        rw [eA, n_ge hA2 (by decide)] at h2
        omega
      · have h1 : ¬ Int32.ofNat (fw_aln B (a + 1)) ≤ nI i := h1
        rw [aln7 k1 l1, n_ge (by decide) (by omega)] at h1
        have hli := hl i (by omega)
        have ev : M'.1 a 7 * M'.1 (a + 1) (nI i).toNatClampNeg - M'.1 a 7 * M'.1 (a + 1) (nI i).toNatClampNeg / lsum S p 6 * lsum S p 6 = shr S p paid i := by
          rw [n_cl (by omega), hli, hP]; rfl
        have key : ∀ v w, v = none → w = nI (rnk S p paid c (i + 1)) → ∃ m', m' < 6 - i ∧ ∃ i', m' = 6 - i' ∧ i' ≤ 6 ∧ ([some (.ref a), some (.int (nI c)), some (.int (shr S p paid c)), some (.int (lsum S p 6)), some (.int w), some (.int (nI i + 1)), v] : fw_L) = [some (.ref a), some (.int (nI c)), some (.int (shr S p paid c)), some (.int (lsum S p 6)), some (.int (nI (rnk S p paid c i'))), some (.int (nI i')), none] ∧ ([] : List Value) = [] ∧ M' = M' := by
          rintro v w rfl rfl
          exact ⟨6 - (i + 1), by omega, i + 1, rfl, by omega, by rw [nI_1], rfl, rfl⟩
        refine And.intro k3 (And.intro k3 (And.intro k1 (And.intro ?_ (And.intro (fw_sd_i (fun z => ?_)) (And.intro (fun h3 => ?_) (fun h3 => And.intro (fun h4 => ?_) (fun h4 => And.intro (fun h5 => ?_) (fun h5 => ?_))))))))
        · show fw_sd (vp_in (nI i) (fw_len B (a + 1)))
          rw [l1]; exact vn_i (by omega) (by decide)
        · have z : lsum S p 6 = nI 0 := z
          rw [eA, nI_eq hA2 (by decide)] at z
          omega
        · have h3 : shr S p paid c < M'.1 a 7 * M'.1 (a + 1) (nI i).toNatClampNeg - M'.1 a 7 * M'.1 (a + 1) (nI i).toNatClampNeg / lsum S p 6 * lsum S p 6 := h3
          rw [ev] at h3
          refine key none _ rfl ?_
          show nI (rnk S p paid c i) + 1 = _
          rw [nI_1, rnk, if_pos (Or.inl h3)]
        · have h4 : ¬ M'.1 a 7 * M'.1 (a + 1) (nI i).toNatClampNeg - M'.1 a 7 * M'.1 (a + 1) (nI i).toNatClampNeg / lsum S p 6 * lsum S p 6 = shr S p paid c := h4
          have h3 : ¬ shr S p paid c < M'.1 a 7 * M'.1 (a + 1) (nI i).toNatClampNeg - M'.1 a 7 * M'.1 (a + 1) (nI i).toNatClampNeg / lsum S p 6 * lsum S p 6 := h3
          rw [ev] at h3 h4
          refine key none _ rfl ?_
          show nI (rnk S p paid c i) = _
          rw [rnk, if_neg (fun e => e.elim h3 (fun e => h4 e.1)), Nat.add_zero]
        · have h5 : nI c ≤ nI i := h5
          rw [n_ge (by omega) (by omega)] at h5
          have h3 : ¬ shr S p paid c < M'.1 a 7 * M'.1 (a + 1) (nI i).toNatClampNeg - M'.1 a 7 * M'.1 (a + 1) (nI i).toNatClampNeg / lsum S p 6 * lsum S p 6 := h3
          rw [ev] at h3
          refine key none _ rfl ?_
          show nI (rnk S p paid c i) = _
          rw [rnk, if_neg (fun e => e.elim h3 (fun e => absurd e.2 (by omega))), Nat.add_zero]
        · have h5 : ¬ nI c ≤ nI i := h5
          rw [n_ge (by omega) (by omega)] at h5
          have h4 : M'.1 a 7 * M'.1 (a + 1) (nI i).toNatClampNeg - M'.1 a 7 * M'.1 (a + 1) (nI i).toNatClampNeg / lsum S p 6 * lsum S p 6 = shr S p paid c := h4
          rw [ev] at h4
          refine key none _ rfl ?_
          show nI (rnk S p paid c i) + 1 = _
          rw [nI_1, rnk, if_pos (Or.inr ⟨h4, by omega⟩)]
  · exact h.elim
set_option maxRecDepth 100000 in
theorem wk_X3_sharePaid (B : Nat) : fw_Wk B fl_X3 (cal_X3_sharePaid B) [] cst_X3 none kX3_sharePaid 4 (ct_X3_sharePaid B) := by
  intro as M Q QX h
  unfold ct_X3_sharePaid at h
  split at h
  · rename_i a
    obtain ⟨⟨k3, k1, k2, l1, l2⟩, S, p, ⟨hl, hLG⟩, h⟩ := h
    obtain ⟨A, hA, hA2, eA⟩ := LG_sum hLG
    have eR : rsum (M.1 (a + 1)) 6 = lsum S p 6 := rsum_l hl 6 (Nat.le_refl 6)
    generalize hP : M.1 a 7 = paid at h
    have hd : fw_sd (¬ lsum S p 6 = 0) := fw_sd_i (fun z => by
      have z : lsum S p 6 = nI 0 := z
      rw [eA, nI_eq hA2 (by decide)] at z
      omega)
    refine ⟨rfl, [
      (20, [true, true, true, true], fun n ls st M' => ∃ i, n = 100 + (6 - i) ∧ i ≤ 6 ∧ ls = [some (.ref a), some (.int (lsum S p 6)), some (.int (rst S p paid i)), some (.int (nI i))] ∧ st = [] ∧ M' = fw_row M (a + 2) (cpN i (fun c => shq S p paid c) (M.1 (a + 2)))),
      (74, [true, true, true, true], fun n ls st M' => ∃ i, n = 6 - i ∧ i ≤ 6 ∧ ls = [some (.ref a), some (.int (lsum S p 6)), some (.int (rst S p paid 6)), some (.int (nI i))] ∧ st = [] ∧ M' = fw_row M (a + 2) (cpN i (fun c => fsh S p paid c) (cpN 6 (fun c => shq S p paid c) (M.1 (a + 2)))))], ⟨60, ?_⟩, ?_⟩
    · refine And.intro k3 (And.intro k1 (And.intro l1 (And.intro (fun _ => ?_) (fun h1 => ?_))))
      · refine And.intro k3 ?_
        refine Exists.intro 106 (Exists.intro 0 ⟨rfl, by omega, ?_, rfl, ?_⟩)
        · show [some (Value.ref a), some (Value.int (rsum (M.1 (a + 1)) 6)), some (Value.int (M.1 a 7)), some (Value.int 0)] = _
          rw [eR, hP]; rfl
        · rw [cpN_0, row_self]
      · have h1 : ¬ nI 0 < rsum (M.1 (a + 1)) 6 := h1
        rw [eR, eA, n_lt (by decide) hA2] at h1
        omega
    · intro q hq n ls st M' hi
      simp only [List.mem_cons, List.not_mem_nil, or_false] at hq
      rcases hq with rfl | rfl
      · obtain ⟨i, rfl, hi, rfl, rfl, rfl⟩ := hi
        refine ⟨100, And.intro k3 (And.intro (kd_7 k1).1 (And.intro (kd_7 k1).2 (And.intro (fun h1 => ?_) (fun h1 => And.intro k3 (And.intro (kd_7 k2).1 (And.intro (kd_7 k2).2 (And.intro (fun h2 => ?_) (fun h2 => ?_))))))))⟩
        · have h1 : Int32.ofNat (fw_aln B (a + 1)) ≤ nI i := h1
          rw [aln7 k1 l1, n_ge (by decide) (by omega)] at h1
          have e6 : i = 6 := by omega
          subst e6
          refine Exists.intro 6 (And.intro (by omega) (Exists.intro 0 ⟨rfl, by omega, rfl, rfl, ?_⟩))
          rw [cpN_0]
        · have h1 : ¬ Int32.ofNat (fw_aln B (a + 1)) ≤ nI i := h1
          have h2 : Int32.ofNat (fw_aln B (a + 2)) ≤ nI i := h2
          rw [aln7 k1 l1, n_ge (by decide) (by omega)] at h1
          rw [aln7 k2 l2, n_ge (by decide) (by omega)] at h2
          omega
        · have h1 : ¬ Int32.ofNat (fw_aln B (a + 1)) ≤ nI i := h1
          rw [aln7 k1 l1, n_ge (by decide) (by omega)] at h1
          have f1 : ∀ X : Nat → Int32, (fw_row M (a + 2) X).1 (a + 1) = M.1 (a + 1) := fun X => row_n (by omega)
          have f0 : ∀ X : Nat → Int32, (fw_row M (a + 2) X).1 a = M.1 a := fun X => row_n (by omega)
          have ev : ∀ X : Nat → Int32, (fw_row M (a + 2) X).1 a 7 * (fw_row M (a + 2) X).1 (a + 1) (nI i).toNatClampNeg / lsum S p 6 = shq S p paid i := fun X => by
            rw [f1, f0, n_cl (by omega), hl i (by omega), hP]; rfl
          have v1 : fw_sd (vp_in (nI i) (fw_len B (a + 1))) := by rw [l1]; exact vn_i (by omega) (by decide)
          have v2 : fw_sd (vp_in (nI i) (fw_len B (a + 2))) := by rw [l2]; exact vn_i (by omega) (by decide)
          refine And.intro k3 (And.intro k3 (And.intro k3 (And.intro k1 (And.intro v1 (And.intro hd (And.intro k2 (And.intro v2 (And.intro k3 (And.intro k2 (And.intro v2 ?_))))))))))
          have eM : fw_st (fw_row M (a + 2) (cpN i (fun c => shq S p paid c) (M.1 (a + 2)))) (a + 2) (nI i).toNatClampNeg ((fw_row M (a + 2) (cpN i (fun c => shq S p paid c) (M.1 (a + 2)))).1 a 7 * (fw_row M (a + 2) (cpN i (fun c => shq S p paid c) (M.1 (a + 2)))).1 (a + 1) (nI i).toNatClampNeg / lsum S p 6) = fw_row M (a + 2) (cpN (i + 1) (fun c => shq S p paid c) (M.1 (a + 2))) := by
            rw [ev, n_cl (by omega), st_row, row_1, row_row]
            exact congrArg (fw_row M (a + 2)) (cpN_s (f := fun c => shq S p paid c))
          refine Exists.intro (100 + (6 - (i + 1))) (And.intro (by omega) (Exists.intro (i + 1) ⟨rfl, by omega, ?_, rfl, eM⟩))
          show [some (Value.ref a), some (Value.int (lsum S p 6)), some (Value.int (rst S p paid i - (fw_st (fw_row M (a + 2) (cpN i (fun c => shq S p paid c) (M.1 (a + 2)))) (a + 2) (nI i).toNatClampNeg ((fw_row M (a + 2) (cpN i (fun c => shq S p paid c) (M.1 (a + 2)))).1 a 7 * (fw_row M (a + 2) (cpN i (fun c => shq S p paid c) (M.1 (a + 2)))).1 (a + 1) (nI i).toNatClampNeg / lsum S p 6)).1 (a + 2) (nI i).toNatClampNeg)), some (Value.int (nI i + 1))] = _
          rw [eM, row_1, nI_1, n_cl (by omega)]
          unfold cpN
          rw [if_pos (Nat.lt_succ_self i)]
          rfl
      · obtain ⟨i, rfl, hi, rfl, rfl, rfl⟩ := hi
        refine ⟨100, And.intro k3 (And.intro (kd_7 k1).1 (And.intro (kd_7 k1).2 (And.intro (fun h1 => ?_) (fun h1 => And.intro k3 (And.intro (kd_7 k2).1 (And.intro (kd_7 k2).2 (And.intro (fun h2 => ?_) (fun h2 => ?_))))))))⟩
        · have h1 : Int32.ofNat (fw_aln B (a + 1)) ≤ nI i := h1
          rw [aln7 k1 l1, n_ge (by decide) (by omega)] at h1
          have e6 : i = 6 := by omega
          subst e6
          rw [cpN_over]
          exact h
        · have h1 : ¬ Int32.ofNat (fw_aln B (a + 1)) ≤ nI i := h1
          have h2 : Int32.ofNat (fw_aln B (a + 2)) ≤ nI i := h2
          rw [aln7 k1 l1, n_ge (by decide) (by omega)] at h1
          rw [aln7 k2 l2, n_ge (by decide) (by omega)] at h2
          omega
        · have h1 : ¬ Int32.ofNat (fw_aln B (a + 1)) ≤ nI i := h1
          rw [aln7 k1 l1, n_ge (by decide) (by omega)] at h1
          have v1 : fw_sd (vp_in (nI i) (fw_len B (a + 1))) := by rw [l1]; exact vn_i (by omega) (by decide)
          have v2 : fw_sd (vp_in (nI i) (fw_len B (a + 2))) := by rw [l2]; exact vn_i (by omega) (by decide)
          generalize hX : cpN i (fun c => fsh S p paid c) (cpN 6 (fun c => shq S p paid c) (M.1 (a + 2))) = X
          have f1 : (fw_row M (a + 2) X).1 (a + 1) = M.1 (a + 1) := row_n (by omega)
          have f0 : (fw_row M (a + 2) X).1 a = M.1 a := row_n (by omega)
          have e7 : (fw_row M (a + 2) X).1 a 7 = paid := by rw [f0, hP]
          have hXi : X i = shq S p paid i := by
            rw [← hX]; unfold cpN; rw [if_neg (by omega), if_pos (by omega)]
          have ev : (fw_row M (a + 2) X).1 a 7 * (fw_row M (a + 2) X).1 (a + 1) (nI i).toNatClampNeg - (fw_row M (a + 2) X).1 a 7 * (fw_row M (a + 2) X).1 (a + 1) (nI i).toNatClampNeg / lsum S p 6 * lsum S p 6 = shr S p ((fw_row M (a + 2) X).1 a 7) i := by
            rw [f1, e7, n_cl (by omega), hl i (by omega)]; rfl
          refine And.intro k3 (And.intro k3 (And.intro k1 (And.intro v1 (And.intro hd (And.intro k3 ?_)))))
          refine And.intro ⟨k3, k1, k2, l1, l2⟩ (Exists.intro S (Exists.intro p (Exists.intro i (And.intro ⟨fun c hc => by rw [f1]; exact hl c hc, hLG⟩ (And.intro (by omega) (And.intro rfl (And.intro ev (And.intro rfl (And.intro (fun h3 => ?_) (fun h3 => ?_))))))))))
          · have h3 : rst S p paid 6 ≤ nI (rnk S p ((fw_row M (a + 2) X).1 a 7) i 6) := h3
            rw [e7] at h3
            refine Exists.intro (6 - (i + 1)) (And.intro (by omega) (Exists.intro (i + 1) ⟨rfl, by omega, ?_, rfl, ?_⟩))
            · show [some (Value.ref a), some (Value.int (lsum S p 6)), some (Value.int (rst S p paid 6)), some (Value.int (nI i + 1))] = _
              rw [nI_1]
            · rw [← hX, cpN_keep (f := fun c => fsh S p paid c) (n := i)]
              show fsh S p paid i = cpN 6 (fun c => shq S p paid c) (M.1 (a + 2)) i
              unfold fsh cpN
              rw [if_neg (Int32.not_lt.mpr h3), if_pos (by omega)]
          · have h3 : ¬ rst S p paid 6 ≤ nI (rnk S p ((fw_row M (a + 2) X).1 a 7) i 6) := h3
            rw [e7] at h3
            refine And.intro k3 (And.intro k2 (And.intro v2 (And.intro k2 (And.intro v2 ?_))))
            refine Exists.intro (6 - (i + 1)) (And.intro (by omega) (Exists.intro (i + 1) ⟨rfl, by omega, ?_, rfl, ?_⟩))
            · show [some (Value.ref a), some (Value.int (lsum S p 6)), some (Value.int (rst S p paid 6)), some (Value.int (nI i + 1))] = _
              rw [nI_1]
            · show fw_st (fw_row M (a + 2) X) (a + 2) (nI i).toNatClampNeg ((fw_row M (a + 2) X).1 (a + 2) (nI i).toNatClampNeg + 1) = _
              rw [st_row, row_1, row_row, n_cl (by omega), hXi, ← cpN_s, hX]
              refine congrArg (fun v => fw_row M (a + 2) (upd X i v)) ?_
              show _ = fsh S p paid i
              unfold fsh
              rw [if_pos (Int32.not_le.mp h3)]
  · exact h.elim
set_option maxRecDepth 100000 in
theorem wk_X3_figure (B : Nat) : fw_Wk B fl_X3 (cal_X3_figure B) [] cst_X3 (some .int) kX3_figure 2 (ct_X3_figure B) := by
  intro as M Q QX h
  unfold ct_X3_figure at h
  split at h
  · rename_i a x
    obtain ⟨⟨k3, k1, k2, l1, l2⟩, w, hw, rfl, h⟩ := h
    have e : (nI w).toInt = (w : Int) := nI_toInt (by omega)
    have g : ∀ j, j < 8 → w = j → Q (some (.int (M.1 a j))) M := fun j hj ej => by
      rw [if_pos (by omega), ej] at h; exact h
    refine ⟨rfl, [], ⟨60, ?_⟩, nofun⟩
    refine And.intro (And.intro (fun z => ?_) (And.intro (fun z => ?_) (And.intro (fun z => ?_) (And.intro (fun z => ?_) (And.intro (fun z => ?_) (And.intro (fun z => ?_) (And.intro (fun z => ?_) (And.intro (fun z => ?_) trivial)))))))) (fun z => ?_)
    · exact And.intro k3 (g 0 (by decide) (by rw [e] at z; omega))
    · exact And.intro k3 (g 1 (by decide) (by rw [e] at z; omega))
    · exact And.intro k3 (g 2 (by decide) (by rw [e] at z; omega))
    · exact And.intro k3 (g 3 (by decide) (by rw [e] at z; omega))
    · exact And.intro k3 (g 4 (by decide) (by rw [e] at z; omega))
    · exact And.intro k3 (g 5 (by decide) (by rw [e] at z; omega))
    · exact And.intro k3 (g 6 (by decide) (by rw [e] at z; omega))
    · exact And.intro k3 (g 7 (by decide) (by rw [e] at z; omega))
    · have ew : w = 8 := by rw [e] at z; omega
      rw [if_neg (by omega)] at h
      exact And.intro k3 (And.intro k1 (And.intro l1 h))
  · exact h.elim
end WPs

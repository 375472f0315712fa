/-! THE LAW'S OWN METHODS WALKED: the small ones -/
section WLS
theorem n5s : fw_sd (¬ (5 : Int32) = 0) := fw_sd_i (by decide)
set_option maxRecDepth 100000 in
theorem wk_L_has (B : Nat) : fw_Wk B fl_L (cal_L_has B) [] [] (some .boolean) kL_has 2 (ct_L_has B) := by
  intro as M Q QX h
  unfold ct_L_has at h
  split at h
  · rename_i a z
    refine ⟨rfl, [], ⟨40, And.intro (fun h1 => ?_) (fun h1 => ?_)⟩, nofun⟩
    · rw [show hs a z = false from decide_eq_false h1] at h
      exact And.intro (Or.inl rfl) h
    · rw [show hs a z = true from decide_eq_true h1] at h
      exact And.intro (Or.inr rfl) h
  · exact h.elim
set_option maxRecDepth 100000 in
theorem wk_L_low (B : Nat) : fw_Wk B fl_L (cal_L_low B) [] [] (some .int) kL_low 2 (ct_L_low B) := by
  intro as M Q QX h
  unfold ct_L_low at h
  split at h
  · rename_i v n
    obtain ⟨k, hk, hk2, rfl, h⟩ := h
    obtain ⟨w, hw, ew⟩ := pk_andE v (m := 2147483647) 31 (by decide)
    refine ⟨rfl, [], ⟨40, And.intro (fw_sd_i (fun z => ?_)) ?_⟩, nofun⟩
    · have z : nI k = nI 0 := z
      rw [nI_eq (by omega) (by decide)] at z
      omega
    · show Q (some (.int ((v &&& 2147483647) - (v &&& 2147483647) / nI k * nI k))) M
      rw [ew, pk_rem hw hk (by omega)]
      exact h _ (Nat.mod_lt _ hk)
  · exact h.elim
def twA (i j : Nat) : Int32 := (nI j - nI j / 4 * 4) - (nI i - nI i / 4 * 4)
def twD (i j : Nat) : Int32 := nI j / 4 - nI i / 4
theorem tw1 : ∀ i, i < 16 → ∀ j, j < 16 → ¬ twA i j ≤ 0 → nxz (nI i) (nI j) = nI i + 1 := by decide +kernel
theorem tw2 : ∀ i, i < 16 → ∀ j, j < 16 → ¬ 0 ≤ twA i j → nxz (nI i) (nI j) = nI i - 1 := by decide +kernel
theorem tw3 : ∀ i, i < 16 → ∀ j, j < 16 → twA i j ≤ 0 → 0 ≤ twA i j → ¬ twD i j ≤ 0 → nxz (nI i) (nI j) = nI i + 4 := by decide +kernel
theorem tw4 : ∀ i, i < 16 → ∀ j, j < 16 → twA i j ≤ 0 → 0 ≤ twA i j → ¬ 0 ≤ twD i j → nxz (nI i) (nI j) = nI i - 4 := by decide +kernel
theorem tw5 : ∀ i, i < 16 → ∀ j, j < 16 → twA i j = 0 → twD i j = 0 → nxz (nI i) (nI j) = nI i := by decide +kernel
set_option maxRecDepth 100000 in
theorem wk_L_towards (B : Nat) : fw_Wk B fl_L (cal_L_towards B) [] [] (some .int) kL_towards 4 (ct_L_towards B) := by
  intro as M Q QX h
  unfold ct_L_towards at h
  split at h
  · rename_i f t
    obtain ⟨i, j, hi, hj, rfl, rfl, h⟩ := h
    refine ⟨rfl, [], ⟨80, And.intro n4s (And.intro n4s (And.intro n4s (And.intro n4s (And.intro (fun h1 => And.intro (fun h2 => And.intro (fun h3 => And.intro (fun h4 => ?_) (fun h4 => ?_)) (fun h3 => ?_)) (fun h2 => ?_)) (fun h1 => ?_)))))⟩, nofun⟩
    · rw [tw5 i hi j hj (Int32.le_antisymm h1 h2) (Int32.le_antisymm h3 h4)] at h; exact h
    · rw [tw4 i hi j hj h1 h2 h4] at h; exact h
    · rw [tw3 i hi j hj h1 h2 h3] at h; exact h
    · rw [tw2 i hi j hj h2] at h; exact h
    · rw [tw1 i hi j hj h1] at h; exact h
  · exact h.elim
set_option maxRecDepth 100000 in
theorem wk_L_area (B : Nat) : fw_Wk B fl_L (cal_L_area B) [] [] (some .int) kL_area 3 (ct_L_area B) := by
  intro as M Q QX h
  unfold ct_L_area at h
  split at h
  · rename_i v
    unfold arN at h
    refine ⟨rfl, [], ⟨100, And.intro n4s (And.intro n4s (And.intro n4s (And.intro n4s (And.intro n4s (And.intro n4s (And.intro n5s (And.intro (fun h1 => And.intro n5s (And.intro (fun h2 => And.intro n5s (And.intro (fun h3 => ?_) (fun h3 => ?_))) (fun h2 => ?_))) (fun h1 => ?_))))))))⟩, nofun⟩
    · have h1 : ¬ v - v / 5 * 5 = 0 := h1
      have h2 : ¬ v - v / 5 * 5 = 1 := h2
      have h3 : (4 : Int32) ≤ v - v / 5 * 5 := h3
      rw [if_neg h1, if_neg h2, if_neg (Int32.not_lt.mpr h3)] at h
      exact h
    · have h1 : ¬ v - v / 5 * 5 = 0 := h1
      have h2 : ¬ v - v / 5 * 5 = 1 := h2
      have h3 : ¬ (4 : Int32) ≤ v - v / 5 * 5 := h3
      rw [if_neg h1, if_neg h2, if_pos (Int32.not_le.mp h3)] at h
      exact h
    · have h1 : ¬ v - v / 5 * 5 = 0 := h1
      have h2 : v - v / 5 * 5 = 1 := h2
      rw [if_neg h1, if_pos h2] at h
      exact h
    · have h1 : v - v / 5 * 5 = 0 := h1
      rw [if_pos h1] at h
      exact h
  · exact h.elim
set_option maxRecDepth 100000 in
theorem wk_L_free (B : Nat) : fw_Wk B fl_L (cal_L_free B) [] [] none kL_free 2 (ct_L_free B) := by
  intro as M Q QX h
  unfold ct_L_free at h
  split at h
  · obtain ⟨rfl, S, d, hR, hd, rfl, h⟩ := h
    refine ⟨rfl, [], ⟨60, And.intro kd_493 (And.intro (vrc3 hd) (And.intro kd_493 (And.intro (vrc4 hd) ?_)))⟩, nofun⟩
    exact h _ (wrc4 (wrc3 hR hd rfl) hd rfl) (FL_s (FL_s FL_id))
  · exact h.elim
set_option maxRecDepth 100000 in
theorem wk_L_suits (B : Nat) : fw_Wk B fl_L (cal_L_suits B) [] [] (some .boolean) kL_suits 4 (ct_L_suits B) := by
  intro as M Q QX h
  unfold ct_L_suits at h
  split at h
  · obtain ⟨rfl, rfl, b, S, d, q, hR, hW, hdn, hqn, hq, rfl, rfl, h⟩ := h
    have hn := hW.2.1
    have hd : d < 6 := by omega
    obtain ⟨⟨o, t, ho, ht, hne, eo, et⟩, -, -, -, ⟨z, hz, ez⟩, -⟩ := hW.2.2.2.2.2.2 q hqn
    have e5 := rrp5 hR hq
    have e1 := rrp1 hR hq
    have e0 := rrc hR hd
    unfold suit at h
    refine ⟨rfl, [], ⟨80, And.intro kd_493 (And.intro (vrc hd) (And.intro kd_494 (And.intro (vrp5 hq) (And.intro (fun h1 => ?_) (fun h1 => And.intro kd_493 (And.intro (vrc hd) (And.intro kd_494 (And.intro (vrp5 hq) (And.intro kd_494 (And.intro (vrp1 hq) (Exists.intro z (Exists.intro t (And.intro hz (And.intro ht (And.intro (e5.trans ez) (And.intro (e1.trans et) (And.intro (fun h2 => ?_) (fun h2 => ?_))))))))))))))))))⟩, nofun⟩
    · have h1 : bi (hs (M.1 (B + 493) ((5 : Int32) * nI d).toNatClampNeg) (M.1 (B + 494) ((8 : Int32) * nI q + 5).toNatClampNeg)) = 0 := h1
      rw [bi_0, e0, e5] at h1
      rw [h1] at h
      exact And.intro (Or.inl rfl) h
    · have h1 : ¬ bi (hs (M.1 (B + 493) ((5 : Int32) * nI d).toNatClampNeg) (M.1 (B + 494) ((8 : Int32) * nI q + 5).toNatClampNeg)) = 0 := h1
      have h2 : bi (hs (M.1 (B + 493) ((5 : Int32) * nI d).toNatClampNeg) (nxz (M.1 (B + 494) ((8 : Int32) * nI q + 5).toNatClampNeg) (M.1 (B + 494) ((8 : Int32) * nI q + 1).toNatClampNeg))) = 0 := h2
      rw [bi_n0, e0, e5] at h1
      rw [bi_0, e0, e5, e1] at h2
      rw [h1, h2] at h
      exact And.intro (Or.inl rfl) h
    · have h1 : ¬ bi (hs (M.1 (B + 493) ((5 : Int32) * nI d).toNatClampNeg) (M.1 (B + 494) ((8 : Int32) * nI q + 5).toNatClampNeg)) = 0 := h1
      have h2 : ¬ bi (hs (M.1 (B + 493) ((5 : Int32) * nI d).toNatClampNeg) (nxz (M.1 (B + 494) ((8 : Int32) * nI q + 5).toNatClampNeg) (M.1 (B + 494) ((8 : Int32) * nI q + 1).toNatClampNeg))) = 0 := h2
      rw [bi_n0, e0, e5] at h1
      rw [bi_n0, e0, e5, e1] at h2
      rw [h1, h2] at h
      exact And.intro (Or.inr rfl) h
  · exact h.elim
set_option maxRecDepth 100000 in
theorem wk_L_drops (B : Nat) : fw_Wk B fl_L (cal_L_drops B) [] [] (some .int) kL_drops 4 (ct_L_drops B) := by
  intro as M Q QX h
  unfold ct_L_drops at h
  split at h
  · obtain ⟨rfl, rfl, b, S, d, hR, hW, hpn, hdn, rfl, h⟩ := h
    have hn := hW.2.1
    have hd : d < 6 := by omega
    have e4 := rrc4 hR hd
    have e3 := rrc3 hR hd
    unfold drS at h
    refine ⟨rfl, [], ⟨80, And.intro kd_493 (And.intro (vrc4 hd) (And.intro kd_493 (And.intro (vrc3 hd) (And.intro (fun h1 => ?_) (fun h1 => ?_)))))⟩, nofun⟩
    · have h1 : ¬ M.1 (B + 493) ((5 : Int32) * nI d + 3).toNatClampNeg = 2 := h1
      rw [e3] at h1
      rw [if_neg h1] at h
      refine And.intro rfl (Exists.intro S (Exists.intro d (And.intro hR (And.intro hd (And.intro rfl (fun M' g1 g2 => ?_))))))
      show Q (some (.int (M.1 (B + 493) ((5 : Int32) * nI d + 4).toNatClampNeg))) M'
      rw [e4]
      exact h M' g1 g2
    · have h1 : M.1 (B + 493) ((5 : Int32) * nI d + 3).toNatClampNeg = 2 := h1
      rw [e3] at h1
      rw [if_pos h1] at h
      obtain ⟨q, hqn, eq, eq2⟩ := WF_with hW hdn (by rw [h1]; decide)
      rw [eq2] at h
      have hq : q < 8 := by omega
      have eq := e4.trans eq
      refine And.intro kd_494 (And.intro (vrp4e eq hq) ?_)
      refine And.intro rfl (Exists.intro (uP S q 4 0) (Exists.intro d (And.intro (wrp4e eq hR hq rfl) (And.intro hd (And.intro rfl (fun M' g1 g2 => ?_))))))
      show Q (some (.int (M.1 (B + 493) ((5 : Int32) * nI d + 4).toNatClampNeg))) M'
      rw [e4]
      exact h M' g1 (FL_tr (FL_s FL_id) g2)
  · exact h.elim
set_option maxRecDepth 100000 in
theorem wk_L_delivered (B : Nat) : fw_Wk B fl_L (cal_L_delivered B) [] [] (some .int) kL_delivered 4 (ct_L_delivered B) := by
  intro as M Q QX h
  unfold ct_L_delivered at h
  split at h
  · obtain ⟨rfl, rfl, S, hR, e3, hpn, h⟩ := h
    refine ⟨rfl, [(4, [true, true, true, true], fun n ls st M' => ∃ i, n = 8 - i ∧ i ≤ pn S ∧ ls = [some (.ref (B + 492)), some (.ref (B + 494)), some (.int (inSt S 2 i)), some (.int (nI i))] ∧ st = [] ∧ M' = M)], ⟨40, Exists.intro 8 (Exists.intro 0 ⟨rfl, Nat.zero_le _, rfl, rfl, rfl⟩)⟩, ?_⟩
    intro q hq n ls st M' hi
    cases List.mem_singleton.mp hq
    obtain ⟨i, rfl, hi, rfl, rfl, rfl⟩ := hi
    refine ⟨60, And.intro kd_492 (And.intro vrg3 (And.intro (fun h1 => ?_) (fun h1 => ?_)))⟩
    · have h1 : M'.1 (B + 492) (3 : Int32).toNatClampNeg ≤ nI i := h1
      rw [rrg3 hR, e3, n_ge (by omega) (by omega)] at h1
      rw [show pn S = i by omega] at h
      exact h
    · have h1 : ¬ M'.1 (B + 492) (3 : Int32).toNatClampNeg ≤ nI i := h1
      rw [rrg3 hR, e3, n_ge (by omega) (by omega)] at h1
      have hi8 : i < 8 := by omega
      have key : ∀ v, v = inSt S 2 (i + 1) → ∃ n', n' < 8 - i ∧ ∃ i', n' = 8 - i' ∧ i' ≤ pn S ∧ ([some (.ref (B + 492)), some (.ref (B + 494)), some (.int v), some (.int (nI i + 1))] : fw_L) = [some (.ref (B + 492)), some (.ref (B + 494)), some (.int (inSt S 2 i')), some (.int (nI i'))] ∧ ([] : List Value) = [] ∧ M' = M' := by
        rintro v rfl
        exact ⟨8 - (i + 1), by omega, i + 1, rfl, by omega, by rw [nI_1], rfl, rfl⟩
      refine And.intro kd_494 (And.intro (vrp4 hi8) (And.intro (fun h2 => ?_) (fun h2 => ?_)))
      · have h2 : ¬ M'.1 (B + 494) ((8 : Int32) * nI i + 4).toNatClampNeg = 2 := h2
        rw [rrp4 hR hi8] at h2
        refine key _ ?_
        show inSt S 2 i + 0 = inSt S 2 i + (if sP S i 4 = 2 then 1 else 0)
        rw [if_neg h2]
      · have h2 : M'.1 (B + 494) ((8 : Int32) * nI i + 4).toNatClampNeg = 2 := h2
        rw [rrp4 hR hi8] at h2
        refine key _ ?_
        show inSt S 2 i + 1 = inSt S 2 i + (if sP S i 4 = 2 then 1 else 0)
        rw [if_pos h2]
  · exact h.elim
end WLS

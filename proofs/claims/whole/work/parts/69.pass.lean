/-! AN EXCHANGE PLAYED ON -/
section PS
theorem cn_tkN {S : Sx} {n : Nat} : cn (tkN S n) = cn S := cn_eq (tkN_lo (by decide) (by decide) n)
theorem pn_tkN {S : Sx} {n : Nat} : pn (tkN S n) = pn S := pn_eq (tkN_lo (by decide) (by decide) n)
theorem inSt_n (S : Sx) (q : Int32) : ∀ p, ∃ k, k ≤ p ∧ inSt S q p = nI k := by
  intro p
  induction p with
  | zero => exact ⟨0, Nat.le_refl 0, rfl⟩
  | succ p ih =>
    obtain ⟨k, hk, e⟩ := ih
    unfold inSt
    rw [e]
    split
    · exact ⟨k + 1, by omega, by rw [nI_1]⟩
    · exact ⟨k, by omega, by rw [show (0 : Int32) = nI 0 from rfl, n_add, Nat.add_zero]⟩
set_option maxRecDepth 100000 in
theorem wk_X1_pass (B : Nat) : fw_Wk B fl_X1 (cal_X1_pass B) [] cst_X1 (some .int) kX1_pass 5 (ct_X1_pass B) := by
  intro as M Q QX h
  unfold ct_X1_pass at h
  split at h
  · rename_i x u
    obtain ⟨b, S, n, hb, rfl, ⟨hE, hR, hW⟩, hJ, h⟩ := h
    have kx := kX hE
    refine ⟨rfl, [(10, [true, true, true, true, true], fun m ls st M' => ∃ i y, m = n - i ∧ i ≤ n ∧ (y = 1 ∨ (y = 0 ∧ Idle (tkN S i))) ∧ ls = [some (.ref x), some (.int (nI n)), some (.int (S 6)), some (.int y), some (.int (nI i))] ∧ st = [] ∧ Rep M'.1 x (tkN S i) ∧ FX x M M')], ⟨40, And.intro kx ?_⟩, ?_⟩
    · refine Exists.intro n (Exists.intro 0 (Exists.intro 1 ⟨rfl, by omega, Or.inl rfl, ?_, rfl, hR, FX_id⟩))
      show [some (Value.ref x), some (Value.int (nI n)), some (Value.int (M.1 x 4)), some (Value.int 1), some (Value.int 0)] = _
      rw [r4 hR]
      rfl
    · intro q hq m ls st M' hi
      cases List.mem_singleton.mp hq
      obtain ⟨i, y, rfl, hi, hy, rfl, rfl, hR', hF'⟩ := hi
      refine ⟨80, And.intro (fun h1 => ?_) (fun h1 => ?_)⟩
      · have h1 : nI n ≤ nI i := h1
        rw [n_ge (by omega) (by omega)] at h1
        rw [show i = n by omega] at hR'
        have := h M' hR' hF'
        unfold payN at this
        rw [← r4 hR'] at this
        exact And.intro kx this
      · have h1 : ¬ nI n ≤ nI i := h1
        rw [n_ge (by omega) (by omega)] at h1
        refine And.intro kx (Exists.intro (b + 6 * i) (Exists.intro (tkN S i) (And.intro (by omega) (And.intro ⟨hE, hR', WF_tkN hW i⟩ (And.intro (J_tkN hJ hW i) (And.intro hy ?_))))))
        intro M'' v g1 g2 g3
        refine Exists.intro (n - (i + 1)) (And.intro (by omega) (Exists.intro (i + 1) (Exists.intro v ⟨rfl, by omega, g3, ?_, rfl, g1, FX_tr hF' g2⟩)))
        show [some (Value.ref x), some (Value.int (nI n)), some (Value.int (S 6)), some (Value.int v), some (Value.int (nI i + 1))] = _
        rw [nI_1]
  · exact h.elim
theorem dnF_s {S : Sx} {r i : Nat} (h : dnB (tkN S i) = true) : dnF S r i = nI i := by
  cases r <;> (unfold dnF; rw [if_pos h])
set_option maxRecDepth 100000 in
theorem wk_X1_ticksUntilDone (B : Nat) : fw_Wk B fl_X1 (cal_X1_ticksUntilDone B) [] cst_X1 (some .int) kX1_ticksUntilDone 3 (ct_X1_ticksUntilDone B) := by
  intro as M Q QX h
  unfold ct_X1_ticksUntilDone at h
  split at h
  · rename_i x
    obtain ⟨b, S, hb, ⟨hE, hR, hW⟩, hJ, h⟩ := h
    have kx := kX hE
    have hm24 : pn S ≤ 24 := hR.2.1
    refine ⟨rfl, [(4, [true, true, true], fun m ls st M' => ∃ i y, m = 1201 - i ∧ i ≤ 1201 ∧ (i ≤ 1200 → dnF S 1200 0 = dnF S (1200 - i) i) ∧ (i = 1201 → dnF S 1200 0 = -1) ∧ (y = 1 ∨ (y = 0 ∧ Idle (tkN S i))) ∧ ls = [some (.ref x), some (.int y), some (.int (nI i))] ∧ st = [] ∧ Rep M'.1 x (tkN S i) ∧ FX x M M')], ⟨40, ?_⟩, ?_⟩
    · exact Exists.intro 1201 (Exists.intro 0 (Exists.intro 1 ⟨rfl, by omega, fun _ => rfl, fun e => by omega, Or.inl rfl, rfl, rfl, hR, FX_id⟩))
    · intro q hq m ls st M' hi
      cases List.mem_singleton.mp hq
      obtain ⟨i, y, rfl, hi, hd, hd2, hy, rfl, rfl, hR', hF'⟩ := hi
      have X : XS B M' x (b + 6 * i) (tkN S i) := ⟨hE, hR', WF_tkN hW i⟩
      have cont : ¬ dnB (tkN S i) = true → i ≤ 1200 → ∀ (M'' : fw_M) (v : Int32), Rep M''.1 x (tickS (tkN S i)) → FX x M' M'' → (v = 1 ∨ (v = 0 ∧ Idle (tickS (tkN S i)))) → ∃ m', m' < 1201 - i ∧ ∃ i' y', m' = 1201 - i' ∧ i' ≤ 1201 ∧ (i' ≤ 1200 → dnF S 1200 0 = dnF S (1200 - i') i') ∧ (i' = 1201 → dnF S 1200 0 = -1) ∧ (y' = 1 ∨ (y' = 0 ∧ Idle (tkN S i'))) ∧ ([some (.ref x), some (.int v), some (.int (nI i + 1))] : fw_L) = [some (.ref x), some (.int y'), some (.int (nI i'))] ∧ ([] : List Value) = [] ∧ Rep M''.1 x (tkN S i') ∧ FX x M M'' := by
        intro e hi2 M'' v g1 g2 g3
        refine ⟨1201 - (i + 1), by omega, i + 1, v, rfl, by omega, fun h9 => ?_, fun h9 => ?_, g3, by rw [nI_1], rfl, g1, FX_tr hF' g2⟩
        · rw [hd hi2, show 1200 - i = (1200 - (i + 1)) + 1 by omega]
          conv => lhs; unfold dnF
          rw [if_neg e]
        · rw [hd hi2, show 1200 - i = 0 by omega]
          unfold dnF
          rw [if_neg e]
      obtain ⟨k0, hk0, e0⟩ := inSt_n (tkN S i) 0 (pn (tkN S i))
      obtain ⟨k1, hk1, e1⟩ := inSt_n (tkN S i) 1 (pn (tkN S i))
      have hpp : pn (tkN S i) = pn S := pn_tkN
      have hdn : dnB (tkN S i) = true ↔ k0 = 0 ∧ k1 = 0 := by
        unfold dnB
        rw [decide_eq_true_iff, e0, e1, n_add, show (0 : Int32) = nI 0 from rfl, nI_eq (by omega) (by decide)]
        omega
      refine ⟨80, And.intro (fun h1 => ?_) (fun h1 => ?_)⟩
      · have h1 : nI 1200 < nI i := h1
        rw [n_lt (by decide) (by omega)] at h1
        have := h M' hF'
        rw [hd2 (by omega)] at this
        exact this
      · have h1 : ¬ nI 1200 < nI i := h1
        rw [n_lt (by decide) (by omega)] at h1
        refine And.intro kx (Exists.intro _ (Exists.intro _ (And.intro X (And.intro (fun g1 => ?_) (fun g1 => And.intro kx (Exists.intro _ (Exists.intro _ (And.intro X (And.intro (fun g2 => ?_) (fun g2 => ?_))))))))))
        · have g1 : ¬ inSt (tkN S i) 0 (pn (tkN S i)) = nI 0 := g1
          rw [e0, nI_eq (by omega) (by decide)] at g1
          refine And.intro kx (Exists.intro (b + 6 * i) (Exists.intro (tkN S i) (And.intro (by omega) (And.intro X (And.intro (J_tkN hJ hW i) (And.intro hy (fun M'' v h3 h4 h5 => ?_)))))))
          exact cont (fun e => g1 (hdn.mp e).1) (by omega) M'' v h3 h4 h5
        · have g2 : ¬ inSt (tkN S i) 1 (pn (tkN S i)) = nI 0 := g2
          rw [e1, nI_eq (by omega) (by decide)] at g2
          refine And.intro kx (Exists.intro (b + 6 * i) (Exists.intro (tkN S i) (And.intro (by omega) (And.intro X (And.intro (J_tkN hJ hW i) (And.intro hy (fun M'' v h3 h4 h5 => ?_)))))))
          exact cont (fun e => g2 (hdn.mp e).2) (by omega) M'' v h3 h4 h5
        · have g1 : inSt (tkN S i) 0 (pn (tkN S i)) = nI 0 := g1
          have g2 : inSt (tkN S i) 1 (pn (tkN S i)) = nI 0 := g2
          rw [e0, nI_eq (by omega) (by decide)] at g1
          rw [e1, nI_eq (by omega) (by decide)] at g2
          have := h M' hF'
          rw [hd (by omega), dnF_s (hdn.mpr ⟨g1, g2⟩)] at this
          exact this
  · exact h.elim
end PS

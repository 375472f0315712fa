/-! AN EXCHANGE PLAYED ON -/
section PS
set_option maxRecDepth 100000 in
theorem wk_X1_pass (B : Nat) : fw_Wk B fl_X1 (cal_X1_pass B) [] cst_X1 (some .int) kX1_pass 5 (ct_X1_pass B) := by
  intro as M Q QX h
  unfold ct_X1_pass at h
  split at h
  · rename_i x u
    obtain ⟨b, S, n, hb, rfl, ⟨hE, hR, hW⟩, hJ, h⟩ := h
    have kx := kX hE
    refine ⟨rfl, [(10, [true, true, true, true, true], fun m ls st M' => ∃ i y, m = n - i ∧ i ≤ n ∧ (y = 1 ∨ (y = 0 ∧ Idle (tkN S i))) ∧ ls = [some (.ref x), some (.int (nI n)), some (.int (S 6)), some (.int y), some (.int (nI i))] ∧ st = [] ∧ Rep M'.1 x (tkN S i) ∧ FX x M M')], ⟨40, And.intro kx ?_⟩, ?_⟩
    · refine Exists.intro n (Exists.intro 0 (Exists.intro 1 ⟨rfl, by omega, Or.inl rfl, ?_, rfl, hR, FX_id⟩))
      show [some (Value.ref x), some (Value.int (nI n)), some (Value.int (M.1 x 4)), some (Value.int 1), some (Value.int 0)] = _
      rw [r4 hR]
      rfl
    · intro q hq m ls st M' hi
      cases List.mem_singleton.mp hq
      obtain ⟨i, y, rfl, hi, hy, rfl, rfl, hR', hF'⟩ := hi
      refine ⟨80, And.intro (fun h1 => ?_) (fun h1 => ?_)⟩
      · have h1 : nI n ≤ nI i := h1
        rw [n_ge (by omega) (by omega)] at h1
        rw [show i = n by omega] at hR'
        have := h M' hR' hF'
        unfold payN at this
        rw [← r4 hR'] at this
        exact And.intro kx this
      · have h1 : ¬ nI n ≤ nI i := h1
        rw [n_ge (by omega) (by omega)] at h1
        refine And.intro kx (Exists.intro (b + 6 * i) (Exists.intro (tkN S i) (And.intro (by omega) (And.intro ⟨hE, hR', WF_tkN hW i⟩ (And.intro (J_tkN hJ hW i) (And.intro hy ?_))))))
        intro M'' v g1 g2 g3
        refine Exists.intro (n - (i + 1)) (And.intro (by omega) (Exists.intro (i + 1) (Exists.intro v ⟨rfl, by omega, g3, ?_, rfl, g1, FX_tr hF' g2⟩)))
        show [some (Value.ref x), some (Value.int (nI n)), some (Value.int (S 6)), some (Value.int v), some (Value.int (nI i + 1))] = _
        rw [nI_1]
  · exact h.elim
end PS

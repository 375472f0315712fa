/-! THE FACE WALKED: parse -/
section WF4
theorem one_le {B : Nat} : B + 1 ≤ B + 411 := by omega
theorem far_489 {B : Nat} : B + 1 + 81 ≤ B + 489 := by omega
theorem far_491 {B : Nat} : B + 1 + 81 ≤ B + 491 := by omega
theorem prN_le {tl : Nat} {tx : Nat → Int32} : ∀ n S a, a ≤ tl → (prN tl tx n S a).2.1 ≤ tl := by
  intro n
  induction n with
  | zero => intro S a h; exact h
  | succ n ih =>
    intro S a h
    rw [prN_q]
    split
    · split
      · exact h
      · split
        · exact ih _ _ (item_le h)
        · exact item_le h
    · exact h
set_option maxRecDepth 100000 in
theorem wk_X5_parse (B : Nat) : fw_Wk B fl_X5 (cal_X5_parse B) [] cst_X5 (some .int) kX5_parse 3 (ct_X5_parse B) := by
  intro as M Q QX h
  unfold ct_X5_parse at h
  split at h
  · rename_i a
    obtain ⟨rfl, ⟨S, n, H, tl, tx⟩, hR, hG, hJ, hq, hx⟩ := h
    obtain ⟨t, ht, ht0, hW⟩ := GZ_wf hG
    have hW : WF (6 * t) S := hW
    have ht0 : S 0 = nI t := ht0
    have hXS : XS a M (a + 1) (6 * t) S := ⟨EX_now, hR.1, hW⟩
    have hn6 : cn S ≤ 6 := hW.2.1
    have hm24 : pn S ≤ 24 := hW.2.2.2.1
    have e2 : M.1 (a + 1) 2 = nI (cn S) := (r2 hR.1).trans hW.1
    have e3 : M.1 (a + 1) 3 = nI (pn S) := (r3 hR.1).trans hW.2.2.1
    have k5 := kB (B := a)
    have k1 := kX (EX_now (B := a))
    have k2 := k163 (B := a)
    have hJ0 : J S := hJ.1
    have k4 := k489 (B := a)
    have hT : TS a M tl tx := hR.2.2
    have htl := hT.2.1
    have er : (24 : Int32) - M.1 (a + 1) 3 = nI (24 - pn S) := by rw [e3, show (24 : Int32) = nI 24 from rfl, pk_sub hm24]
    by_cases hp : (prN tl tx 151 S 0).1 = true
    · obtain ⟨S', hS'⟩ : ∃ S', S' = (prN tl tx 151 S 0).2.2 := ⟨_, rfl⟩
      have e : opParse (S, n, H, tl, tx) = (0, S' 3, phZ (S, n, H, tl, tx) S') := by
        unfold opParse
        rw [if_pos (show (prN tl tx 151 S 0).1 = true from hp), hS']
      rw [e] at hq
      have hq := hq rfl
      have hq : ∀ M', RC a M' (S', phN n, phH n H S, tl, tx) → FC a M M' → Q (some (.int (S' 3))) M' := hq
      refine ⟨rfl, [(41, [true, false, true], fun m ls st M' => ∃ i k, m = k - i ∧ i ≤ k ∧ pn S + k ≤ 24 ∧ S' = cmS S tl tx k ∧ RC a M' (cmS S tl tx i, phN n, phH n H S, tl, tx) ∧ FC a M M' ∧ M'.1 (a + 489) 3 = nI k ∧ (∀ j, j < k → (item tl tx (ps tl tx j)).1 = true ∧ IT a M' tl tx (ps tl tx j) j) ∧ ls = [some (.ref a), none, some (.int (nI i))] ∧ st = [])], ⟨100, ?_⟩, ?_⟩
      · refine And.intro k5 (And.intro k5 (And.intro k1 (And.intro k4 (And.intro rfl (Exists.intro tl (Exists.intro tx (Exists.intro (6 * t) (Exists.intro S (And.intro hT (And.intro hW (And.intro er ?_)))))))))))
        intro M1 v fT hv
        rcases hv with ⟨hv, -⟩ | ⟨-, rfl, k, c3, hk, hcm, hit⟩
        · rw [hp] at hv; cases hv
        · have hR1 := RC_txt hR fT
          have hXS1 : XS a M1 (a + 1) (6 * t) S := ⟨EX_now, hR1.1, hW⟩
          refine And.intro (fun _ => ?_) (fun w => absurd rfl w)
          refine And.intro k5 (And.intro k5 (And.intro k2 (And.intro rfl (And.intro rfl (Exists.intro (6 * t) (Exists.intro S (Exists.intro n (Exists.intro H (And.intro hR1.2.1 (And.intro hXS1 ?_))))))))))
          intro M2 g1 g2 g3
          have i489 : M2.1 (a + 489) = M1.1 (a + 489) := g2 _ (by omega)
          have i491 : M2.1 (a + 491) = M1.1 (a + 491) := g2 _ (by omega)
          refine Exists.intro k (Exists.intro 0 (Exists.intro k ⟨rfl, Nat.zero_le k, hk, by rw [hS', hcm], RC_save hR1 g1 g2, FC_tr (FC_t fT) (FC_s g2 g3), by rw [i489]; exact c3, fun j hj => ⟨(hit j hj).1, ?_⟩, rfl, rfl⟩))
          have := (hit j hj).2
          unfold IT at this ⊢
          rw [i491]
          exact this
      · intro q hq' m ls st M' hi
        cases List.mem_singleton.mp hq'
        obtain ⟨i, k, rfl, hi, hk, hS, hR', hF', c3, hit, rfl, rfl⟩ := hi
        refine ⟨100, And.intro k5 (And.intro k4 (And.intro (fun h1 => ?_) (fun h1 => ?_)))⟩
        · have h1 : M'.1 (a + 489) 3 ≤ nI i := h1
          rw [c3, n_ge (by omega) (by omega)] at h1
          have ei : i = k := by omega
          subst ei
          rw [← hS] at hR'
          have ev : M'.1 (a + 1) 3 = S' 3 := r3 hR'.1
          have z := hq M' hR' hF'
          rw [← ev] at z
          exact And.intro k5 (And.intro k1 z)
        · have h1 : ¬ M'.1 (a + 489) 3 ≤ nI i := h1
          rw [c3, n_ge (by omega) (by omega)] at h1
          obtain ⟨w1, w2⟩ := cm_pn (tl := tl) (tx := tx) (S := S) i hW (by omega) (fun j hj => (hit j (by omega)).1)
          obtain ⟨q0, q1, q2, q3⟩ := (hit i (by omega)).2
          have q0 : M'.1 (a + 491) (4 * i + 0) = iO tl tx (ps tl tx i) := q0
          have hi24 : i < 24 := by omega
          refine And.intro k5 (And.intro k5 (And.intro k4 (And.intro rfl (Exists.intro i (Exists.intro 0 (And.intro hi24 (And.intro (by decide) (And.intro rfl (And.intro rfl ?_)))))))))
          refine And.intro k5 (And.intro k4 (And.intro rfl (Exists.intro i (Exists.intro 1 (And.intro hi24 (And.intro (by decide) (And.intro rfl (And.intro rfl ?_))))))))
          refine And.intro k5 (And.intro k4 (And.intro rfl (Exists.intro i (Exists.intro 2 (And.intro hi24 (And.intro (by decide) (And.intro rfl (And.intro rfl ?_))))))))
          refine And.intro k5 (And.intro k4 (And.intro rfl (Exists.intro i (Exists.intro 3 (And.intro hi24 (And.intro (by decide) (And.intro rfl (And.intro rfl ?_))))))))
          refine And.intro k1 (Exists.intro (6 * t) (Exists.intro (cmS S tl tx i) (And.intro ⟨EX_now, hR'.1, w1⟩ (And.intro (by omega) ?_))))
          rw [q0, q1, q2, q3]
          intro M2 f1 f2
          refine Exists.intro (k - (i + 1)) (And.intro (by omega) (Exists.intro (i + 1) (Exists.intro k ⟨rfl, by omega, hk, hS, RC_now hR' f1 f2, FC_tr hF' (FC_x f2 one_le), ?_, fun j hj => ⟨(hit j hj).1, ?_⟩, ?_, rfl⟩)))
          · rw [f2.1 _ (Or.inr far_489)]; exact c3
          · have := (hit j hj).2
            unfold IT at this ⊢
            rw [f2.1 _ (Or.inr far_491)]
            exact this
          · show [some (Value.ref a), none, some (Value.int (nI i + 1))] = _
            rw [nI_1]
    · have hp : (prN tl tx 151 S 0).1 = false := by
        cases w : (prN tl tx 151 S 0).1 with
        | true => exact absurd w hp
        | false => rfl
      have hle := prN_le (tl := tl) (tx := tx) 151 S 0 (Nat.zero_le _)
      have e : opParse (S, n, H, tl, tx) = (0, -10 - nI (prN tl tx 151 S 0).2.1, (S, n, H, tl, tx)) := by
        unfold opParse
        rw [show (prN (S, n, H, tl, tx).2.2.2.1 (S, n, H, tl, tx).2.2.2.2 151 (S, n, H, tl, tx).1 0).1 = false from hp, if_neg (by decide)]
      refine ⟨rfl, [], ⟨100, ?_⟩, nofun⟩
      refine And.intro k5 (And.intro k5 (And.intro k1 (And.intro k4 (And.intro rfl (Exists.intro tl (Exists.intro tx (Exists.intro (6 * t) (Exists.intro S (And.intro hT (And.intro hW (And.intro er ?_)))))))))))
      intro M1 v fT hv
      rcases hv with ⟨-, rfl⟩ | ⟨hv, -⟩
      · refine And.intro (fun w => absurd w (nI_m1 (by omega))) (fun _ => ?_)
        have z := cF_tell (M' := M1) e (RC_txt hR fT) (FC_t fT) hq
        exact z
      · rw [hp] at hv; cases hv
  · exact h.elim
end WF4

/-! THE RING WALKED: restore -/
section WH3
theorem pl_1' {B k : Nat} (h : k < 4) : B + 1 ≠ pl B k := by unfold pl; omega
set_option maxRecDepth 100000 in
theorem wk_X2_restore (B : Nat) : fw_Wk B fl_X2 (cal_X2_restore B) [] cst_X2 none kX2_restore 3 (ct_X2_restore B) := by
  intro as M Q QX h
  unfold ct_X2_restore at h
  split at h
  · obtain ⟨rfl, rfl, b, n, H, ⟨o, ho, e1, e2, hn, hR⟩, hW, h⟩ := h
    have kk := k163 (B := B)
    have hk : (o + n) % 4 < 4 := Nat.mod_lt _ (by decide)
    have hl := pl_lo (B := B) hk
    have ev : M.1 (B + 163) 2 - 1 = nI n := by rw [e2, show (1 : Int32) = nI 1 from rfl, pk_sub (by omega), Nat.add_sub_cancel]
    have hk' : ∀ i, i < n + 1 → Rep (fw_st M (B + 163) 2 (M.1 (B + 163) 2 - 1)).1 (pl B ((o + i) % 4)) (H i) := fun i hi => by
      have hj := pl_lo (B := B) (Nat.mod_lt (o + i) (by decide : 0 < 4))
      exact Rep_fr (hR i hi) (fun c h1 h2 => st_o (by omega))
    have f1 : (fw_st M (B + 163) 2 (M.1 (B + 163) 2 - 1)).1 (B + 163) 1 = nI o := by rw [st_n (by decide)]; exact e1
    have f2 : (fw_st M (B + 163) 2 (M.1 (B + 163) 2 - 1)).1 (B + 163) 2 = nI n := by rw [st_s]; exact ev
    refine ⟨rfl, [], ⟨100, And.intro kk (And.intro kk (And.intro kk (And.intro kk (And.intro rfl (Exists.intro o (Exists.intro n (And.intro ho (And.intro (by omega) (And.intro f1 (And.intro f2 ?_))))))))))⟩, nofun⟩
    refine And.intro (kX EX_now) (And.intro EX_now (And.intro (pl_1' hk) (Exists.intro b (Exists.intro (H n) (And.intro ⟨EX_pl hk, hk' n (Nat.lt_succ_self n), hW⟩ ?_)))))
    intro M' g1 g2
    refine h M' ⟨o, ho, ?_, ?_, by omega, fun i hi => ?_⟩ g1 (fun c hc => ?_) g2.2
    · rw [g2.1 _ (by omega)]; exact f1
    · rw [g2.1 _ (by omega)]; exact f2
    · have hj := pl_lo (B := B) (Nat.mod_lt (o + i) (by decide : 0 < 4))
      exact Rep_fr (hk' i (by omega)) (fun c h1 h2 => g2.1 c (by omega))
    · rw [g2.1 c (by omega), st_o (by omega)]
  · exact h.elim
end WH3

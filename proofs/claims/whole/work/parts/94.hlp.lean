/-! THE LAW'S HELPERS: contracts (printed by program) -/
section HL
def ctL (B : Nat) (op : Op) (a : Nat) (M : fw_M) (Q : Option Value → fw_M → Prop) : Prop := a = B ∧ ∃ Z, RC B M Z ∧ GZ Z ∧ JZ Z ∧ ∀ M' : fw_M, RC B M' (op Z).2.2 → (∀ b, B + 492 ≤ b → M'.1 b = M.1 b) → M'.2.1 0 = M.2.1 0 → ((op Z).1 = 0 → M'.2.1 1 = (op Z).2.1.toInt64) → Q (some (.int (nI (op Z).1))) M'
theorem k498 {B : Nat} : fw_kd B (B + 498) = 11 := kd_at (by decide)
theorem stl1_0 {M : fw_M} {x : Int64} : (fw_stl M 1 x).2.1 0 = M.2.1 0 := by
  show vp_updL M.2.1 1 x 0 = _
  unfold vp_updL
  rw [if_neg (by decide)]
theorem stl1_1 {M : fw_M} {x : Int64} : (fw_stl M 1 x).2.1 1 = x := by
  show vp_updL M.2.1 1 x 1 = _
  unfold vp_updL
  rw [if_pos rfl]
theorem hl_norm {B : Nat} {op : Op} {Z : Zs} {M M1 : fw_M} {Q : Option Value → fw_M → Prop} (h : ∀ M' : fw_M, RC B M' (op Z).2.2 → (∀ b, B + 492 ≤ b → M'.1 b = M.1 b) → M'.2.1 0 = M.2.1 0 → ((op Z).1 = 0 → M'.2.1 1 = (op Z).2.1.toInt64) → Q (some (.int (nI (op Z).1))) M')
    (e : (op Z).1 = 0) (r : RC B M1 (op Z).2.2) (f : FC B (M.1, M.2.1, 0) M1) : Q (some (.int 0)) (fw_stl (M1.1, M1.2.1, 1) 1 (op Z).2.1.toInt64) ∧ (fw_stl (M1.1, M1.2.1, 1) 1 (op Z).2.1.toInt64).2.2 ≤ 1 := by
  refine ⟨?_, Nat.le_refl 1⟩
  have f2 : M1.2 = (M.2.1, 0) := f.2
  have := h (fw_stl (M1.1, M1.2.1, 1) 1 (op Z).2.1.toInt64) r f.1 (by
    rw [stl1_0]
    show M1.2.1 0 = _
    rw [f2]) (fun _ => stl1_1)
  rw [e] at this
  exact this
theorem hl_thr {B k : Nat} {op : Op} {Z : Zs} {M : fw_M} {Q : Option Value → fw_M → Prop} (h : ∀ M' : fw_M, RC B M' (op Z).2.2 → (∀ b, B + 492 ≤ b → M'.1 b = M.1 b) → M'.2.1 0 = M.2.1 0 → ((op Z).1 = 0 → M'.2.1 1 = (op Z).2.1.toInt64) → Q (some (.int (nI (op Z).1))) M')
    (e : (op Z).1 = k ∧ (op Z).2.2 = Z) (hk : k ≠ 0) (hR : RC B M Z) : Q (some (.int (nI k))) (M.1, M.2.1, 1) := by
  have := h (M.1, M.2.1, 1) (by rw [e.2]; exact hR) (fun _ _ => rfl) rfl (fun z => absurd (e.1.symm.trans z) hk)
  rw [e.1] at this
  exact this
theorem xw_A : Cond.castable "java/lang/IllegalArgumentException" "java/lang/IllegalArgumentException" ∈ fw_xw := List.mem_append_right _ (by decide)
theorem xw_S : Cond.castable "java/lang/IllegalStateException" "java/lang/IllegalStateException" ∈ fw_xw := List.mem_append_right _ (by decide)
theorem xw_I : Cond.castable "java/lang/IndexOutOfBoundsException" "java/lang/IndexOutOfBoundsException" ∈ fw_xw := List.mem_append_right _ (by decide)
def ct_L_addCourier (B : Nat) : fw_CTX := fun as M Q _ => match as with
  | [.ref a, .int x, .int y, .ref o] => o = B + 498 ∧ ctL B (opAdd x y) a M Q
  | _ => False
theorem oc_addCourier {x y : Int32} (Z : Zs) : ((opAdd x y) Z).1 = 0 ∨ (((opAdd x y) Z).1 = 1 ∧ ((opAdd x y) Z).2.2 = Z) ∨ (((opAdd x y) Z).1 = 2 ∧ ((opAdd x y) Z).2.2 = Z) := by
  unfold opAdd
  split <;> (try split) <;> first | exact Or.inl rfl | exact Or.inr (Or.inl ⟨rfl, rfl⟩) | exact Or.inr (Or.inr ⟨rfl, rfl⟩)
abbrev rm_L_addCourier : Room := { frames := 7, cells := 1, slots := 6, locals := 170 }
theorem me_L_addCourier (l : Launch) (g : fw_G) (B : Nat) (htr : l.stackTraces = false) : fw_MetH l g B yL_addCourier cL_addCourier 5 (some .int) hL_addCourier rm_L_addCourier 1 6 (ct_L_addCourier B) := by
  refine fw_metH (own := RL) (ix := 7) (n := 2) (p0 := 5) (es := [("java/lang/IllegalArgumentException", 1), ("java/lang/IllegalStateException", 2)]) (by decide +kernel) rfl kL_addCourier_ok kL_addCourier_cst (me_X5_addCourier l g B htr) wl_L_7 wi_X5_addCourier wv_X5_addCourier wz_RX5 wc_X5_addCourier rfl rfl (by decide +kernel) (by decide) (by decide +kernel) ?_ ?_
  · intro E k hk
    simp only [List.mem_cons, List.not_mem_nil, or_false, Prod.mk.injEq] at hk
    rcases hk with ⟨rfl, rfl⟩ | ⟨rfl, rfl⟩
    · exact ⟨13, ⟨[], ⟨0, 10, 13, 13⟩, [⟨0, 10, 17, 15⟩], rfl, by decide, by decide, rfl, wq_L_13, xw_A, fun z hz => nomatch hz⟩, fun Q q M1 h => ⟨20, h⟩⟩
    · refine ⟨17, ⟨[⟨0, 10, 13, 13⟩], ⟨0, 10, 17, 15⟩, [], rfl, by decide, by decide, rfl, wq_L_15, xw_S, fun z hz => ?_⟩, fun Q q M1 h => ⟨20, h⟩⟩
      cases List.mem_singleton.mp hz
      exact ⟨by decide, "java/lang/IllegalArgumentException", wq_L_13, fun U h => h.1⟩
  · intro as M Q QX h
    unfold ct_L_addCourier at h
    split at h
    · rename_i a x y o
      obtain ⟨rfl, rfl, Z, hR, hG, hJ, h⟩ := h
      refine ⟨rfl, a, [.int x, .int y], [.int 0, .ref (a + 498)], kB, rfl, Nat.le_of_ble_eq_true rfl, ⟨30, ⟨rfl, rfl, rfl⟩⟩, ⟨rfl, Z, hR, hG, hJ, fun e M1 r f => ⟨30, And.intro k498 (And.intro rfl (hl_norm h e r f))⟩, fun e => ?_⟩⟩
      rcases oc_addCourier Z with w | w | w
      · exact absurd w e
      · exact ⟨1, by rw [w.1]; exact List.mem_cons_self, hl_thr h w (by decide) hR⟩
      · exact ⟨2, by rw [w.1]; exact List.mem_cons_of_mem _ List.mem_cons_self, hl_thr h w (by decide) hR⟩
    · exact h.elim
def ct_L_setArea (B : Nat) : fw_CTX := fun as M Q _ => match as with
  | [.ref a, .int x, .int y, .ref o] => o = B + 498 ∧ ctL B (opArea x y) a M Q
  | _ => False
theorem oc_setArea {x y : Int32} (Z : Zs) : ((opArea x y) Z).1 = 0 ∨ (((opArea x y) Z).1 = 1 ∧ ((opArea x y) Z).2.2 = Z) ∨ (((opArea x y) Z).1 = 2 ∧ ((opArea x y) Z).2.2 = Z) := by
  unfold opArea
  split <;> (try split) <;> first | exact Or.inl rfl | exact Or.inr (Or.inl ⟨rfl, rfl⟩) | exact Or.inr (Or.inr ⟨rfl, rfl⟩)
abbrev rm_L_setArea : Room := { frames := 7, cells := 1, slots := 6, locals := 172 }
theorem me_L_setArea (l : Launch) (g : fw_G) (B : Nat) (htr : l.stackTraces = false) : fw_MetH l g B yL_setArea cL_setArea 5 (some .int) hL_setArea rm_L_setArea 1 6 (ct_L_setArea B) := by
  refine fw_metH (own := RL) (ix := 17) (n := 2) (p0 := 5) (es := [("java/lang/IndexOutOfBoundsException", 1), ("java/lang/IllegalArgumentException", 2)]) (by decide +kernel) rfl kL_setArea_ok kL_setArea_cst (me_X5_setArea l g B htr) wl_L_17 wi_X5_setArea wv_X5_setArea wz_RX5 wc_X5_setArea rfl rfl (by decide +kernel) (by decide) (by decide +kernel) ?_ ?_
  · intro E k hk
    simp only [List.mem_cons, List.not_mem_nil, or_false, Prod.mk.injEq] at hk
    rcases hk with ⟨rfl, rfl⟩ | ⟨rfl, rfl⟩
    · exact ⟨13, ⟨[], ⟨0, 10, 13, 20⟩, [⟨0, 10, 17, 13⟩], rfl, by decide, by decide, rfl, wq_L_20, xw_I, fun z hz => nomatch hz⟩, fun Q q M1 h => ⟨20, h⟩⟩
    · refine ⟨17, ⟨[⟨0, 10, 13, 20⟩], ⟨0, 10, 17, 13⟩, [], rfl, by decide, by decide, rfl, wq_L_13, xw_A, fun z hz => ?_⟩, fun Q q M1 h => ⟨20, h⟩⟩
      cases List.mem_singleton.mp hz
      exact ⟨by decide, "java/lang/IndexOutOfBoundsException", wq_L_20, fun U h => h.2⟩
  · intro as M Q QX h
    unfold ct_L_setArea at h
    split at h
    · rename_i a x y o
      obtain ⟨rfl, rfl, Z, hR, hG, hJ, h⟩ := h
      refine ⟨rfl, a, [.int x, .int y], [.int 0, .ref (a + 498)], kB, rfl, Nat.le_of_ble_eq_true rfl, ⟨30, ⟨rfl, rfl, rfl⟩⟩, ⟨rfl, Z, hR, hG, hJ, fun e M1 r f => ⟨30, And.intro k498 (And.intro rfl (hl_norm h e r f))⟩, fun e => ?_⟩⟩
      rcases oc_setArea Z with w | w | w
      · exact absurd w e
      · exact ⟨1, by rw [w.1]; exact List.mem_cons_self, hl_thr h w (by decide) hR⟩
      · exact ⟨2, by rw [w.1]; exact List.mem_cons_of_mem _ List.mem_cons_self, hl_thr h w (by decide) hR⟩
    · exact h.elim
def ct_L_give (B : Nat) : fw_CTX := fun as M Q _ => match as with
  | [.ref a, .int x, .int y, .int z, .int u, .ref o] => o = B + 498 ∧ ctL B (opGive x y z u) a M Q
  | _ => False
theorem oc_give {x y z u : Int32} (Z : Zs) : ((opGive x y z u) Z).1 = 0 ∨ (((opGive x y z u) Z).1 = 1 ∧ ((opGive x y z u) Z).2.2 = Z) ∨ (((opGive x y z u) Z).1 = 2 ∧ ((opGive x y z u) Z).2.2 = Z) := by
  unfold opGive
  split <;> (try split) <;> first | exact Or.inl rfl | exact Or.inr (Or.inl ⟨rfl, rfl⟩) | exact Or.inr (Or.inr ⟨rfl, rfl⟩)
abbrev rm_L_give : Room := { frames := 7, cells := 1, slots := 6, locals := 172 }
theorem me_L_give (l : Launch) (g : fw_G) (B : Nat) (htr : l.stackTraces = false) : fw_MetH l g B yL_give cL_give 7 (some .int) hL_give rm_L_give 1 6 (ct_L_give B) := by
  refine fw_metH (own := RL) (ix := 22) (n := 4) (p0 := 9) (es := [("java/lang/IllegalArgumentException", 1), ("java/lang/IllegalStateException", 2)]) (by decide +kernel) rfl kL_give_ok kL_give_cst (me_X5_give l g B htr) wl_L_22 wi_X5_give wv_X5_give wz_RX5 wc_X5_give rfl rfl (by decide +kernel) (by decide) (by decide +kernel) ?_ ?_
  · intro E k hk
    simp only [List.mem_cons, List.not_mem_nil, or_false, Prod.mk.injEq] at hk
    rcases hk with ⟨rfl, rfl⟩ | ⟨rfl, rfl⟩
    · exact ⟨17, ⟨[], ⟨0, 14, 17, 13⟩, [⟨0, 14, 21, 15⟩], rfl, by decide, by decide, rfl, wq_L_13, xw_A, fun z hz => nomatch hz⟩, fun Q q M1 h => ⟨20, h⟩⟩
    · refine ⟨21, ⟨[⟨0, 14, 17, 13⟩], ⟨0, 14, 21, 15⟩, [], rfl, by decide, by decide, rfl, wq_L_15, xw_S, fun z hz => ?_⟩, fun Q q M1 h => ⟨20, h⟩⟩
      cases List.mem_singleton.mp hz
      exact ⟨by decide, "java/lang/IllegalArgumentException", wq_L_13, fun U h => h.1⟩
  · intro as M Q QX h
    unfold ct_L_give at h
    split at h
    · rename_i a x y z u o
      obtain ⟨rfl, rfl, Z, hR, hG, hJ, h⟩ := h
      refine ⟨rfl, a, [.int x, .int y, .int z, .int u], [.int 0, .ref (a + 498)], kB, rfl, Nat.le_of_ble_eq_true rfl, ⟨30, ⟨rfl, rfl, rfl⟩⟩, ⟨rfl, Z, hR, hG, hJ, fun e M1 r f => ⟨30, And.intro k498 (And.intro rfl (hl_norm h e r f))⟩, fun e => ?_⟩⟩
      rcases oc_give Z with w | w | w
      · exact absurd w e
      · exact ⟨1, by rw [w.1]; exact List.mem_cons_self, hl_thr h w (by decide) hR⟩
      · exact ⟨2, by rw [w.1]; exact List.mem_cons_of_mem _ List.mem_cons_self, hl_thr h w (by decide) hR⟩
    · exact h.elim
def ct_L_setGrace (B : Nat) : fw_CTX := fun as M Q _ => match as with
  | [.ref a, .int x, .ref o] => o = B + 498 ∧ ctL B (opGrace x) a M Q
  | _ => False
theorem oc_setGrace {x : Int32} (Z : Zs) : ((opGrace x) Z).1 = 0 ∨ (((opGrace x) Z).1 = 1 ∧ ((opGrace x) Z).2.2 = Z) := by
  unfold opGrace
  split <;> (try split) <;> first | exact Or.inl rfl | exact Or.inr ⟨rfl, rfl⟩
abbrev rm_L_setGrace : Room := { frames := 7, cells := 1, slots := 6, locals := 170 }
theorem me_L_setGrace (l : Launch) (g : fw_G) (B : Nat) (htr : l.stackTraces = false) : fw_MetH l g B yL_setGrace cL_setGrace 4 (some .int) hL_setGrace rm_L_setGrace 1 6 (ct_L_setGrace B) := by
  refine fw_metH (own := RL) (ix := 26) (n := 1) (p0 := 4) (es := [("java/lang/IllegalArgumentException", 1)]) (by decide +kernel) rfl kL_setGrace_ok kL_setGrace_cst (me_X5_setGrace l g B htr) wl_L_26 wi_X5_setGrace wv_X5_setGrace wz_RX5 wc_X5_setGrace rfl rfl (by decide +kernel) (by decide) (by decide +kernel) ?_ ?_
  · intro E k hk
    simp only [List.mem_cons, List.not_mem_nil, or_false, Prod.mk.injEq] at hk
    rcases hk with ⟨rfl, rfl⟩
    · exact ⟨12, ⟨[], ⟨0, 9, 12, 13⟩, [], rfl, by decide, by decide, rfl, wq_L_13, xw_A, fun z hz => nomatch hz⟩, fun Q q M1 h => ⟨20, h⟩⟩
  · intro as M Q QX h
    unfold ct_L_setGrace at h
    split at h
    · rename_i a x o
      obtain ⟨rfl, rfl, Z, hR, hG, hJ, h⟩ := h
      refine ⟨rfl, a, [.int x], [.int 0, .ref (a + 498)], kB, rfl, Nat.le_of_ble_eq_true rfl, ⟨30, ⟨rfl, rfl, rfl⟩⟩, ⟨rfl, Z, hR, hG, hJ, fun e M1 r f => ⟨30, And.intro k498 (And.intro rfl (hl_norm h e r f))⟩, fun e => ?_⟩⟩
      rcases oc_setGrace Z with w | w
      · exact absurd w e
      · exact ⟨1, by rw [w.1]; exact List.mem_cons_self, hl_thr h w (by decide) hR⟩
    · exact h.elim
def ct_L_drop (B : Nat) : fw_CTX := fun as M Q _ => match as with
  | [.ref a, .int x, .ref o] => o = B + 498 ∧ ctL B (opDrop x) a M Q
  | _ => False
theorem oc_drop {x : Int32} (Z : Zs) : ((opDrop x) Z).1 = 0 ∨ (((opDrop x) Z).1 = 1 ∧ ((opDrop x) Z).2.2 = Z) := by
  unfold opDrop
  split <;> (try split) <;> first | exact Or.inl rfl | exact Or.inr ⟨rfl, rfl⟩
abbrev rm_L_drop : Room := { frames := 7, cells := 1, slots := 6, locals := 171 }
theorem me_L_drop (l : Launch) (g : fw_G) (B : Nat) (htr : l.stackTraces = false) : fw_MetH l g B yL_drop cL_drop 4 (some .int) hL_drop rm_L_drop 1 6 (ct_L_drop B) := by
  refine fw_metH (own := RL) (ix := 30) (n := 1) (p0 := 4) (es := [("java/lang/IndexOutOfBoundsException", 1)]) (by decide +kernel) rfl kL_drop_ok kL_drop_cst (me_X5_drop l g B htr) wl_L_30 wi_X5_drop wv_X5_drop wz_RX5 wc_X5_drop rfl rfl (by decide +kernel) (by decide) (by decide +kernel) ?_ ?_
  · intro E k hk
    simp only [List.mem_cons, List.not_mem_nil, or_false, Prod.mk.injEq] at hk
    rcases hk with ⟨rfl, rfl⟩
    · exact ⟨12, ⟨[], ⟨0, 9, 12, 20⟩, [], rfl, by decide, by decide, rfl, wq_L_20, xw_I, fun z hz => nomatch hz⟩, fun Q q M1 h => ⟨20, h⟩⟩
  · intro as M Q QX h
    unfold ct_L_drop at h
    split at h
    · rename_i a x o
      obtain ⟨rfl, rfl, Z, hR, hG, hJ, h⟩ := h
      refine ⟨rfl, a, [.int x], [.int 0, .ref (a + 498)], kB, rfl, Nat.le_of_ble_eq_true rfl, ⟨30, ⟨rfl, rfl, rfl⟩⟩, ⟨rfl, Z, hR, hG, hJ, fun e M1 r f => ⟨30, And.intro k498 (And.intro rfl (hl_norm h e r f))⟩, fun e => ?_⟩⟩
      rcases oc_drop Z with w | w
      · exact absurd w e
      · exact ⟨1, by rw [w.1]; exact List.mem_cons_self, hl_thr h w (by decide) hR⟩
    · exact h.elim
def ct_L_run (B : Nat) : fw_CTX := fun as M Q _ => match as with
  | [.ref a, .int x, .ref o] => o = B + 498 ∧ ctL B (opRun x) a M Q
  | _ => False
theorem oc_run {x : Int32} (Z : Zs) : ((opRun x) Z).1 = 0 ∨ (((opRun x) Z).1 = 1 ∧ ((opRun x) Z).2.2 = Z) ∨ (((opRun x) Z).1 = 2 ∧ ((opRun x) Z).2.2 = Z) := by
  unfold opRun
  split <;> (try split) <;> first | exact Or.inl rfl | exact Or.inr (Or.inl ⟨rfl, rfl⟩) | exact Or.inr (Or.inr ⟨rfl, rfl⟩)
abbrev rm_L_run : Room := { frames := 7, cells := 1, slots := 6, locals := 170 }
theorem me_L_run (l : Launch) (g : fw_G) (B : Nat) (htr : l.stackTraces = false) : fw_MetH l g B yL_run cL_run 4 (some .int) hL_run rm_L_run 1 6 (ct_L_run B) := by
  refine fw_metH (own := RL) (ix := 33) (n := 1) (p0 := 4) (es := [("java/lang/IllegalArgumentException", 1), ("java/lang/IllegalStateException", 2)]) (by decide +kernel) rfl kL_run_ok kL_run_cst (me_X5_run l g B htr) wl_L_33 wi_X5_run wv_X5_run wz_RX5 wc_X5_run rfl rfl (by decide +kernel) (by decide) (by decide +kernel) ?_ ?_
  · intro E k hk
    simp only [List.mem_cons, List.not_mem_nil, or_false, Prod.mk.injEq] at hk
    rcases hk with ⟨rfl, rfl⟩ | ⟨rfl, rfl⟩
    · exact ⟨12, ⟨[], ⟨0, 9, 12, 13⟩, [⟨0, 9, 15, 15⟩], rfl, by decide, by decide, rfl, wq_L_13, xw_A, fun z hz => nomatch hz⟩, fun Q q M1 h => ⟨20, h⟩⟩
    · refine ⟨15, ⟨[⟨0, 9, 12, 13⟩], ⟨0, 9, 15, 15⟩, [], rfl, by decide, by decide, rfl, wq_L_15, xw_S, fun z hz => ?_⟩, fun Q q M1 h => ⟨20, h⟩⟩
      cases List.mem_singleton.mp hz
      exact ⟨by decide, "java/lang/IllegalArgumentException", wq_L_13, fun U h => h.1⟩
  · intro as M Q QX h
    unfold ct_L_run at h
    split at h
    · rename_i a x o
      obtain ⟨rfl, rfl, Z, hR, hG, hJ, h⟩ := h
      refine ⟨rfl, a, [.int x], [.int 0, .ref (a + 498)], kB, rfl, Nat.le_of_ble_eq_true rfl, ⟨30, ⟨rfl, rfl, rfl⟩⟩, ⟨rfl, Z, hR, hG, hJ, fun e M1 r f => ⟨30, And.intro k498 (And.intro rfl (hl_norm h e r f))⟩, fun e => ?_⟩⟩
      rcases oc_run Z with w | w | w
      · exact absurd w e
      · exact ⟨1, by rw [w.1]; exact List.mem_cons_self, hl_thr h w (by decide) hR⟩
      · exact ⟨2, by rw [w.1]; exact List.mem_cons_of_mem _ List.mem_cons_self, hl_thr h w (by decide) hR⟩
    · exact h.elim
def ct_L_value (B : Nat) : fw_CTX := fun as M Q _ => match as with
  | [.ref a, .int x, .ref o] => o = B + 498 ∧ ctL B (opValue x) a M Q
  | _ => False
theorem oc_value {x : Int32} (Z : Zs) : ((opValue x) Z).1 = 0 ∨ (((opValue x) Z).1 = 1 ∧ ((opValue x) Z).2.2 = Z) := by
  unfold opValue
  split <;> (try split) <;> first | exact Or.inl rfl | exact Or.inr ⟨rfl, rfl⟩
abbrev rm_L_value : Room := { frames := 7, cells := 1, slots := 6, locals := 102 }
theorem me_L_value (l : Launch) (g : fw_G) (B : Nat) (htr : l.stackTraces = false) : fw_MetH l g B yL_value cL_value 4 (some .int) hL_value rm_L_value 1 6 (ct_L_value B) := by
  refine fw_metH (own := RL) (ix := 36) (n := 1) (p0 := 4) (es := [("java/lang/IllegalArgumentException", 1)]) (by decide +kernel) rfl kL_value_ok kL_value_cst (me_X5_value l g B htr) wl_L_36 wi_X5_value wv_X5_value wz_RX5 wc_X5_value rfl rfl (by decide +kernel) (by decide) (by decide +kernel) ?_ ?_
  · intro E k hk
    simp only [List.mem_cons, List.not_mem_nil, or_false, Prod.mk.injEq] at hk
    rcases hk with ⟨rfl, rfl⟩
    · exact ⟨12, ⟨[], ⟨0, 9, 12, 13⟩, [], rfl, by decide, by decide, rfl, wq_L_13, xw_A, fun z hz => nomatch hz⟩, fun Q q M1 h => ⟨20, h⟩⟩
  · intro as M Q QX h
    unfold ct_L_value at h
    split at h
    · rename_i a x o
      obtain ⟨rfl, rfl, Z, hR, hG, hJ, h⟩ := h
      refine ⟨rfl, a, [.int x], [.int 0, .ref (a + 498)], kB, rfl, Nat.le_of_ble_eq_true rfl, ⟨30, ⟨rfl, rfl, rfl⟩⟩, ⟨rfl, Z, hR, hG, hJ, fun e M1 r f => ⟨30, And.intro k498 (And.intro rfl (hl_norm h e r f))⟩, fun e => ?_⟩⟩
      rcases oc_value Z with w | w
      · exact absurd w e
      · exact ⟨1, by rw [w.1]; exact List.mem_cons_self, hl_thr h w (by decide) hR⟩
    · exact h.elim
def ct_L_courier (B : Nat) : fw_CTX := fun as M Q _ => match as with
  | [.ref a, .int x, .int y, .ref o] => o = B + 498 ∧ ctL B (opCourier x y) a M Q
  | _ => False
theorem oc_courier {x y : Int32} (Z : Zs) : ((opCourier x y) Z).1 = 0 ∨ (((opCourier x y) Z).1 = 1 ∧ ((opCourier x y) Z).2.2 = Z) ∨ (((opCourier x y) Z).1 = 2 ∧ ((opCourier x y) Z).2.2 = Z) := by
  unfold opCourier
  split <;> (try split) <;> first | exact Or.inl rfl | exact Or.inr (Or.inl ⟨rfl, rfl⟩) | exact Or.inr (Or.inr ⟨rfl, rfl⟩)
abbrev rm_L_courier : Room := { frames := 7, cells := 1, slots := 6, locals := 112 }
theorem me_L_courier (l : Launch) (g : fw_G) (B : Nat) (htr : l.stackTraces = false) : fw_MetH l g B yL_courier cL_courier 5 (some .int) hL_courier rm_L_courier 1 6 (ct_L_courier B) := by
  refine fw_metH (own := RL) (ix := 39) (n := 2) (p0 := 5) (es := [("java/lang/IndexOutOfBoundsException", 1), ("java/lang/IllegalArgumentException", 2)]) (by decide +kernel) rfl kL_courier_ok kL_courier_cst (me_X5_courier l g B htr) wl_L_39 wi_X5_courier wv_X5_courier wz_RX5 wc_X5_courier rfl rfl (by decide +kernel) (by decide) (by decide +kernel) ?_ ?_
  · intro E k hk
    simp only [List.mem_cons, List.not_mem_nil, or_false, Prod.mk.injEq] at hk
    rcases hk with ⟨rfl, rfl⟩ | ⟨rfl, rfl⟩
    · exact ⟨13, ⟨[], ⟨0, 10, 13, 20⟩, [⟨0, 10, 17, 13⟩], rfl, by decide, by decide, rfl, wq_L_20, xw_I, fun z hz => nomatch hz⟩, fun Q q M1 h => ⟨20, h⟩⟩
    · refine ⟨17, ⟨[⟨0, 10, 13, 20⟩], ⟨0, 10, 17, 13⟩, [], rfl, by decide, by decide, rfl, wq_L_13, xw_A, fun z hz => ?_⟩, fun Q q M1 h => ⟨20, h⟩⟩
      cases List.mem_singleton.mp hz
      exact ⟨by decide, "java/lang/IndexOutOfBoundsException", wq_L_20, fun U h => h.2⟩
  · intro as M Q QX h
    unfold ct_L_courier at h
    split at h
    · rename_i a x y o
      obtain ⟨rfl, rfl, Z, hR, hG, hJ, h⟩ := h
      refine ⟨rfl, a, [.int x, .int y], [.int 0, .ref (a + 498)], kB, rfl, Nat.le_of_ble_eq_true rfl, ⟨30, ⟨rfl, rfl, rfl⟩⟩, ⟨rfl, Z, hR, hG, hJ, fun e M1 r f => ⟨30, And.intro k498 (And.intro rfl (hl_norm h e r f))⟩, fun e => ?_⟩⟩
      rcases oc_courier Z with w | w | w
      · exact absurd w e
      · exact ⟨1, by rw [w.1]; exact List.mem_cons_self, hl_thr h w (by decide) hR⟩
      · exact ⟨2, by rw [w.1]; exact List.mem_cons_of_mem _ List.mem_cons_self, hl_thr h w (by decide) hR⟩
    · exact h.elim
def ct_L_parcel (B : Nat) : fw_CTX := fun as M Q _ => match as with
  | [.ref a, .int x, .int y, .ref o] => o = B + 498 ∧ ctL B (opParcel x y) a M Q
  | _ => False
theorem oc_parcel {x y : Int32} (Z : Zs) : ((opParcel x y) Z).1 = 0 ∨ (((opParcel x y) Z).1 = 1 ∧ ((opParcel x y) Z).2.2 = Z) ∨ (((opParcel x y) Z).1 = 2 ∧ ((opParcel x y) Z).2.2 = Z) := by
  unfold opParcel
  split <;> (try split) <;> first | exact Or.inl rfl | exact Or.inr (Or.inl ⟨rfl, rfl⟩) | exact Or.inr (Or.inr ⟨rfl, rfl⟩)
abbrev rm_L_parcel : Room := { frames := 7, cells := 1, slots := 6, locals := 104 }
theorem me_L_parcel (l : Launch) (g : fw_G) (B : Nat) (htr : l.stackTraces = false) : fw_MetH l g B yL_parcel cL_parcel 5 (some .int) hL_parcel rm_L_parcel 1 6 (ct_L_parcel B) := by
  refine fw_metH (own := RL) (ix := 42) (n := 2) (p0 := 5) (es := [("java/lang/IndexOutOfBoundsException", 1), ("java/lang/IllegalArgumentException", 2)]) (by decide +kernel) rfl kL_parcel_ok kL_parcel_cst (me_X5_parcel l g B htr) wl_L_42 wi_X5_parcel wv_X5_parcel wz_RX5 wc_X5_parcel rfl rfl (by decide +kernel) (by decide) (by decide +kernel) ?_ ?_
  · intro E k hk
    simp only [List.mem_cons, List.not_mem_nil, or_false, Prod.mk.injEq] at hk
    rcases hk with ⟨rfl, rfl⟩ | ⟨rfl, rfl⟩
    · exact ⟨13, ⟨[], ⟨0, 10, 13, 20⟩, [⟨0, 10, 17, 13⟩], rfl, by decide, by decide, rfl, wq_L_20, xw_I, fun z hz => nomatch hz⟩, fun Q q M1 h => ⟨20, h⟩⟩
    · refine ⟨17, ⟨[⟨0, 10, 13, 20⟩], ⟨0, 10, 17, 13⟩, [], rfl, by decide, by decide, rfl, wq_L_13, xw_A, fun z hz => ?_⟩, fun Q q M1 h => ⟨20, h⟩⟩
      cases List.mem_singleton.mp hz
      exact ⟨by decide, "java/lang/IndexOutOfBoundsException", wq_L_20, fun U h => h.2⟩
  · intro as M Q QX h
    unfold ct_L_parcel at h
    split at h
    · rename_i a x y o
      obtain ⟨rfl, rfl, Z, hR, hG, hJ, h⟩ := h
      refine ⟨rfl, a, [.int x, .int y], [.int 0, .ref (a + 498)], kB, rfl, Nat.le_of_ble_eq_true rfl, ⟨30, ⟨rfl, rfl, rfl⟩⟩, ⟨rfl, Z, hR, hG, hJ, fun e M1 r f => ⟨30, And.intro k498 (And.intro rfl (hl_norm h e r f))⟩, fun e => ?_⟩⟩
      rcases oc_parcel Z with w | w | w
      · exact absurd w e
      · exact ⟨1, by rw [w.1]; exact List.mem_cons_self, hl_thr h w (by decide) hR⟩
      · exact ⟨2, by rw [w.1]; exact List.mem_cons_of_mem _ List.mem_cons_self, hl_thr h w (by decide) hR⟩
    · exact h.elim
def ct_L_legs (B : Nat) : fw_CTX := fun as M Q _ => match as with
  | [.ref a, .int x, .int y, .int z, .ref o] => o = B + 498 ∧ ctL B (opLegs x y z) a M Q
  | _ => False
theorem oc_legs {x y z : Int32} (Z : Zs) : ((opLegs x y z) Z).1 = 0 ∨ (((opLegs x y z) Z).1 = 1 ∧ ((opLegs x y z) Z).2.2 = Z) := by
  unfold opLegs
  split <;> (try split) <;> first | exact Or.inl rfl | exact Or.inr ⟨rfl, rfl⟩
abbrev rm_L_legs : Room := { frames := 7, cells := 1, slots := 6, locals := 105 }
theorem me_L_legs (l : Launch) (g : fw_G) (B : Nat) (htr : l.stackTraces = false) : fw_MetH l g B yL_legs cL_legs 6 (some .int) hL_legs rm_L_legs 1 6 (ct_L_legs B) := by
  refine fw_metH (own := RL) (ix := 45) (n := 3) (p0 := 7) (es := [("java/lang/IndexOutOfBoundsException", 1)]) (by decide +kernel) rfl kL_legs_ok kL_legs_cst (me_X5_legs l g B htr) wl_L_45 wi_X5_legs wv_X5_legs wz_RX5 wc_X5_legs rfl rfl (by decide +kernel) (by decide) (by decide +kernel) ?_ ?_
  · intro E k hk
    simp only [List.mem_cons, List.not_mem_nil, or_false, Prod.mk.injEq] at hk
    rcases hk with ⟨rfl, rfl⟩
    · exact ⟨15, ⟨[], ⟨0, 12, 15, 20⟩, [], rfl, by decide, by decide, rfl, wq_L_20, xw_I, fun z hz => nomatch hz⟩, fun Q q M1 h => ⟨20, h⟩⟩
  · intro as M Q QX h
    unfold ct_L_legs at h
    split at h
    · rename_i a x y z o
      obtain ⟨rfl, rfl, Z, hR, hG, hJ, h⟩ := h
      refine ⟨rfl, a, [.int x, .int y, .int z], [.int 0, .ref (a + 498)], kB, rfl, Nat.le_of_ble_eq_true rfl, ⟨30, ⟨rfl, rfl, rfl⟩⟩, ⟨rfl, Z, hR, hG, hJ, fun e M1 r f => ⟨30, And.intro k498 (And.intro rfl (hl_norm h e r f))⟩, fun e => ?_⟩⟩
      rcases oc_legs Z with w | w
      · exact absurd w e
      · exact ⟨1, by rw [w.1]; exact List.mem_cons_self, hl_thr h w (by decide) hR⟩
    · exact h.elim
def ct_L_distance (B : Nat) : fw_CTX := fun as M Q _ => match as with
  | [.ref a, .int x, .int y, .ref o] => o = B + 498 ∧ ctL B (opDist x y) a M Q
  | _ => False
theorem oc_distance {x y : Int32} (Z : Zs) : ((opDist x y) Z).1 = 0 ∨ (((opDist x y) Z).1 = 1 ∧ ((opDist x y) Z).2.2 = Z) := by
  unfold opDist
  split <;> (try split) <;> first | exact Or.inl rfl | exact Or.inr ⟨rfl, rfl⟩
abbrev rm_L_distance : Room := { frames := 7, cells := 1, slots := 6, locals := 103 }
theorem me_L_distance (l : Launch) (g : fw_G) (B : Nat) (htr : l.stackTraces = false) : fw_MetH l g B yL_distance cL_distance 5 (some .int) hL_distance rm_L_distance 1 6 (ct_L_distance B) := by
  refine fw_metH (own := RL) (ix := 49) (n := 2) (p0 := 5) (es := [("java/lang/IndexOutOfBoundsException", 1)]) (by decide +kernel) rfl kL_distance_ok kL_distance_cst (me_X5_distance l g B htr) wl_L_49 wi_X5_distance wv_X5_distance wz_RX5 wc_X5_distance rfl rfl (by decide +kernel) (by decide) (by decide +kernel) ?_ ?_
  · intro E k hk
    simp only [List.mem_cons, List.not_mem_nil, or_false, Prod.mk.injEq] at hk
    rcases hk with ⟨rfl, rfl⟩
    · exact ⟨13, ⟨[], ⟨0, 10, 13, 20⟩, [], rfl, by decide, by decide, rfl, wq_L_20, xw_I, fun z hz => nomatch hz⟩, fun Q q M1 h => ⟨20, h⟩⟩
  · intro as M Q QX h
    unfold ct_L_distance at h
    split at h
    · rename_i a x y o
      obtain ⟨rfl, rfl, Z, hR, hG, hJ, h⟩ := h
      refine ⟨rfl, a, [.int x, .int y], [.int 0, .ref (a + 498)], kB, rfl, Nat.le_of_ble_eq_true rfl, ⟨30, ⟨rfl, rfl, rfl⟩⟩, ⟨rfl, Z, hR, hG, hJ, fun e M1 r f => ⟨30, And.intro k498 (And.intro rfl (hl_norm h e r f))⟩, fun e => ?_⟩⟩
      rcases oc_distance Z with w | w
      · exact absurd w e
      · exact ⟨1, by rw [w.1]; exact List.mem_cons_self, hl_thr h w (by decide) hR⟩
    · exact h.elim
def ct_L_suited (B : Nat) : fw_CTX := fun as M Q _ => match as with
  | [.ref a, .int x, .ref o] => o = B + 498 ∧ ctL B (opSuited x) a M Q
  | _ => False
theorem oc_suited {x : Int32} (Z : Zs) : ((opSuited x) Z).1 = 0 ∨ (((opSuited x) Z).1 = 1 ∧ ((opSuited x) Z).2.2 = Z) := by
  unfold opSuited
  split <;> (try split) <;> first | exact Or.inl rfl | exact Or.inr ⟨rfl, rfl⟩
abbrev rm_L_suited : Room := { frames := 7, cells := 1, slots := 6, locals := 103 }
theorem me_L_suited (l : Launch) (g : fw_G) (B : Nat) (htr : l.stackTraces = false) : fw_MetH l g B yL_suited cL_suited 4 (some .int) hL_suited rm_L_suited 1 6 (ct_L_suited B) := by
  refine fw_metH (own := RL) (ix := 52) (n := 1) (p0 := 4) (es := [("java/lang/IndexOutOfBoundsException", 1)]) (by decide +kernel) rfl kL_suited_ok kL_suited_cst (me_X5_suited l g B htr) wl_L_52 wi_X5_suited wv_X5_suited wz_RX5 wc_X5_suited rfl rfl (by decide +kernel) (by decide) (by decide +kernel) ?_ ?_
  · intro E k hk
    simp only [List.mem_cons, List.not_mem_nil, or_false, Prod.mk.injEq] at hk
    rcases hk with ⟨rfl, rfl⟩
    · exact ⟨12, ⟨[], ⟨0, 9, 12, 20⟩, [], rfl, by decide, by decide, rfl, wq_L_20, xw_I, fun z hz => nomatch hz⟩, fun Q q M1 h => ⟨20, h⟩⟩
  · intro as M Q QX h
    unfold ct_L_suited at h
    split at h
    · rename_i a x o
      obtain ⟨rfl, rfl, Z, hR, hG, hJ, h⟩ := h
      refine ⟨rfl, a, [.int x], [.int 0, .ref (a + 498)], kB, rfl, Nat.le_of_ble_eq_true rfl, ⟨30, ⟨rfl, rfl, rfl⟩⟩, ⟨rfl, Z, hR, hG, hJ, fun e M1 r f => ⟨30, And.intro k498 (And.intro rfl (hl_norm h e r f))⟩, fun e => ?_⟩⟩
      rcases oc_suited Z with w | w
      · exact absurd w e
      · exact ⟨1, by rw [w.1]; exact List.mem_cons_self, hl_thr h w (by decide) hR⟩
    · exact h.elim
def ct_L_leastRelay (B : Nat) : fw_CTX := fun as M Q _ => match as with
  | [.ref a, .int x, .ref o] => o = B + 498 ∧ ctL B (opRelay x) a M Q
  | _ => False
theorem oc_leastRelay {x : Int32} (Z : Zs) : ((opRelay x) Z).1 = 0 ∨ (((opRelay x) Z).1 = 1 ∧ ((opRelay x) Z).2.2 = Z) := by
  unfold opRelay
  split <;> (try split) <;> first | exact Or.inl rfl | exact Or.inr ⟨rfl, rfl⟩
abbrev rm_L_leastRelay : Room := { frames := 7, cells := 1, slots := 6, locals := 103 }
theorem me_L_leastRelay (l : Launch) (g : fw_G) (B : Nat) (htr : l.stackTraces = false) : fw_MetH l g B yL_leastRelay cL_leastRelay 4 (some .int) hL_leastRelay rm_L_leastRelay 1 6 (ct_L_leastRelay B) := by
  refine fw_metH (own := RL) (ix := 55) (n := 1) (p0 := 4) (es := [("java/lang/IndexOutOfBoundsException", 1)]) (by decide +kernel) rfl kL_leastRelay_ok kL_leastRelay_cst (me_X5_leastRelay l g B htr) wl_L_55 wi_X5_leastRelay wv_X5_leastRelay wz_RX5 wc_X5_leastRelay rfl rfl (by decide +kernel) (by decide) (by decide +kernel) ?_ ?_
  · intro E k hk
    simp only [List.mem_cons, List.not_mem_nil, or_false, Prod.mk.injEq] at hk
    rcases hk with ⟨rfl, rfl⟩
    · exact ⟨12, ⟨[], ⟨0, 9, 12, 20⟩, [], rfl, by decide, by decide, rfl, wq_L_20, xw_I, fun z hz => nomatch hz⟩, fun Q q M1 h => ⟨20, h⟩⟩
  · intro as M Q QX h
    unfold ct_L_leastRelay at h
    split at h
    · rename_i a x o
      obtain ⟨rfl, rfl, Z, hR, hG, hJ, h⟩ := h
      refine ⟨rfl, a, [.int x], [.int 0, .ref (a + 498)], kB, rfl, Nat.le_of_ble_eq_true rfl, ⟨30, ⟨rfl, rfl, rfl⟩⟩, ⟨rfl, Z, hR, hG, hJ, fun e M1 r f => ⟨30, And.intro k498 (And.intro rfl (hl_norm h e r f))⟩, fun e => ?_⟩⟩
      rcases oc_leastRelay Z with w | w
      · exact absurd w e
      · exact ⟨1, by rw [w.1]; exact List.mem_cons_self, hl_thr h w (by decide) hR⟩
    · exact h.elim
def ct_L_paidIn (B : Nat) : fw_CTX := fun as M Q _ => match as with
  | [.ref a, .int x, .ref o] => o = B + 498 ∧ ctL B (opPaid x) a M Q
  | _ => False
theorem oc_paidIn {x : Int32} (Z : Zs) : ((opPaid x) Z).1 = 0 ∨ (((opPaid x) Z).1 = 1 ∧ ((opPaid x) Z).2.2 = Z) := by
  unfold opPaid
  split <;> (try split) <;> first | exact Or.inl rfl | exact Or.inr ⟨rfl, rfl⟩
abbrev rm_L_paidIn : Room := { frames := 7, cells := 1, slots := 6, locals := 167 }
theorem me_L_paidIn (l : Launch) (g : fw_G) (B : Nat) (htr : l.stackTraces = false) : fw_MetH l g B yL_paidIn cL_paidIn 4 (some .int) hL_paidIn rm_L_paidIn 1 6 (ct_L_paidIn B) := by
  refine fw_metH (own := RL) (ix := 58) (n := 1) (p0 := 4) (es := [("java/lang/IllegalArgumentException", 1)]) (by decide +kernel) rfl kL_paidIn_ok kL_paidIn_cst (me_X5_paidIn l g B htr) wl_L_58 wi_X5_paidIn wv_X5_paidIn wz_RX5 wc_X5_paidIn rfl rfl (by decide +kernel) (by decide) (by decide +kernel) ?_ ?_
  · intro E k hk
    simp only [List.mem_cons, List.not_mem_nil, or_false, Prod.mk.injEq] at hk
    rcases hk with ⟨rfl, rfl⟩
    · exact ⟨12, ⟨[], ⟨0, 9, 12, 13⟩, [], rfl, by decide, by decide, rfl, wq_L_13, xw_A, fun z hz => nomatch hz⟩, fun Q q M1 h => ⟨20, h⟩⟩
  · intro as M Q QX h
    unfold ct_L_paidIn at h
    split at h
    · rename_i a x o
      obtain ⟨rfl, rfl, Z, hR, hG, hJ, h⟩ := h
      refine ⟨rfl, a, [.int x], [.int 0, .ref (a + 498)], kB, rfl, Nat.le_of_ble_eq_true rfl, ⟨30, ⟨rfl, rfl, rfl⟩⟩, ⟨rfl, Z, hR, hG, hJ, fun e M1 r f => ⟨30, And.intro k498 (And.intro rfl (hl_norm h e r f))⟩, fun e => ?_⟩⟩
      rcases oc_paidIn Z with w | w
      · exact absurd w e
      · exact ⟨1, by rw [w.1]; exact List.mem_cons_self, hl_thr h w (by decide) hR⟩
    · exact h.elim
def ct_L_bestZone (B : Nat) : fw_CTX := fun as M Q _ => match as with
  | [.ref a, .int x, .int y, .ref o] => o = B + 498 ∧ ctL B (opBest x y) a M Q
  | _ => False
theorem oc_bestZone {x y : Int32} (Z : Zs) : ((opBest x y) Z).1 = 0 ∨ (((opBest x y) Z).1 = 1 ∧ ((opBest x y) Z).2.2 = Z) ∨ (((opBest x y) Z).1 = 2 ∧ ((opBest x y) Z).2.2 = Z) := by
  unfold opBest
  split <;> (try split) <;> first | exact Or.inl rfl | exact Or.inr (Or.inl ⟨rfl, rfl⟩) | exact Or.inr (Or.inr ⟨rfl, rfl⟩)
abbrev rm_L_bestZone : Room := { frames := 7, cells := 1, slots := 6, locals := 173 }
theorem me_L_bestZone (l : Launch) (g : fw_G) (B : Nat) (htr : l.stackTraces = false) : fw_MetH l g B yL_bestZone cL_bestZone 5 (some .int) hL_bestZone rm_L_bestZone 1 6 (ct_L_bestZone B) := by
  refine fw_metH (own := RL) (ix := 61) (n := 2) (p0 := 5) (es := [("java/lang/IndexOutOfBoundsException", 1), ("java/lang/IllegalArgumentException", 2)]) (by decide +kernel) rfl kL_bestZone_ok kL_bestZone_cst (me_X5_bestZone l g B htr) wl_L_61 wi_X5_bestZone wv_X5_bestZone wz_RX5 wc_X5_bestZone rfl rfl (by decide +kernel) (by decide) (by decide +kernel) ?_ ?_
  · intro E k hk
    simp only [List.mem_cons, List.not_mem_nil, or_false, Prod.mk.injEq] at hk
    rcases hk with ⟨rfl, rfl⟩ | ⟨rfl, rfl⟩
    · exact ⟨13, ⟨[], ⟨0, 10, 13, 20⟩, [⟨0, 10, 17, 13⟩], rfl, by decide, by decide, rfl, wq_L_20, xw_I, fun z hz => nomatch hz⟩, fun Q q M1 h => ⟨20, h⟩⟩
    · refine ⟨17, ⟨[⟨0, 10, 13, 20⟩], ⟨0, 10, 17, 13⟩, [], rfl, by decide, by decide, rfl, wq_L_13, xw_A, fun z hz => ?_⟩, fun Q q M1 h => ⟨20, h⟩⟩
      cases List.mem_singleton.mp hz
      exact ⟨by decide, "java/lang/IndexOutOfBoundsException", wq_L_20, fun U h => h.2⟩
  · intro as M Q QX h
    unfold ct_L_bestZone at h
    split at h
    · rename_i a x y o
      obtain ⟨rfl, rfl, Z, hR, hG, hJ, h⟩ := h
      refine ⟨rfl, a, [.int x, .int y], [.int 0, .ref (a + 498)], kB, rfl, Nat.le_of_ble_eq_true rfl, ⟨30, ⟨rfl, rfl, rfl⟩⟩, ⟨rfl, Z, hR, hG, hJ, fun e M1 r f => ⟨30, And.intro k498 (And.intro rfl (hl_norm h e r f))⟩, fun e => ?_⟩⟩
      rcases oc_bestZone Z with w | w | w
      · exact absurd w e
      · exact ⟨1, by rw [w.1]; exact List.mem_cons_self, hl_thr h w (by decide) hR⟩
      · exact ⟨2, by rw [w.1]; exact List.mem_cons_of_mem _ List.mem_cons_self, hl_thr h w (by decide) hR⟩
    · exact h.elim
def ct_L_worth (B : Nat) : fw_CTX := fun as M Q _ => match as with
  | [.ref a, .int x, .int y, .ref o] => o = B + 498 ∧ ctL B (opWorth x y) a M Q
  | _ => False
theorem oc_worth {x y : Int32} (Z : Zs) : ((opWorth x y) Z).1 = 0 ∨ (((opWorth x y) Z).1 = 1 ∧ ((opWorth x y) Z).2.2 = Z) ∨ (((opWorth x y) Z).1 = 2 ∧ ((opWorth x y) Z).2.2 = Z) := by
  unfold opWorth
  split <;> (try split) <;> first | exact Or.inl rfl | exact Or.inr (Or.inl ⟨rfl, rfl⟩) | exact Or.inr (Or.inr ⟨rfl, rfl⟩)
abbrev rm_L_worth : Room := { frames := 7, cells := 1, slots := 6, locals := 169 }
theorem me_L_worth (l : Launch) (g : fw_G) (B : Nat) (htr : l.stackTraces = false) : fw_MetH l g B yL_worth cL_worth 5 (some .int) hL_worth rm_L_worth 1 6 (ct_L_worth B) := by
  refine fw_metH (own := RL) (ix := 64) (n := 2) (p0 := 5) (es := [("java/lang/IndexOutOfBoundsException", 1), ("java/lang/IllegalArgumentException", 2)]) (by decide +kernel) rfl kL_worth_ok kL_worth_cst (me_X5_worth l g B htr) wl_L_64 wi_X5_worth wv_X5_worth wz_RX5 wc_X5_worth rfl rfl (by decide +kernel) (by decide) (by decide +kernel) ?_ ?_
  · intro E k hk
    simp only [List.mem_cons, List.not_mem_nil, or_false, Prod.mk.injEq] at hk
    rcases hk with ⟨rfl, rfl⟩ | ⟨rfl, rfl⟩
    · exact ⟨13, ⟨[], ⟨0, 10, 13, 20⟩, [⟨0, 10, 17, 13⟩], rfl, by decide, by decide, rfl, wq_L_20, xw_I, fun z hz => nomatch hz⟩, fun Q q M1 h => ⟨20, h⟩⟩
    · refine ⟨17, ⟨[⟨0, 10, 13, 20⟩], ⟨0, 10, 17, 13⟩, [], rfl, by decide, by decide, rfl, wq_L_13, xw_A, fun z hz => ?_⟩, fun Q q M1 h => ⟨20, h⟩⟩
      cases List.mem_singleton.mp hz
      exact ⟨by decide, "java/lang/IndexOutOfBoundsException", wq_L_20, fun U h => h.2⟩
  · intro as M Q QX h
    unfold ct_L_worth at h
    split at h
    · rename_i a x y o
      obtain ⟨rfl, rfl, Z, hR, hG, hJ, h⟩ := h
      refine ⟨rfl, a, [.int x, .int y], [.int 0, .ref (a + 498)], kB, rfl, Nat.le_of_ble_eq_true rfl, ⟨30, ⟨rfl, rfl, rfl⟩⟩, ⟨rfl, Z, hR, hG, hJ, fun e M1 r f => ⟨30, And.intro k498 (And.intro rfl (hl_norm h e r f))⟩, fun e => ?_⟩⟩
      rcases oc_worth Z with w | w | w
      · exact absurd w e
      · exact ⟨1, by rw [w.1]; exact List.mem_cons_self, hl_thr h w (by decide) hR⟩
      · exact ⟨2, by rw [w.1]; exact List.mem_cons_of_mem _ List.mem_cons_self, hl_thr h w (by decide) hR⟩
    · exact h.elim
def ct_L_append (B : Nat) : fw_CTX := fun as M Q _ => match as with
  | [.ref a, .int x, .ref o] => o = B + 498 ∧ ctL B (opAppend x) a M Q
  | _ => False
theorem oc_append {x : Int32} (Z : Zs) : ((opAppend x) Z).1 = 0 ∨ (((opAppend x) Z).1 = 1 ∧ ((opAppend x) Z).2.2 = Z) ∨ (((opAppend x) Z).1 = 2 ∧ ((opAppend x) Z).2.2 = Z) := by
  unfold opAppend
  split <;> (try split) <;> first | exact Or.inl rfl | exact Or.inr (Or.inl ⟨rfl, rfl⟩) | exact Or.inr (Or.inr ⟨rfl, rfl⟩)
abbrev rm_L_append : Room := { frames := 7, cells := 1, slots := 6, locals := 102 }
theorem me_L_append (l : Launch) (g : fw_G) (B : Nat) (htr : l.stackTraces = false) : fw_MetH l g B yL_append cL_append 4 (some .int) hL_append rm_L_append 1 6 (ct_L_append B) := by
  refine fw_metH (own := RL) (ix := 67) (n := 1) (p0 := 4) (es := [("java/lang/IllegalArgumentException", 1), ("java/lang/IllegalStateException", 2)]) (by decide +kernel) rfl kL_append_ok kL_append_cst (me_X5_append l g B htr) wl_L_67 wi_X5_append wv_X5_append wz_RX5 wc_X5_append rfl rfl (by decide +kernel) (by decide) (by decide +kernel) ?_ ?_
  · intro E k hk
    simp only [List.mem_cons, List.not_mem_nil, or_false, Prod.mk.injEq] at hk
    rcases hk with ⟨rfl, rfl⟩ | ⟨rfl, rfl⟩
    · exact ⟨12, ⟨[], ⟨0, 9, 12, 13⟩, [⟨0, 9, 15, 15⟩], rfl, by decide, by decide, rfl, wq_L_13, xw_A, fun z hz => nomatch hz⟩, fun Q q M1 h => ⟨20, h⟩⟩
    · refine ⟨15, ⟨[⟨0, 9, 12, 13⟩], ⟨0, 9, 15, 15⟩, [], rfl, by decide, by decide, rfl, wq_L_15, xw_S, fun z hz => ?_⟩, fun Q q M1 h => ⟨20, h⟩⟩
      cases List.mem_singleton.mp hz
      exact ⟨by decide, "java/lang/IllegalArgumentException", wq_L_13, fun U h => h.1⟩
  · intro as M Q QX h
    unfold ct_L_append at h
    split at h
    · rename_i a x o
      obtain ⟨rfl, rfl, Z, hR, hG, hJ, h⟩ := h
      refine ⟨rfl, a, [.int x], [.int 0, .ref (a + 498)], kB, rfl, Nat.le_of_ble_eq_true rfl, ⟨30, ⟨rfl, rfl, rfl⟩⟩, ⟨rfl, Z, hR, hG, hJ, fun e M1 r f => ⟨30, And.intro k498 (And.intro rfl (hl_norm h e r f))⟩, fun e => ?_⟩⟩
      rcases oc_append Z with w | w | w
      · exact absurd w e
      · exact ⟨1, by rw [w.1]; exact List.mem_cons_self, hl_thr h w (by decide) hR⟩
      · exact ⟨2, by rw [w.1]; exact List.mem_cons_of_mem _ List.mem_cons_self, hl_thr h w (by decide) hR⟩
    · exact h.elim
def ct_L_undo (B : Nat) : fw_CTX := fun as M Q _ => match as with
  | [.ref a, .ref o] => o = B + 498 ∧ ctL B opUndo a M Q
  | _ => False
theorem oc_undo (Z : Zs) : (opUndo Z).1 = 0 ∨ ((opUndo Z).1 = 1 ∧ (opUndo Z).2.2 = Z) := by
  unfold opUndo
  split <;> (try split) <;> first | exact Or.inl rfl | exact Or.inr ⟨rfl, rfl⟩
abbrev rm_L_undo : Room := { frames := 7, cells := 1, slots := 6, locals := 168 }
theorem me_L_undo (l : Launch) (g : fw_G) (B : Nat) (htr : l.stackTraces = false) : fw_MetH l g B yL_undo cL_undo 3 (some .int) hL_undo rm_L_undo 1 6 (ct_L_undo B) := by
  refine fw_metH (own := RL) (ix := 70) (n := 0) (p0 := 3) (es := [("java/lang/IllegalStateException", 1)]) (by decide +kernel) rfl kL_undo_ok kL_undo_cst (me_X5_undo l g B htr) wl_L_70 wi_X5_undo wv_X5_undo wz_RX5 wc_X5_undo rfl rfl (by decide +kernel) (by decide) (by decide +kernel) ?_ ?_
  · intro E k hk
    simp only [List.mem_cons, List.not_mem_nil, or_false, Prod.mk.injEq] at hk
    rcases hk with ⟨rfl, rfl⟩
    · exact ⟨11, ⟨[], ⟨0, 8, 11, 15⟩, [], rfl, by decide, by decide, rfl, wq_L_15, xw_S, fun z hz => nomatch hz⟩, fun Q q M1 h => ⟨20, h⟩⟩
  · intro as M Q QX h
    unfold ct_L_undo at h
    split at h
    · rename_i a o
      obtain ⟨rfl, rfl, Z, hR, hG, hJ, h⟩ := h
      refine ⟨rfl, a, [], [.int 0, .ref (a + 498)], kB, rfl, Nat.le_of_ble_eq_true rfl, ⟨30, ⟨rfl, rfl, rfl⟩⟩, ⟨rfl, Z, hR, hG, hJ, fun e M1 r f => ⟨30, And.intro k498 (And.intro rfl (hl_norm h e r f))⟩, fun e => ?_⟩⟩
      rcases oc_undo Z with w | w
      · exact absurd w e
      · exact ⟨1, by rw [w.1]; exact List.mem_cons_self, hl_thr h w (by decide) hR⟩
    · exact h.elim
end HL

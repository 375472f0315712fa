/-! THE LAW'S HELPERS THAT CATCH: contracts (printed by program) -/
section HL
/-- what a helper answers -/
def hv (k1 k2 : Int32) (r : Nat × Int32 × Zs) : Int32 := if r.1 = 0 then r.2.1 else if r.1 = 1 then k1 else k2
def ctH (B : Nat) (op : Op) (k1 k2 : Int32) (a : Nat) (M : fw_M) (Q : Option Value → fw_M → Prop) : Prop := a = B ∧ ∃ Z, RC B M Z ∧ KZ Z ∧ ∀ M' : fw_M, RC B M' (op Z).2.2 → (∀ b, B + 492 ≤ b → M'.1 b = M.1 b) → Q (some (.int (hv k1 k2 (op Z)))) M'
theorem hl_n {B : Nat} {op : Op} {k1 k2 : Int32} {Z : Zs} {M M1 : fw_M} {Q : Option Value → fw_M → Prop} (h : ∀ M' : fw_M, RC B M' (op Z).2.2 → (∀ b, B + 492 ≤ b → M'.1 b = M.1 b) → Q (some (.int (hv k1 k2 (op Z)))) M')
    (e : (op Z).1 = 0) (r : RC B M1 (op Z).2.2) (f : FC B (M.1, M.2.1, 0) M1) : Q (some (.int (op Z).2.1)) (M1.1, M1.2.1, 1) ∧ (1 : Nat) ≤ 1 := by
  refine ⟨?_, Nat.le_refl 1⟩
  have := h (M1.1, M1.2.1, 1) r f.1
  unfold hv at this
  rw [if_pos e] at this
  exact this
theorem hl_t {B k : Nat} {op : Op} {k1 k2 : Int32} {Z : Zs} {M : fw_M} {Q : Option Value → fw_M → Prop} (h : ∀ M' : fw_M, RC B M' (op Z).2.2 → (∀ b, B + 492 ≤ b → M'.1 b = M.1 b) → Q (some (.int (hv k1 k2 (op Z)))) M')
    (e : (op Z).1 = k ∧ (op Z).2.2 = Z) (hk : k ≠ 0) (hR : RC B M Z) : Q (some (.int (if k = 1 then k1 else k2))) (M.1, M.2.1, 1) := by
  have := h (M.1, M.2.1, 1) (by rw [e.2]; exact hR) (fun _ _ => rfl)
  unfold hv at this
  rw [e.1, if_neg hk] at this
  exact this
theorem xw_A : Cond.castable "java/lang/IllegalArgumentException" "java/lang/IllegalArgumentException" ∈ fw_xw := List.mem_append_right _ (by decide)
theorem xw_S : Cond.castable "java/lang/IllegalStateException" "java/lang/IllegalStateException" ∈ fw_xw := List.mem_append_right _ (by decide)
theorem xw_I : Cond.castable "java/lang/IndexOutOfBoundsException" "java/lang/IndexOutOfBoundsException" ∈ fw_xw := List.mem_append_right _ (by decide)
def ct_L_adds (B : Nat) : fw_CTX := fun as M Q _ => match as with
  | [.ref a, .int x, .int y] => ctH B (opAdd x y) (-100002) (-100003) a M Q
  | _ => False
theorem oc_adds {x y : Int32} (Z : Zs) : ((opAdd x y) Z).1 = 0 ∨ (((opAdd x y) Z).1 = 1 ∧ ((opAdd x y) Z).2.2 = Z) ∨ (((opAdd x y) Z).1 = 2 ∧ ((opAdd x y) Z).2.2 = Z) := by
  unfold opAdd
  split <;> (try split) <;> first | exact Or.inl rfl | exact Or.inr (Or.inl ⟨rfl, rfl⟩) | exact Or.inr (Or.inr ⟨rfl, rfl⟩)
abbrev rm_L_adds : Room := { frames := 7, cells := 1, slots := 6, locals := 170 }
theorem me_L_adds (l : Launch) (g : fw_G) (B : Nat) (htr : l.stackTraces = false) : fw_MetH l g B yL_adds cL_adds 4 (some .int) hL_adds rm_L_adds 1 6 (ct_L_adds B) := by
  refine fw_metH (own := RL) (ix := 78) (n := 2) (p0 := 3) (es := [("java/lang/IllegalArgumentException", -100002), ("java/lang/IllegalStateException", -100003)]) (by decide +kernel) rfl kL_adds_ok kL_adds_cst (me_X5_addCourier l g B htr) wl_L_78 wi_X5_addCourier wv_X5_addCourier wz_RX5 wc_X5_addCourier rfl rfl (by decide +kernel) (by decide) (by decide +kernel) ?_ ?_
  · intro E k hk
    simp only [List.mem_cons, List.not_mem_nil, or_false, Prod.mk.injEq] at hk
    rcases hk with ⟨rfl, rfl⟩ | ⟨rfl, rfl⟩
    · exact ⟨7, ⟨[], ⟨0, 6, 7, 83⟩, [⟨0, 6, 11, 85⟩], rfl, by decide, by decide, rfl, wq_L_83, xw_A, fun z hz => nomatch hz⟩, fun Q q M1 h => ⟨20, h⟩⟩
    · refine ⟨11, ⟨[⟨0, 6, 7, 83⟩], ⟨0, 6, 11, 85⟩, [], rfl, by decide, by decide, rfl, wq_L_85, xw_S, fun z hz => ?_⟩, fun Q q M1 h => ⟨20, h⟩⟩
      cases List.mem_singleton.mp hz
      exact ⟨by decide, "java/lang/IllegalArgumentException", wq_L_83, fun U h => h.1⟩
  · intro as M Q QX h
    unfold ct_L_adds at h
    split at h
    · rename_i a x y
      obtain ⟨rfl, Z, hR, hK, h⟩ := h
      refine ⟨rfl, a, [.int x, .int y], [], kB, rfl, Nat.le_of_ble_eq_true rfl, ⟨30, ⟨rfl, rfl, rfl⟩⟩, ⟨rfl, Z, hR, hK.1, hK.2, fun e M1 r f => ⟨30, hl_n h e r f⟩, fun e => ?_⟩⟩
      rcases oc_adds Z with w | w | w
      · exact absurd w e
      · exact ⟨-100002, by rw [w.1]; exact List.mem_cons_self, hl_t h w (by decide) hR⟩
      · exact ⟨-100003, by rw [w.1]; exact List.mem_cons_of_mem _ List.mem_cons_self, hl_t h w (by decide) hR⟩
    · exact h.elim
def ct_L_areas (B : Nat) : fw_CTX := fun as M Q _ => match as with
  | [.ref a, .int x, .int y] => ctH B (opArea x y) (-100001) (-100002) a M Q
  | _ => False
theorem oc_areas {x y : Int32} (Z : Zs) : ((opArea x y) Z).1 = 0 ∨ (((opArea x y) Z).1 = 1 ∧ ((opArea x y) Z).2.2 = Z) ∨ (((opArea x y) Z).1 = 2 ∧ ((opArea x y) Z).2.2 = Z) := by
  unfold opArea
  split <;> (try split) <;> first | exact Or.inl rfl | exact Or.inr (Or.inl ⟨rfl, rfl⟩) | exact Or.inr (Or.inr ⟨rfl, rfl⟩)
abbrev rm_L_areas : Room := { frames := 7, cells := 1, slots := 6, locals := 172 }
theorem me_L_areas (l : Launch) (g : fw_G) (B : Nat) (htr : l.stackTraces = false) : fw_MetH l g B yL_areas cL_areas 4 (some .int) hL_areas rm_L_areas 1 6 (ct_L_areas B) := by
  refine fw_metH (own := RL) (ix := 87) (n := 2) (p0 := 3) (es := [("java/lang/IndexOutOfBoundsException", -100001), ("java/lang/IllegalArgumentException", -100002)]) (by decide +kernel) rfl kL_areas_ok kL_areas_cst (me_X5_setArea l g B htr) wl_L_87 wi_X5_setArea wv_X5_setArea wz_RX5 wc_X5_setArea rfl rfl (by decide +kernel) (by decide) (by decide +kernel) ?_ ?_
  · intro E k hk
    simp only [List.mem_cons, List.not_mem_nil, or_false, Prod.mk.injEq] at hk
    rcases hk with ⟨rfl, rfl⟩ | ⟨rfl, rfl⟩
    · exact ⟨7, ⟨[], ⟨0, 6, 7, 90⟩, [⟨0, 6, 11, 83⟩], rfl, by decide, by decide, rfl, wq_L_90, xw_I, fun z hz => nomatch hz⟩, fun Q q M1 h => ⟨20, h⟩⟩
    · refine ⟨11, ⟨[⟨0, 6, 7, 90⟩], ⟨0, 6, 11, 83⟩, [], rfl, by decide, by decide, rfl, wq_L_83, xw_A, fun z hz => ?_⟩, fun Q q M1 h => ⟨20, h⟩⟩
      cases List.mem_singleton.mp hz
      exact ⟨by decide, "java/lang/IndexOutOfBoundsException", wq_L_90, fun U h => h.2⟩
  · intro as M Q QX h
    unfold ct_L_areas at h
    split at h
    · rename_i a x y
      obtain ⟨rfl, Z, hR, hK, h⟩ := h
      refine ⟨rfl, a, [.int x, .int y], [], kB, rfl, Nat.le_of_ble_eq_true rfl, ⟨30, ⟨rfl, rfl, rfl⟩⟩, ⟨rfl, Z, hR, hK.1, hK.2, fun e M1 r f => ⟨30, hl_n h e r f⟩, fun e => ?_⟩⟩
      rcases oc_areas Z with w | w | w
      · exact absurd w e
      · exact ⟨-100001, by rw [w.1]; exact List.mem_cons_self, hl_t h w (by decide) hR⟩
      · exact ⟨-100002, by rw [w.1]; exact List.mem_cons_of_mem _ List.mem_cons_self, hl_t h w (by decide) hR⟩
    · exact h.elim
def ct_L_gives (B : Nat) : fw_CTX := fun as M Q _ => match as with
  | [.ref a, .int x, .int y, .int z, .int u] => ctH B (opGive x y z u) (-100002) (-100003) a M Q
  | _ => False
theorem oc_gives {x y z u : Int32} (Z : Zs) : ((opGive x y z u) Z).1 = 0 ∨ (((opGive x y z u) Z).1 = 1 ∧ ((opGive x y z u) Z).2.2 = Z) ∨ (((opGive x y z u) Z).1 = 2 ∧ ((opGive x y z u) Z).2.2 = Z) := by
  unfold opGive
  split <;> (try split) <;> first | exact Or.inl rfl | exact Or.inr (Or.inl ⟨rfl, rfl⟩) | exact Or.inr (Or.inr ⟨rfl, rfl⟩)
abbrev rm_L_gives : Room := { frames := 7, cells := 1, slots := 6, locals := 172 }
theorem me_L_gives (l : Launch) (g : fw_G) (B : Nat) (htr : l.stackTraces = false) : fw_MetH l g B yL_gives cL_gives 6 (some .int) hL_gives rm_L_gives 1 6 (ct_L_gives B) := by
  refine fw_metH (own := RL) (ix := 92) (n := 4) (p0 := 6) (es := [("java/lang/IllegalArgumentException", -100002), ("java/lang/IllegalStateException", -100003)]) (by decide +kernel) rfl kL_gives_ok kL_gives_cst (me_X5_give l g B htr) wl_L_92 wi_X5_give wv_X5_give wz_RX5 wc_X5_give rfl rfl (by decide +kernel) (by decide) (by decide +kernel) ?_ ?_
  · intro E k hk
    simp only [List.mem_cons, List.not_mem_nil, or_false, Prod.mk.injEq] at hk
    rcases hk with ⟨rfl, rfl⟩ | ⟨rfl, rfl⟩
    · exact ⟨10, ⟨[], ⟨0, 9, 10, 83⟩, [⟨0, 9, 15, 85⟩], rfl, by decide, by decide, rfl, wq_L_83, xw_A, fun z hz => nomatch hz⟩, fun Q q M1 h => ⟨20, h⟩⟩
    · refine ⟨15, ⟨[⟨0, 9, 10, 83⟩], ⟨0, 9, 15, 85⟩, [], rfl, by decide, by decide, rfl, wq_L_85, xw_S, fun z hz => ?_⟩, fun Q q M1 h => ⟨20, h⟩⟩
      cases List.mem_singleton.mp hz
      exact ⟨by decide, "java/lang/IllegalArgumentException", wq_L_83, fun U h => h.1⟩
  · intro as M Q QX h
    unfold ct_L_gives at h
    split at h
    · rename_i a x y z u
      obtain ⟨rfl, Z, hR, hK, h⟩ := h
      refine ⟨rfl, a, [.int x, .int y, .int z, .int u], [], kB, rfl, Nat.le_of_ble_eq_true rfl, ⟨30, ⟨rfl, rfl, rfl⟩⟩, ⟨rfl, Z, hR, hK.1, hK.2, fun e M1 r f => ⟨30, hl_n h e r f⟩, fun e => ?_⟩⟩
      rcases oc_gives Z with w | w | w
      · exact absurd w e
      · exact ⟨-100002, by rw [w.1]; exact List.mem_cons_self, hl_t h w (by decide) hR⟩
      · exact ⟨-100003, by rw [w.1]; exact List.mem_cons_of_mem _ List.mem_cons_self, hl_t h w (by decide) hR⟩
    · exact h.elim
def ct_L_graces (B : Nat) : fw_CTX := fun as M Q _ => match as with
  | [.ref a, .int x] => ctH B (opGrace x) (-100002) (0) a M Q
  | _ => False
theorem oc_graces {x : Int32} (Z : Zs) : ((opGrace x) Z).1 = 0 ∨ (((opGrace x) Z).1 = 1 ∧ ((opGrace x) Z).2.2 = Z) := by
  unfold opGrace
  split <;> (try split) <;> first | exact Or.inl rfl | exact Or.inr ⟨rfl, rfl⟩
abbrev rm_L_graces : Room := { frames := 7, cells := 1, slots := 6, locals := 170 }
theorem me_L_graces (l : Launch) (g : fw_G) (B : Nat) (htr : l.stackTraces = false) : fw_MetH l g B yL_graces cL_graces 3 (some .int) hL_graces rm_L_graces 1 6 (ct_L_graces B) := by
  refine fw_metH (own := RL) (ix := 96) (n := 1) (p0 := 2) (es := [("java/lang/IllegalArgumentException", -100002)]) (by decide +kernel) rfl kL_graces_ok kL_graces_cst (me_X5_setGrace l g B htr) wl_L_96 wi_X5_setGrace wv_X5_setGrace wz_RX5 wc_X5_setGrace rfl rfl (by decide +kernel) (by decide) (by decide +kernel) ?_ ?_
  · intro E k hk
    simp only [List.mem_cons, List.not_mem_nil, or_false, Prod.mk.injEq] at hk
    rcases hk with ⟨rfl, rfl⟩
    · exact ⟨6, ⟨[], ⟨0, 5, 6, 83⟩, [], rfl, by decide, by decide, rfl, wq_L_83, xw_A, fun z hz => nomatch hz⟩, fun Q q M1 h => ⟨20, h⟩⟩
  · intro as M Q QX h
    unfold ct_L_graces at h
    split at h
    · rename_i a x
      obtain ⟨rfl, Z, hR, hK, h⟩ := h
      refine ⟨rfl, a, [.int x], [], kB, rfl, Nat.le_of_ble_eq_true rfl, ⟨30, ⟨rfl, rfl, rfl⟩⟩, ⟨rfl, Z, hR, hK.1, hK.2, fun e M1 r f => ⟨30, hl_n h e r f⟩, fun e => ?_⟩⟩
      rcases oc_graces Z with w | w
      · exact absurd w e
      · exact ⟨-100002, by rw [w.1]; exact List.mem_cons_self, hl_t h w (by decide) hR⟩
    · exact h.elim
def ct_L_dropsOf (B : Nat) : fw_CTX := fun as M Q _ => match as with
  | [.ref a, .int x] => ctH B (opDrop x) (-100001) (0) a M Q
  | _ => False
theorem oc_dropsOf {x : Int32} (Z : Zs) : ((opDrop x) Z).1 = 0 ∨ (((opDrop x) Z).1 = 1 ∧ ((opDrop x) Z).2.2 = Z) := by
  unfold opDrop
  split <;> (try split) <;> first | exact Or.inl rfl | exact Or.inr ⟨rfl, rfl⟩
abbrev rm_L_dropsOf : Room := { frames := 7, cells := 1, slots := 6, locals := 171 }
theorem me_L_dropsOf (l : Launch) (g : fw_G) (B : Nat) (htr : l.stackTraces = false) : fw_MetH l g B yL_dropsOf cL_dropsOf 3 (some .int) hL_dropsOf rm_L_dropsOf 1 6 (ct_L_dropsOf B) := by
  refine fw_metH (own := RL) (ix := 99) (n := 1) (p0 := 2) (es := [("java/lang/IndexOutOfBoundsException", -100001)]) (by decide +kernel) rfl kL_dropsOf_ok kL_dropsOf_cst (me_X5_drop l g B htr) wl_L_99 wi_X5_drop wv_X5_drop wz_RX5 wc_X5_drop rfl rfl (by decide +kernel) (by decide) (by decide +kernel) ?_ ?_
  · intro E k hk
    simp only [List.mem_cons, List.not_mem_nil, or_false, Prod.mk.injEq] at hk
    rcases hk with ⟨rfl, rfl⟩
    · exact ⟨6, ⟨[], ⟨0, 5, 6, 90⟩, [], rfl, by decide, by decide, rfl, wq_L_90, xw_I, fun z hz => nomatch hz⟩, fun Q q M1 h => ⟨20, h⟩⟩
  · intro as M Q QX h
    unfold ct_L_dropsOf at h
    split at h
    · rename_i a x
      obtain ⟨rfl, Z, hR, hK, h⟩ := h
      refine ⟨rfl, a, [.int x], [], kB, rfl, Nat.le_of_ble_eq_true rfl, ⟨30, ⟨rfl, rfl, rfl⟩⟩, ⟨rfl, Z, hR, hK.1, hK.2, fun e M1 r f => ⟨30, hl_n h e r f⟩, fun e => ?_⟩⟩
      rcases oc_dropsOf Z with w | w
      · exact absurd w e
      · exact ⟨-100001, by rw [w.1]; exact List.mem_cons_self, hl_t h w (by decide) hR⟩
    · exact h.elim
def ct_L_runs (B : Nat) : fw_CTX := fun as M Q _ => match as with
  | [.ref a, .int x] => ctH B (opRun x) (-100002) (-100003) a M Q
  | _ => False
theorem oc_runs {x : Int32} (Z : Zs) : ((opRun x) Z).1 = 0 ∨ (((opRun x) Z).1 = 1 ∧ ((opRun x) Z).2.2 = Z) ∨ (((opRun x) Z).1 = 2 ∧ ((opRun x) Z).2.2 = Z) := by
  unfold opRun
  split <;> (try split) <;> first | exact Or.inl rfl | exact Or.inr (Or.inl ⟨rfl, rfl⟩) | exact Or.inr (Or.inr ⟨rfl, rfl⟩)
abbrev rm_L_runs : Room := { frames := 7, cells := 1, slots := 6, locals := 170 }
theorem me_L_runs (l : Launch) (g : fw_G) (B : Nat) (htr : l.stackTraces = false) : fw_MetH l g B yL_runs cL_runs 3 (some .int) hL_runs rm_L_runs 1 6 (ct_L_runs B) := by
  refine fw_metH (own := RL) (ix := 102) (n := 1) (p0 := 2) (es := [("java/lang/IllegalArgumentException", -100002), ("java/lang/IllegalStateException", -100003)]) (by decide +kernel) rfl kL_runs_ok kL_runs_cst (me_X5_run l g B htr) wl_L_102 wi_X5_run wv_X5_run wz_RX5 wc_X5_run rfl rfl (by decide +kernel) (by decide) (by decide +kernel) ?_ ?_
  · intro E k hk
    simp only [List.mem_cons, List.not_mem_nil, or_false, Prod.mk.injEq] at hk
    rcases hk with ⟨rfl, rfl⟩ | ⟨rfl, rfl⟩
    · exact ⟨6, ⟨[], ⟨0, 5, 6, 83⟩, [⟨0, 5, 10, 85⟩], rfl, by decide, by decide, rfl, wq_L_83, xw_A, fun z hz => nomatch hz⟩, fun Q q M1 h => ⟨20, h⟩⟩
    · refine ⟨10, ⟨[⟨0, 5, 6, 83⟩], ⟨0, 5, 10, 85⟩, [], rfl, by decide, by decide, rfl, wq_L_85, xw_S, fun z hz => ?_⟩, fun Q q M1 h => ⟨20, h⟩⟩
      cases List.mem_singleton.mp hz
      exact ⟨by decide, "java/lang/IllegalArgumentException", wq_L_83, fun U h => h.1⟩
  · intro as M Q QX h
    unfold ct_L_runs at h
    split at h
    · rename_i a x
      obtain ⟨rfl, Z, hR, hK, h⟩ := h
      refine ⟨rfl, a, [.int x], [], kB, rfl, Nat.le_of_ble_eq_true rfl, ⟨30, ⟨rfl, rfl, rfl⟩⟩, ⟨rfl, Z, hR, hK.1, hK.2, fun e M1 r f => ⟨30, hl_n h e r f⟩, fun e => ?_⟩⟩
      rcases oc_runs Z with w | w | w
      · exact absurd w e
      · exact ⟨-100002, by rw [w.1]; exact List.mem_cons_self, hl_t h w (by decide) hR⟩
      · exact ⟨-100003, by rw [w.1]; exact List.mem_cons_of_mem _ List.mem_cons_self, hl_t h w (by decide) hR⟩
    · exact h.elim
def ct_L_valueOf (B : Nat) : fw_CTX := fun as M Q _ => match as with
  | [.ref a, .int x] => ctH B (opValue x) (-100002) (0) a M Q
  | _ => False
theorem oc_valueOf {x : Int32} (Z : Zs) : ((opValue x) Z).1 = 0 ∨ (((opValue x) Z).1 = 1 ∧ ((opValue x) Z).2.2 = Z) := by
  unfold opValue
  split <;> (try split) <;> first | exact Or.inl rfl | exact Or.inr ⟨rfl, rfl⟩
abbrev rm_L_valueOf : Room := { frames := 7, cells := 1, slots := 6, locals := 102 }
theorem me_L_valueOf (l : Launch) (g : fw_G) (B : Nat) (htr : l.stackTraces = false) : fw_MetH l g B yL_valueOf cL_valueOf 3 (some .int) hL_valueOf rm_L_valueOf 1 6 (ct_L_valueOf B) := by
  refine fw_metH (own := RL) (ix := 105) (n := 1) (p0 := 2) (es := [("java/lang/IllegalArgumentException", -100002)]) (by decide +kernel) rfl kL_valueOf_ok kL_valueOf_cst (me_X5_value l g B htr) wl_L_105 wi_X5_value wv_X5_value wz_RX5 wc_X5_value rfl rfl (by decide +kernel) (by decide) (by decide +kernel) ?_ ?_
  · intro E k hk
    simp only [List.mem_cons, List.not_mem_nil, or_false, Prod.mk.injEq] at hk
    rcases hk with ⟨rfl, rfl⟩
    · exact ⟨6, ⟨[], ⟨0, 5, 6, 83⟩, [], rfl, by decide, by decide, rfl, wq_L_83, xw_A, fun z hz => nomatch hz⟩, fun Q q M1 h => ⟨20, h⟩⟩
  · intro as M Q QX h
    unfold ct_L_valueOf at h
    split at h
    · rename_i a x
      obtain ⟨rfl, Z, hR, hK, h⟩ := h
      refine ⟨rfl, a, [.int x], [], kB, rfl, Nat.le_of_ble_eq_true rfl, ⟨30, ⟨rfl, rfl, rfl⟩⟩, ⟨rfl, Z, hR, hK.1, hK.2, fun e M1 r f => ⟨30, hl_n h e r f⟩, fun e => ?_⟩⟩
      rcases oc_valueOf Z with w | w
      · exact absurd w e
      · exact ⟨-100002, by rw [w.1]; exact List.mem_cons_self, hl_t h w (by decide) hR⟩
    · exact h.elim
def ct_L_courierOf (B : Nat) : fw_CTX := fun as M Q _ => match as with
  | [.ref a, .int x, .int y] => ctH B (opCourier x y) (-100001) (-100002) a M Q
  | _ => False
theorem oc_courierOf {x y : Int32} (Z : Zs) : ((opCourier x y) Z).1 = 0 ∨ (((opCourier x y) Z).1 = 1 ∧ ((opCourier x y) Z).2.2 = Z) ∨ (((opCourier x y) Z).1 = 2 ∧ ((opCourier x y) Z).2.2 = Z) := by
  unfold opCourier
  split <;> (try split) <;> first | exact Or.inl rfl | exact Or.inr (Or.inl ⟨rfl, rfl⟩) | exact Or.inr (Or.inr ⟨rfl, rfl⟩)
abbrev rm_L_courierOf : Room := { frames := 7, cells := 1, slots := 6, locals := 112 }
theorem me_L_courierOf (l : Launch) (g : fw_G) (B : Nat) (htr : l.stackTraces = false) : fw_MetH l g B yL_courierOf cL_courierOf 4 (some .int) hL_courierOf rm_L_courierOf 1 6 (ct_L_courierOf B) := by
  refine fw_metH (own := RL) (ix := 108) (n := 2) (p0 := 3) (es := [("java/lang/IndexOutOfBoundsException", -100001), ("java/lang/IllegalArgumentException", -100002)]) (by decide +kernel) rfl kL_courierOf_ok kL_courierOf_cst (me_X5_courier l g B htr) wl_L_108 wi_X5_courier wv_X5_courier wz_RX5 wc_X5_courier rfl rfl (by decide +kernel) (by decide) (by decide +kernel) ?_ ?_
  · intro E k hk
    simp only [List.mem_cons, List.not_mem_nil, or_false, Prod.mk.injEq] at hk
    rcases hk with ⟨rfl, rfl⟩ | ⟨rfl, rfl⟩
    · exact ⟨7, ⟨[], ⟨0, 6, 7, 90⟩, [⟨0, 6, 11, 83⟩], rfl, by decide, by decide, rfl, wq_L_90, xw_I, fun z hz => nomatch hz⟩, fun Q q M1 h => ⟨20, h⟩⟩
    · refine ⟨11, ⟨[⟨0, 6, 7, 90⟩], ⟨0, 6, 11, 83⟩, [], rfl, by decide, by decide, rfl, wq_L_83, xw_A, fun z hz => ?_⟩, fun Q q M1 h => ⟨20, h⟩⟩
      cases List.mem_singleton.mp hz
      exact ⟨by decide, "java/lang/IndexOutOfBoundsException", wq_L_90, fun U h => h.2⟩
  · intro as M Q QX h
    unfold ct_L_courierOf at h
    split at h
    · rename_i a x y
      obtain ⟨rfl, Z, hR, hK, h⟩ := h
      refine ⟨rfl, a, [.int x, .int y], [], kB, rfl, Nat.le_of_ble_eq_true rfl, ⟨30, ⟨rfl, rfl, rfl⟩⟩, ⟨rfl, Z, hR, hK.1, hK.2, fun e M1 r f => ⟨30, hl_n h e r f⟩, fun e => ?_⟩⟩
      rcases oc_courierOf Z with w | w | w
      · exact absurd w e
      · exact ⟨-100001, by rw [w.1]; exact List.mem_cons_self, hl_t h w (by decide) hR⟩
      · exact ⟨-100002, by rw [w.1]; exact List.mem_cons_of_mem _ List.mem_cons_self, hl_t h w (by decide) hR⟩
    · exact h.elim
def ct_L_parcelOf (B : Nat) : fw_CTX := fun as M Q _ => match as with
  | [.ref a, .int x, .int y] => ctH B (opParcel x y) (-100001) (-100002) a M Q
  | _ => False
theorem oc_parcelOf {x y : Int32} (Z : Zs) : ((opParcel x y) Z).1 = 0 ∨ (((opParcel x y) Z).1 = 1 ∧ ((opParcel x y) Z).2.2 = Z) ∨ (((opParcel x y) Z).1 = 2 ∧ ((opParcel x y) Z).2.2 = Z) := by
  unfold opParcel
  split <;> (try split) <;> first | exact Or.inl rfl | exact Or.inr (Or.inl ⟨rfl, rfl⟩) | exact Or.inr (Or.inr ⟨rfl, rfl⟩)
abbrev rm_L_parcelOf : Room := { frames := 7, cells := 1, slots := 6, locals := 104 }
theorem me_L_parcelOf (l : Launch) (g : fw_G) (B : Nat) (htr : l.stackTraces = false) : fw_MetH l g B yL_parcelOf cL_parcelOf 4 (some .int) hL_parcelOf rm_L_parcelOf 1 6 (ct_L_parcelOf B) := by
  refine fw_metH (own := RL) (ix := 111) (n := 2) (p0 := 3) (es := [("java/lang/IndexOutOfBoundsException", -100001), ("java/lang/IllegalArgumentException", -100002)]) (by decide +kernel) rfl kL_parcelOf_ok kL_parcelOf_cst (me_X5_parcel l g B htr) wl_L_111 wi_X5_parcel wv_X5_parcel wz_RX5 wc_X5_parcel rfl rfl (by decide +kernel) (by decide) (by decide +kernel) ?_ ?_
  · intro E k hk
    simp only [List.mem_cons, List.not_mem_nil, or_false, Prod.mk.injEq] at hk
    rcases hk with ⟨rfl, rfl⟩ | ⟨rfl, rfl⟩
    · exact ⟨7, ⟨[], ⟨0, 6, 7, 90⟩, [⟨0, 6, 11, 83⟩], rfl, by decide, by decide, rfl, wq_L_90, xw_I, fun z hz => nomatch hz⟩, fun Q q M1 h => ⟨20, h⟩⟩
    · refine ⟨11, ⟨[⟨0, 6, 7, 90⟩], ⟨0, 6, 11, 83⟩, [], rfl, by decide, by decide, rfl, wq_L_83, xw_A, fun z hz => ?_⟩, fun Q q M1 h => ⟨20, h⟩⟩
      cases List.mem_singleton.mp hz
      exact ⟨by decide, "java/lang/IndexOutOfBoundsException", wq_L_90, fun U h => h.2⟩
  · intro as M Q QX h
    unfold ct_L_parcelOf at h
    split at h
    · rename_i a x y
      obtain ⟨rfl, Z, hR, hK, h⟩ := h
      refine ⟨rfl, a, [.int x, .int y], [], kB, rfl, Nat.le_of_ble_eq_true rfl, ⟨30, ⟨rfl, rfl, rfl⟩⟩, ⟨rfl, Z, hR, hK.1, hK.2, fun e M1 r f => ⟨30, hl_n h e r f⟩, fun e => ?_⟩⟩
      rcases oc_parcelOf Z with w | w | w
      · exact absurd w e
      · exact ⟨-100001, by rw [w.1]; exact List.mem_cons_self, hl_t h w (by decide) hR⟩
      · exact ⟨-100002, by rw [w.1]; exact List.mem_cons_of_mem _ List.mem_cons_self, hl_t h w (by decide) hR⟩
    · exact h.elim
def ct_L_legsOf (B : Nat) : fw_CTX := fun as M Q _ => match as with
  | [.ref a, .int x, .int y, .int z] => ctH B (opLegs x y z) (-100001) (0) a M Q
  | _ => False
theorem oc_legsOf {x y z : Int32} (Z : Zs) : ((opLegs x y z) Z).1 = 0 ∨ (((opLegs x y z) Z).1 = 1 ∧ ((opLegs x y z) Z).2.2 = Z) := by
  unfold opLegs
  split <;> (try split) <;> first | exact Or.inl rfl | exact Or.inr ⟨rfl, rfl⟩
abbrev rm_L_legsOf : Room := { frames := 7, cells := 1, slots := 6, locals := 105 }
theorem me_L_legsOf (l : Launch) (g : fw_G) (B : Nat) (htr : l.stackTraces = false) : fw_MetH l g B yL_legsOf cL_legsOf 5 (some .int) hL_legsOf rm_L_legsOf 1 6 (ct_L_legsOf B) := by
  refine fw_metH (own := RL) (ix := 114) (n := 3) (p0 := 4) (es := [("java/lang/IndexOutOfBoundsException", -100001)]) (by decide +kernel) rfl kL_legsOf_ok kL_legsOf_cst (me_X5_legs l g B htr) wl_L_114 wi_X5_legs wv_X5_legs wz_RX5 wc_X5_legs rfl rfl (by decide +kernel) (by decide) (by decide +kernel) ?_ ?_
  · intro E k hk
    simp only [List.mem_cons, List.not_mem_nil, or_false, Prod.mk.injEq] at hk
    rcases hk with ⟨rfl, rfl⟩
    · exact ⟨8, ⟨[], ⟨0, 7, 8, 90⟩, [], rfl, by decide, by decide, rfl, wq_L_90, xw_I, fun z hz => nomatch hz⟩, fun Q q M1 h => ⟨20, h⟩⟩
  · intro as M Q QX h
    unfold ct_L_legsOf at h
    split at h
    · rename_i a x y z
      obtain ⟨rfl, Z, hR, hK, h⟩ := h
      refine ⟨rfl, a, [.int x, .int y, .int z], [], kB, rfl, Nat.le_of_ble_eq_true rfl, ⟨30, ⟨rfl, rfl, rfl⟩⟩, ⟨rfl, Z, hR, hK.1, hK.2, fun e M1 r f => ⟨30, hl_n h e r f⟩, fun e => ?_⟩⟩
      rcases oc_legsOf Z with w | w
      · exact absurd w e
      · exact ⟨-100001, by rw [w.1]; exact List.mem_cons_self, hl_t h w (by decide) hR⟩
    · exact h.elim
def ct_L_farOf (B : Nat) : fw_CTX := fun as M Q _ => match as with
  | [.ref a, .int x, .int y] => ctH B (opDist x y) (-100001) (0) a M Q
  | _ => False
theorem oc_farOf {x y : Int32} (Z : Zs) : ((opDist x y) Z).1 = 0 ∨ (((opDist x y) Z).1 = 1 ∧ ((opDist x y) Z).2.2 = Z) := by
  unfold opDist
  split <;> (try split) <;> first | exact Or.inl rfl | exact Or.inr ⟨rfl, rfl⟩
abbrev rm_L_farOf : Room := { frames := 7, cells := 1, slots := 6, locals := 103 }
theorem me_L_farOf (l : Launch) (g : fw_G) (B : Nat) (htr : l.stackTraces = false) : fw_MetH l g B yL_farOf cL_farOf 4 (some .int) hL_farOf rm_L_farOf 1 6 (ct_L_farOf B) := by
  refine fw_metH (own := RL) (ix := 118) (n := 2) (p0 := 3) (es := [("java/lang/IndexOutOfBoundsException", -100001)]) (by decide +kernel) rfl kL_farOf_ok kL_farOf_cst (me_X5_distance l g B htr) wl_L_118 wi_X5_distance wv_X5_distance wz_RX5 wc_X5_distance rfl rfl (by decide +kernel) (by decide) (by decide +kernel) ?_ ?_
  · intro E k hk
    simp only [List.mem_cons, List.not_mem_nil, or_false, Prod.mk.injEq] at hk
    rcases hk with ⟨rfl, rfl⟩
    · exact ⟨7, ⟨[], ⟨0, 6, 7, 90⟩, [], rfl, by decide, by decide, rfl, wq_L_90, xw_I, fun z hz => nomatch hz⟩, fun Q q M1 h => ⟨20, h⟩⟩
  · intro as M Q QX h
    unfold ct_L_farOf at h
    split at h
    · rename_i a x y
      obtain ⟨rfl, Z, hR, hK, h⟩ := h
      refine ⟨rfl, a, [.int x, .int y], [], kB, rfl, Nat.le_of_ble_eq_true rfl, ⟨30, ⟨rfl, rfl, rfl⟩⟩, ⟨rfl, Z, hR, hK.1, hK.2, fun e M1 r f => ⟨30, hl_n h e r f⟩, fun e => ?_⟩⟩
      rcases oc_farOf Z with w | w
      · exact absurd w e
      · exact ⟨-100001, by rw [w.1]; exact List.mem_cons_self, hl_t h w (by decide) hR⟩
    · exact h.elim
end HL

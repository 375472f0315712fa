/-! THE WALKER IS SOUND: what it asks is enough over the machine -/
section SD
/-- a decoded row is as it says: lengths, numbers, targets, places of locals -/
def fw_lt (nL : Nat) (en : fw_Ent) : Bool := match en.2.2.1 with
  | .iconst n => Nat.beq en.2.1 1 && decide (Int32.ofInt n = en.2.2.2.1)
  | .bipush n => Nat.beq en.2.1 2 && decide ((Int8.ofInt n).toInt32 = en.2.2.2.1)
  | .sipush n => Nat.beq en.2.1 3 && decide ((Int16.ofInt n).toInt32 = en.2.2.2.1)
  | .ldc _ => Nat.beq en.2.1 2
  | .ldc_w _ => Nat.beq en.2.1 3
  | .ldc2_w _ => Nat.beq en.2.1 3
  | .dconst d => Nat.beq en.2.1 1 && decide (d = 1)
  | .iload _ => Nat.beq en.2.1 2
  | .aload _ => Nat.beq en.2.1 2
  | .lload _ => Nat.beq en.2.1 2
  | .dload _ => Nat.beq en.2.1 2
  | .istore_n k => Nat.beq en.2.1 1 && Nat.ble (k.val + 1) nL
  | .astore_n k => Nat.beq en.2.1 1 && Nat.ble (k.val + 1) nL
  | .istore k => Nat.beq en.2.1 2 && Nat.ble (k + 1) nL
  | .astore k => Nat.beq en.2.1 2 && Nat.ble (k + 1) nL
  | .lstore_n k => Nat.beq en.2.1 1 && Nat.ble (k.val + 2) nL
  | .dstore_n k => Nat.beq en.2.1 1 && Nat.ble (k.val + 2) nL
  | .lstore k => Nat.beq en.2.1 2 && Nat.ble (k + 2) nL
  | .dstore k => Nat.beq en.2.1 2 && Nat.ble (k + 2) nL
  | .iinc k n => Nat.beq en.2.1 3 && Nat.ble (k + 1) nL && decide (Int32.ofInt n = en.2.2.2.1)
  | .if_icmp _ off => Nat.beq en.2.1 3 && decide ((en.1 : Int) + off = (en.2.2.2.2 : Int))
  | .ifCond _ off => Nat.beq en.2.1 3 && decide ((en.1 : Int) + off = (en.2.2.2.2 : Int))
  | .ifnull off => Nat.beq en.2.1 3 && decide ((en.1 : Int) + off = (en.2.2.2.2 : Int))
  | .ifnonnull off => Nat.beq en.2.1 3 && decide ((en.1 : Int) + off = (en.2.2.2.2 : Int))
  | .goto off => Nat.beq en.2.1 3 && decide ((en.1 : Int) + off = (en.2.2.2.2 : Int))
  | .tableswitch d lo hi offs => decide ((offs.toList.length : Int) = hi - lo + 1) && decide (0 ≤ (en.1 : Int) + d) && offs.toList.all (fun o => decide (0 ≤ (en.1 : Int) + o))
  | .lookupswitch d ps => decide (0 ≤ (en.1 : Int) + d) && ps.toList.all (fun q => decide (0 ≤ (en.1 : Int) + q.2)) && (ps.toList.zip (ps.toList.drop 1)).all (fun q => decide (q.1.1 < q.2.1))
  | .getfield _ => Nat.beq en.2.1 3
  | .putfield _ => Nat.beq en.2.1 3
  | .invokevirtual _ => Nat.beq en.2.1 3
  | .invokestatic _ => Nat.beq en.2.1 3
  | .new _ => Nat.beq en.2.1 3
  | .invokespecial _ => Nat.beq en.2.1 3
  | _ => Nat.beq en.2.1 1
/-! locals as a list, over the machine's slots -/
def fw_as : Nat → fw_L → List (Nat × Value)
  | _, [] => []
  | k, none :: t => fw_as (k + 1) t
  | k, some v :: t => (k, v) :: fw_as (k + 1) t
def fw_lr (ls : fw_L) (la : Array Slot) (nL : Nat) : Prop := la.size = nL ∧ lv_wf la ∧ ∀ i v, fw_lg ls i = some v → la[i]? = some (.val v)
theorem fw_as_mem {ls : fw_L} {i : Nat} {v : Value} : ∀ {k : Nat}, fw_lg ls i = some v → (k + i, v) ∈ fw_as k ls := by
  induction ls generalizing i with
  | nil => intro k h; cases h
  | cons o t ih =>
    intro k h
    cases i with
    | zero =>
      have h : o = some v := h
      subst h
      exact List.mem_cons_self
    | succ i =>
      have h : fw_lg t i = some v := h
      have h2 := ih (k := k + 1) h
      rw [show k + 1 + i = k + (i + 1) by omega] at h2
      cases o with
      | none => exact h2
      | some w => exact List.mem_cons_of_mem _ h2
theorem fw_as_lg {ls : fw_L} {q : Nat × Value} : ∀ {k : Nat}, q ∈ fw_as k ls → ∃ i, q.1 = k + i ∧ fw_lg ls i = some q.2 := by
  induction ls with
  | nil => intro k h; cases h
  | cons o t ih =>
    intro k h
    cases o with
    | none =>
      obtain ⟨i, h1, h2⟩ := ih (k := k + 1) h
      exact ⟨i + 1, by omega, h2⟩
    | some w =>
      rcases List.mem_cons.mp h with h | h
      · subst h
        exact ⟨0, rfl, rfl⟩
      · obtain ⟨i, h1, h2⟩ := ih (k := k + 1) h
        exact ⟨i + 1, by omega, h2⟩
theorem fw_lr_has {ls : fw_L} {la : Array Slot} {nL : Nat} (h : fw_lr ls la nL) : lv_has la nL (fw_as 0 ls) := ⟨h.1, h.2.1, fun q hq => by
  obtain ⟨i, h1, h2⟩ := fw_as_lg hq
  rw [h1, Nat.zero_add]
  exact h.2.2 i _ h2⟩
theorem fw_lg_s1 {ls : fw_L} {v w : Value} : ∀ {i j : Nat}, fw_lg (fw_s1 ls i v) j = some w → (j = i ∧ w = v) ∨ (j ≠ i ∧ fw_lg ls j = some w ∧ ¬ (j + 1 = i ∧ w.category = 2)) := by
  induction ls with
  | nil => intro i j h; cases h
  | cons o t ih =>
    intro i j h
    match i, j, h with
    | 0, 0, h =>
      have h : some v = some w := h
      exact Or.inl ⟨rfl, (Option.some.inj h).symm⟩
    | 0, j + 1, h =>
      have h : fw_lg t j = some w := h
      exact Or.inr ⟨by omega, h, by omega⟩
    | 1, 0, h =>
      have h : (bif fw_c2 o then none else o) = some w := h
      cases hc : fw_c2 o with
      | true => rw [hc] at h; cases h
      | false =>
        rw [hc] at h
        have h : o = some w := h
        subst h
        refine Or.inr ⟨by omega, rfl, fun q => ?_⟩
        cases w <;> simp_all [fw_c2, Value.category]
    | 1, j + 1, h =>
      have h : fw_lg (fw_s1 t 0 v) j = some w := h
      rcases ih h with ⟨h1, h2⟩ | ⟨h1, h2, h3⟩
      · exact Or.inl ⟨by omega, h2⟩
      · exact Or.inr ⟨by omega, h2, by omega⟩
    | i + 2, 0, h =>
      have h : o = some w := h
      exact Or.inr ⟨by omega, h, by omega⟩
    | i + 2, j + 1, h =>
      have h : fw_lg (fw_s1 t (i + 1) v) j = some w := h
      rcases ih h with ⟨h1, h2⟩ | ⟨h1, h2, h3⟩
      · exact Or.inl ⟨by omega, h2⟩
      · exact Or.inr ⟨by omega, h2, by omega⟩
theorem fw_lg_s2 {v w : Value} : ∀ {ls : fw_L} {i j : Nat}, fw_lg (fw_s2 ls i v) j = some w → (j = i ∧ w = v) ∨ (j ≠ i ∧ j ≠ i + 1 ∧ fw_lg ls j = some w ∧ ¬ (j + 1 = i ∧ w.category = 2)) := by
  intro ls
  induction ls with
  | nil => intro i j h; cases h
  | cons o t ih =>
    intro i j h
    match i, j, h with
    | 0, j, h =>
      rcases t with _ | ⟨u, t⟩
      · cases h
      · match j, h with
        | 0, h =>
          have h : some v = some w := h
          exact Or.inl ⟨rfl, (Option.some.inj h).symm⟩
        | 1, h => cases h
        | j + 2, h =>
          have h : fw_lg t j = some w := h
          exact Or.inr ⟨by omega, by omega, h, by omega⟩
    | 1, 0, h =>
      have h : (bif fw_c2 o then none else o) = some w := by cases t <;> exact h
      cases hc : fw_c2 o with
      | true => rw [hc] at h; cases h
      | false =>
        rw [hc] at h
        have h : o = some w := h
        subst h
        refine Or.inr ⟨by omega, by omega, rfl, fun q => ?_⟩
        cases w <;> simp_all [fw_c2, Value.category]
    | 1, j + 1, h =>
      have h : fw_lg (fw_s2 t 0 v) j = some w := by cases t <;> exact h
      rcases ih h with ⟨h1, h2⟩ | ⟨h1, h1', h2, h3⟩
      · exact Or.inl ⟨by omega, h2⟩
      · exact Or.inr ⟨by omega, by omega, h2, by omega⟩
    | i + 2, 0, h =>
      have h : o = some w := by cases t <;> exact h
      exact Or.inr ⟨by omega, by omega, h, by omega⟩
    | i + 2, j + 1, h =>
      have h : fw_lg (fw_s2 t (i + 1) v) j = some w := by cases t <;> exact h
      rcases ih h with ⟨h1, h2⟩ | ⟨h1, h1', h2, h3⟩
      · exact Or.inl ⟨by omega, h2⟩
      · exact Or.inr ⟨by omega, by omega, h2, by omega⟩
theorem fw_lr_s1 {ls : fw_L} {la : Array Slot} {nL i : Nat} {v : Value} (h : lv_has la nL ((i, v) :: (fw_as 0 ls).filter (fun q => !(q.1 == i) && !(q.1 + 1 == i && q.2.category == 2)))) : fw_lr (fw_s1 ls i v) la nL := by
  refine ⟨h.1, h.2.1, fun j w hj => ?_⟩
  rcases fw_lg_s1 hj with ⟨rfl, rfl⟩ | ⟨h1, h2, h3⟩
  · exact h.2.2 (j, w) List.mem_cons_self
  · refine h.2.2 (j, w) (List.mem_cons_of_mem _ (List.mem_filter.mpr ⟨by have := fw_as_mem (k := 0) h2; rwa [Nat.zero_add] at this, ?_⟩))
    simp only [Bool.and_eq_true, Bool.not_eq_true', beq_eq_false_iff_ne, Bool.and_eq_false_iff]
    refine ⟨h1, ?_⟩
    by_cases q : j + 1 = i
    · exact Or.inr (fun z => h3 ⟨q, z⟩)
    · exact Or.inl q
theorem fw_lr_s2 {ls : fw_L} {la : Array Slot} {nL i : Nat} {v : Value} (h : lv_has la nL ((i, v) :: (fw_as 0 ls).filter (fun q => !(q.1 == i) && (!(q.1 == i + 1) && !(q.1 + 1 == i && q.2.category == 2))))) : fw_lr (fw_s2 ls i v) la nL := by
  refine ⟨h.1, h.2.1, fun j w hj => ?_⟩
  rcases fw_lg_s2 hj with ⟨rfl, rfl⟩ | ⟨h1, h1', h2, h3⟩
  · exact h.2.2 (j, w) List.mem_cons_self
  · refine h.2.2 (j, w) (List.mem_cons_of_mem _ (List.mem_filter.mpr ⟨by have := fw_as_mem (k := 0) h2; rwa [Nat.zero_add] at this, ?_⟩))
    simp only [Bool.and_eq_true, Bool.not_eq_true', beq_eq_false_iff_ne, Bool.and_eq_false_iff]
    refine ⟨h1, h1', ?_⟩
    by_cases q : j + 1 = i
    · exact Or.inr (fun z => h3 ⟨q, z⟩)
    · exact Or.inl q
theorem fw_lr_mk {ls : fw_L} {la : Array Slot} {nL : Nat} (h : fw_lr ls la nL) (bs : List Bool) : fw_lr (fw_mk bs ls) la nL := by
  have k : ∀ (bs : List Bool) (ls : fw_L) (i : Nat) (v : Value), fw_lg (fw_mk bs ls) i = some v → fw_lg ls i = some v := by
    intro bs
    induction bs with
    | nil => intro ls i v h; cases h
    | cons b bs ih =>
      intro ls i v h
      cases ls with
      | nil => cases h
      | cons o ls =>
        cases i with
        | zero =>
          have h : (bif b then o else none) = some v := h
          cases b with
          | true => exact h
          | false => cases h
        | succ i => exact ih ls i v h
  exact ⟨h.1, h.2.1, fun i v hi => h.2.2 i v (k bs ls i v hi)⟩
/-! lookups -/
theorem fw_find_mem {α : Type} {i : Nat} {L : List (Nat × α)} {x : α} (h : fw_find i L = some x) : (i, x) ∈ L := by
  induction L with
  | nil => cases h
  | cons q t ih =>
    unfold fw_find at h
    cases hb : Nat.beq q.1 i with
    | true =>
      rw [hb] at h
      have h : some q.2 = some x := h
      have e := Nat.eq_of_beq_eq_true hb
      rw [← Option.some.inj h, ← e]
      exact List.mem_cons_self
    | false =>
      rw [hb] at h
      exact List.mem_cons_of_mem _ (ih h)
theorem fw_findC_mem {i : Nat} {L : List fw_Cal} {x : Nat × Nat × Nat × Nat × fw_CT} (h : fw_findC i L = some x) : (i, x) ∈ L := by
  induction L with
  | nil => cases h
  | cons q t ih =>
    unfold fw_findC at h
    cases hb : Nat.beq q.1 i with
    | true =>
      rw [hb] at h
      have h : some q.2 = some x := h
      have e := Nat.eq_of_beq_eq_true hb
      rw [← Option.some.inj h, ← e]
      exact List.mem_cons_self
    | false =>
      rw [hb] at h
      exact List.mem_cons_of_mem _ (ih h)
/-! the tables of fields -/
theorem fw_cl_get : ∀ ci, ci < 6 → vwCl[ci]? = some (fw_cl ci) := by
  intro ci h
  match ci, h with
  | 0, _ => rfl
  | 1, _ => rfl
  | 2, _ => rfl
  | 3, _ => rfl
  | 4, _ => rfl
  | 5, _ => rfl
  | n + 6, h => omega
theorem fw_cl_n : ∀ ci, ci < 6 → (fw_cl ci).2.2 = fw_nf ci := by
  intro ci h
  match ci, h with
  | 0, _ => rfl
  | 1, _ => rfl
  | 2, _ => rfl
  | 3, _ => rfl
  | 4, _ => rfl
  | 5, _ => rfl
  | n + 6, h => omega
theorem fw_cl_w : ∀ ci, ci < 6 → ∀ w ∈ u_ws (fw_cl ci).1 (fw_cl ci).2.1 (fw_cl ci).2.2, w ∈ fw_LW := by
  intro ci h
  match ci, h with
  | 0, _ => exact wu_0
  | 1, _ => exact wu_1
  | 2, _ => exact wu_2
  | 3, _ => exact wu_3
  | 4, _ => exact wu_4
  | 5, _ => exact wu_5
  | n + 6, h => omega
def fw_ty : Nat → Nat → FieldType
  | 0 => tyX0
  | 1 => tyX1
  | 2 => tyX2
  | 3 => tyX3
  | 4 => tyX4
  | _ => tyX5
theorem fw_ty_ok : ∀ ci, ci < 6 → ∀ k, k < (fw_cl ci).2.2 → parseFieldDescriptor ((fw_cl ci).2.1 k).2.2.1 = some (fw_ty ci k) := by
  intro ci h
  match ci, h with
  | 0, _ => exact tyX0_ok
  | 1, _ => exact tyX1_ok
  | 2, _ => exact tyX2_ok
  | 3, _ => exact tyX3_ok
  | 4, _ => exact tyX4_ok
  | 5, _ => exact tyX5_ok
  | n + 6, h => omega
theorem fw_nm_ok : ∀ ci, ci < 6 → ∀ a, a < (fw_cl ci).2.2 → ∀ b, b < (fw_cl ci).2.2 → a ≠ b → ((fw_cl ci).2.1 a).2.1 ≠ ((fw_cl ci).2.1 b).2.1 := by
  intro ci h
  match ci, h with
  | 0, _ => exact nmX0
  | 1, _ => exact nmX1
  | 2, _ => exact nmX2
  | 3, _ => exact nmX3
  | 4, _ => exact nmX4
  | 5, _ => exact nmX5
  | n + 6, h => omega
theorem fw_c0 : ∀ ci, ci < 6 → ∀ k, k < fw_nf ci → fw_fc ci k = 0 → ((fw_cl ci).2.1 k).2.2.2 = false ∧ parseFieldDescriptor ((fw_cl ci).2.1 k).2.2.1 = some .int := by decide +kernel
def fw_Fld (own : String) (fld : List (Nat × Nat × Nat)) : Prop := ∀ q ∈ fld, q.2.1 < 6 ∧ q.2.2 < fw_nf q.2.1 ∧ ((fw_cl q.2.1).2.1 q.2.2).1 = (fw_cl q.2.1).1 ∧ Cond.fieldLink own q.1 (fw_cl q.2.1).1 ((fw_cl q.2.1).2.1 q.2.2).2.1 ((fw_cl q.2.1).2.1 q.2.2).2.2.1 ∈ fw_LW
end SD

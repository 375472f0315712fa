/-! SOUNDNESS of a step, of a stretch, of a body with loops -/
section SW
variable {p : Program} {l : Launch} {e : Env} {R : Room} {s : State} {m : MethodId} {args : Array Value} {below : List Frame} {meth : Method} {c : Code} {Qs : State → Prop} {cc : ByteArray} {nL B : Nat} {g : fw_G} {cf sf : Nat → Nat} {own : String}
variable {fld : List (Nat × Nat × Nat)} {cal : List fw_Cal} {thr : List (Nat × String)} {cst : List (Nat × Value)} {scr : Option (Nat × Nat × Option (Nat → Int32))} {rt : Option FieldType} {Q : Option Value → fw_M → Prop} {QX : String → fw_M → Prop}
def fw_Env (p : Program) (s : State) (m : MethodId) (args : Array Value) (c : Code) (cc : ByteArray) (nL : Nat) (g : fw_G) (own : String) : Prop :=
  p.tables.exec = Jvm.exec ∧ c.code = cc ∧ c.maxLocals = nL ∧ s.vm.findClass own = some m.cls ∧ (∀ w ∈ fw_LW, w.before args s = true) ∧ va_K g.1 vwCl (fw_tys g) s
/-- from here, with these locals, this stack, this memory, the machine comes to Qs -/
def fw_WW (p : Program) (l : Launch) (e : Env) (R : Room) (s : State) (m : MethodId) (args : Array Value) (below : List Frame) (meth : Method) (c : Code) (nL B : Nat) (g : fw_G) (cf sf : Nat → Nat) (Qs : State → Prop) (pc : Nat) (ls : fw_L) (st : List Value) (M : fw_M) : Prop :=
  ∀ (H : Heap) (locs : List Loc) (la : Array Slot), va_P g.1 vwCl (fw_WL g B M) H → va_S (fun q => B ≤ q) s.heap H locs → fw_lr ls la nL → W p l e R s m args below meth c H locs (cf M.2.2) (sf M.2.2) Qs (F0 m pc la st)
def fw_CallOK (p : Program) (l : Launch) (e : Env) (R : Room) (s : State) (m : MethodId) (args : Array Value) (below : List Frame) (meth : Method) (c : Code) (cc : ByteArray) (nL B : Nat) (g : fw_G) (cf sf : Nat → Nat) (Qs : State → Prop) (q : fw_Cal) : Prop :=
  ∀ (pc : Nat) (as rest : List Value) (M : fw_M) (ls : fw_L) (Qr : Option Value → fw_M → Prop),
    ((q.2.1 = 0 ∧ decode cc pc = .ok (.invokevirtual q.1, 3) ∧ ∃ b as', as = .ref b :: as' ∧ fw_kd B b = q.2.2.1) ∨ (q.2.1 = 1 ∧ decode cc pc = .ok (.invokestatic q.1, 3))) →
    as.length = q.2.2.2.1 → (rest.map fun v => v.category).sum ≤ 8 → q.2.2.2.2.2 as M Qr →
    (∀ r M', Qr r M' → fw_WW p l e R s m args below meth c nL B g cf sf Qs (pc + 3) ls (r.toList ++ rest) (fw_inc q.2.2.2.2.1 M M')) →
    fw_WW p l e R s m args below meth c nL B g cf sf Qs pc ls (as.reverse ++ rest) M
def fw_ThrOK (p : Program) (l : Launch) (e : Env) (R : Room) (s : State) (m : MethodId) (args : Array Value) (below : List Frame) (meth : Method) (c : Code) (cc : ByteArray) (nL B : Nat) (g : fw_G) (cf sf : Nat → Nat) (Qs : State → Prop) (QX : String → fw_M → Prop) (q : Nat × String) : Prop :=
  ∀ (pc : Nat) (ls : fw_L) (M : fw_M), decode cc pc = .ok (.new q.1, 3) → (decode cc (pc + 3) = .ok (.dup, 1) ∧ decode cc (pc + 4) = .ok (.invokespecial (q.1 + 2), 3) ∧ decode cc (pc + 7) = .ok (.athrow, 1)) → QX q.2 M → fw_WW p l e R s m args below meth c nL B g cf sf Qs pc ls [] M
def fw_RetOK (p : Program) (l : Launch) (e : Env) (R : Room) (s : State) (m : MethodId) (args : Array Value) (below : List Frame) (meth : Method) (c : Code) (cc : ByteArray) (nL B : Nat) (g : fw_G) (cf sf : Nat → Nat) (Qs : State → Prop) (rt : Option FieldType) (Q : Option Value → fw_M → Prop) : Prop :=
  ∀ (pc : Nat) (ls : fw_L) (st : List Value) (M : fw_M),
    (decode cc pc = .ok (.ireturn, 1) → fw_endi rt Q st M → fw_WW p l e R s m args below meth c nL B g cf sf Qs pc ls st M) ∧
    (decode cc pc = .ok (.areturn, 1) → fw_enda rt Q st M → fw_WW p l e R s m args below meth c nL B g cf sf Qs pc ls st M) ∧
    (decode cc pc = .ok (.lreturn, 1) → fw_endl rt Q st M → fw_WW p l e R s m args below meth c nL B g cf sf Qs pc ls st M) ∧
    (decode cc pc = .ok (.dreturn, 1) → fw_endd rt Q st M → fw_WW p l e R s m args below meth c nL B g cf sf Qs pc ls st M) ∧
    (decode cc pc = .ok (.return_, 1) → fw_endv rt Q st M → fw_WW p l e R s m args below meth c nL B g cf sf Qs pc ls st M)
def fw_NewOK (cc : ByteArray) (en : fw_Ent) : Prop := match en.2.2.1 with
  | .new k => decode cc (en.1 + 3) = .ok (.dup, 1) ∧ decode cc (en.1 + 4) = .ok (.invokespecial (k + 2), 3) ∧ decode cc (en.1 + 7) = .ok (.athrow, 1)
  | _ => True
def fw_ScrOK (s : State) (B : Nat) (g : fw_G) (scr : Option (Nat × Nat × Option (Nat → Int32))) : Prop := match scr with
  | none => True
  | some (b, L, some xs) => va_X b L xs s s.heap ∧ b < s.heap.size ∧ ¬ B ≤ b
  | some (b, L, none) => L = 4 ∧ ∃ n, g.2.2 = n + 1 ∧ b = B + 497 + n
/-- the constants of the code are the pool's -/
def fw_CstOK (own : String) (cst : List (Nat × Value)) (en : fw_Ent) : Prop := match en.2.2.1 with
  | .ldc i => Cond.constant own i en.2.2.2.1 ∈ fw_LW
  | .ldc_w i => Cond.constant own i en.2.2.2.1 ∈ fw_LW
  | .ldc2_w i => ∀ v, fw_find i cst = some (.long v) → Cond.constantLong own i v ∈ fw_LW
  | _ => True
theorem fw_and2 {a b : Bool} (h : (a && b) = true) : a = true ∧ b = true := by
  cases a <;> cases b <;> simp_all
theorem fw_call_ok {q : Nat × Nat × Nat × Nat × fw_CT} {i kind : Nat} {pc : Nat} {ls : fw_L} {st : List Value} {M : fw_M} {k : List Value → fw_M → Prop}
    (hcal : fw_CallOK p l e R s m args below meth c cc nL B g cf sf Qs (i, q)) (hd : (kind = 0 ∧ decode cc pc = .ok (.invokevirtual i, 3)) ∨ (kind = 1 ∧ decode cc pc = .ok (.invokestatic i, 3)))
    (hk : ∀ st M, k st M → fw_WW p l e R s m args below meth c nL B g cf sf Qs (pc + 3) ls st M) (h : fw_call B kind (some q) st M k) : fw_WW p l e R s m args below meth c nL B g cf sf Qs pc ls st M := by
  obtain ⟨kd, ci, n, inc, ct⟩ := q
  have h : (bif Nat.beq kd kind && Nat.ble n st.length && Nat.ble (((st.drop n).map fun v => v.category).sum) 8 then fw_rcv B kind ci (st.take n).reverse (fw_cti inc ct (st.take n).reverse M (fun r M' => k (r.toList ++ st.drop n) M')) else False) := h
  cases hb : (Nat.beq kd kind && Nat.ble n st.length && Nat.ble (((st.drop n).map fun v => v.category).sum) 8) with
  | false => rw [hb] at h; exact h.elim
  | true =>
    rw [hb] at h
    have h5 : fw_rcv B kind ci (st.take n).reverse (fw_cti inc ct (st.take n).reverse M (fun r M' => k (r.toList ++ st.drop n) M')) := h
    clear h
    obtain ⟨hb1, hb3⟩ := fw_and2 hb
    obtain ⟨hb1, hb2⟩ := fw_and2 hb1
    have e1 : kd = kind := Nat.eq_of_beq_eq_true hb1
    have e2 : n ≤ st.length := Nat.le_of_ble_eq_true hb2
    have e3 := Nat.le_of_ble_eq_true hb3
    have hst : st = ((st.take n).reverse).reverse ++ st.drop n := by rw [List.reverse_reverse, List.take_append_drop]
    have hlen : ((st.take n).reverse).length = n := by rw [List.length_reverse, List.length_take]; omega
    clear hb hb1 hb2 e2
    generalize st.drop n = rest at h5 e3 hst
    generalize (st.take n).reverse = as at h5 hst hlen
    subst hst
    rcases hd with ⟨rfl, hd⟩ | ⟨rfl, hd⟩
    · rcases as with _ | ⟨v, as'⟩
      · exact h5.elim
      · cases v <;> first | exact h5.elim | skip
        obtain ⟨hkd, h6⟩ := h5
        exact hcal pc _ rest M ls _ (Or.inl ⟨e1, hd, _, as', rfl, hkd⟩) hlen e3 (fw_cti_e h6) (fun r M' hq => hk _ _ hq)
    · exact hcal pc as rest M ls _ (Or.inr ⟨e1, hd⟩) hlen e3 (fw_cti_e (k := fun r M' => k (r.toList ++ rest) M') (by cases as <;> exact h5)) (fun r M' hq => hk _ _ hq)
theorem fw_tsw_in {x : Int32} {pc : Nat} {jp : Nat → Prop} : ∀ {offs : List Int} {lo : Int}, fw_tsw x pc jp offs lo → ∀ (j : Nat) (o : Int), offs[j]? = some o → x.toInt = lo + j → jp ((pc : Int) + o).toNat := by
  intro offs
  induction offs with
  | nil => intro lo h j o hj; cases hj
  | cons a t ih =>
    intro lo h j o hj hx
    cases j with
    | zero =>
      have hj : some a = some o := hj
      cases hj
      exact h.1 (by omega)
    | succ j => exact ih h.2 j o hj (by omega)
theorem fw_lsw_in {x : Int32} {jp : Int → Prop} {d : Int} : ∀ {ps : List (Int × Int)}, fw_lsw x jp d ps → jp (Op.lookupswitch.offset ps d x.toInt) ∧ (Op.lookupswitch.offset ps d x.toInt = d ∨ ∃ q ∈ ps, q.2 = Op.lookupswitch.offset ps d x.toInt) := by
  intro ps
  induction ps with
  | nil =>
    intro h
    exact ⟨h, Or.inl rfl⟩
  | cons q t ih =>
    intro h
    by_cases hq : x.toInt = q.1
    · have e : Op.lookupswitch.offset (q :: t) d x.toInt = q.2 := by
        rw [show q :: t = (q.1, q.2) :: t from rfl, Op.lookupswitch.offset_cons, if_pos hq.symm]
      rw [e]
      exact ⟨h.1 hq, Or.inr ⟨q, List.mem_cons_self, rfl⟩⟩
    · have e : Op.lookupswitch.offset (q :: t) d x.toInt = Op.lookupswitch.offset t d x.toInt := by
        rw [show q :: t = (q.1, q.2) :: t from rfl, Op.lookupswitch.offset_cons, if_neg (fun z => hq z.symm)]
      rw [e]
      obtain ⟨h1, h2⟩ := ih (h.2 hq)
      refine ⟨h1, ?_⟩
      rcases h2 with h2 | ⟨q', h2, h3⟩
      · exact Or.inl h2
      · exact Or.inr ⟨q', List.mem_cons_of_mem _ h2, h3⟩
set_option maxHeartbeats 4000000 in
set_option maxRecDepth 20000 in
theorem fw_stp_sound (E : fw_Env p s m args c cc nL g own) {en : fw_Ent} {ls : fw_L} {st : List Value} {M : fw_M} {nx : fw_L → List Value → fw_M → Prop} {jp : Nat → fw_L → List Value → fw_M → Prop}
    (hd : decode cc en.1 = .ok (en.2.2.1, en.2.1)) (ht : fw_lt nL en = true) (hfld : fw_Fld own fld) (hcst : fw_CstOK own cst en) (hnw : fw_NewOK cc en) (hscr : fw_ScrOK s B g scr)
    (hcal : ∀ q ∈ cal, fw_CallOK p l e R s m args below meth c cc nL B g cf sf Qs q) (hthr : ∀ q ∈ thr, fw_ThrOK p l e R s m args below meth c cc nL B g cf sf Qs QX q) (hret : fw_RetOK p l e R s m args below meth c cc nL B g cf sf Qs rt Q)
    (hnx : ∀ ls st M, nx ls st M → fw_WW p l e R s m args below meth c nL B g cf sf Qs (en.1 + en.2.1) ls st M) (hjp : ∀ t ls st M, jp t ls st M → fw_WW p l e R s m args below meth c nL B g cf sf Qs t ls st M)
    (h : fw_stp B fld cal thr cst scr rt Q QX en ls st M nx jp) : fw_WW p l e R s m args below meth c nL B g cf sf Qs en.1 ls st M := by
  obtain ⟨pc, len, i, num, tgt⟩ := en
  obtain ⟨hx, hb, hml, hown, hts, hK⟩ := E
  dsimp only at hd hnx ⊢
  cases i with
  | aconst_null =>
    have ht : Nat.beq len 1 = true := ht
    have hl9 := Nat.eq_of_beq_eq_true ht
    subst hl9
    intro H locs la hP hS hl
    exact lv_null hx hb hd (hnx _ _ _ h H locs la hP hS hl)
  | iconst n =>
    obtain ⟨ht, hv⟩ := fw_and2 ht
    have hl9 := Nat.eq_of_beq_eq_true ht
    dsimp only at hl9
    subst hl9
    have hv := of_decide_eq_true hv
    intro H locs la hP hS hl
    exact lv_iconst hx hb hd hv (hnx _ _ _ h H locs la hP hS hl)
  | bipush n =>
    obtain ⟨ht, hv⟩ := fw_and2 ht
    have hl9 := Nat.eq_of_beq_eq_true ht
    dsimp only at hl9
    subst hl9
    have hv := of_decide_eq_true hv
    intro H locs la hP hS hl
    exact lv_bipush hx hb hd hv (hnx _ _ _ h H locs la hP hS hl)
  | sipush n =>
    obtain ⟨ht, hv⟩ := fw_and2 ht
    have hl9 := Nat.eq_of_beq_eq_true ht
    dsimp only at hl9
    subst hl9
    have hv := of_decide_eq_true hv
    intro H locs la hP hS hl
    exact lv_sipush hx hb hd hv (hnx _ _ _ h H locs la hP hS hl)
  | ldc k =>
    have ht : Nat.beq len 2 = true := ht
    have hl9 := Nat.eq_of_beq_eq_true ht
    subst hl9
    intro H locs la hP hS hl
    exact lv_ldc hx hb hown (hts _ hcst) hd (hnx _ _ _ h H locs la hP hS hl)
  | ldc_w k =>
    have ht : Nat.beq len 3 = true := ht
    have hl9 := Nat.eq_of_beq_eq_true ht
    subst hl9
    intro H locs la hP hS hl
    exact lv_ldcw hx hb hown (hts _ hcst) hd (hnx _ _ _ h H locs la hP hS hl)
  | ldc2_w k =>
    have ht : Nat.beq len 3 = true := ht
    have hl9 := Nat.eq_of_beq_eq_true ht
    subst hl9
    have h : (match fw_find k cst with | some (.long v) => nx ls (.long v :: st) M | _ => False) := h
    split at h
    · rename_i v hv
      intro H locs la hP hS hl
      exact lv_ldc2 hx hb hown (hts _ (hcst v hv)) hd (hnx _ _ _ h H locs la hP hS hl)
    · exact h.elim
  | dconst d =>
    obtain ⟨ht, hv⟩ := fw_and2 ht
    have hl9 := Nat.eq_of_beq_eq_true ht
    dsimp only at hl9
    subst hl9
    have hv : d = 1 := of_decide_eq_true hv
    subst hv
    intro H locs la hP hS hl
    exact lv_dconst1 hx hb hd (hnx _ _ _ h H locs la hP hS hl)
  | iload_n k =>
    have ht : Nat.beq len 1 = true := ht
    have hl9 := Nat.eq_of_beq_eq_true ht
    subst hl9
    obtain ⟨x, hx1, h⟩ := fw_li_e h
    intro H locs la hP hS hl
    exact lv_iload_n hx hb hd rfl (hl.2.2 _ _ hx1) (hnx _ _ _ h H locs la hP hS hl)
  | iload k =>
    have ht : Nat.beq len 2 = true := ht
    have hl9 := Nat.eq_of_beq_eq_true ht
    subst hl9
    obtain ⟨x, hx1, h⟩ := fw_li_e h
    intro H locs la hP hS hl
    exact lv_iload hx hb hd (hl.2.2 _ _ hx1) (hnx _ _ _ h H locs la hP hS hl)
  | lload_n k =>
    have ht : Nat.beq len 1 = true := ht
    have hl9 := Nat.eq_of_beq_eq_true ht
    subst hl9
    obtain ⟨x, hx1, h⟩ := fw_lo64_e h
    intro H locs la hP hS hl
    exact lv_lload_n hx hb hd rfl (hl.2.2 _ _ hx1) (hnx _ _ _ h H locs la hP hS hl)
  | lload k =>
    have ht : Nat.beq len 2 = true := ht
    have hl9 := Nat.eq_of_beq_eq_true ht
    subst hl9
    obtain ⟨x, hx1, h⟩ := fw_lo64_e h
    intro H locs la hP hS hl
    exact lv_lload hx hb hd (hl.2.2 _ _ hx1) (hnx _ _ _ h H locs la hP hS hl)
  | dload_n k =>
    have ht : Nat.beq len 1 = true := ht
    have hl9 := Nat.eq_of_beq_eq_true ht
    subst hl9
    obtain ⟨x, hx1, h⟩ := fw_ld64_e h
    intro H locs la hP hS hl
    exact lv_dload_n hx hb hd rfl (hl.2.2 _ _ hx1) (hnx _ _ _ h H locs la hP hS hl)
  | dload k =>
    have ht : Nat.beq len 2 = true := ht
    have hl9 := Nat.eq_of_beq_eq_true ht
    subst hl9
    obtain ⟨x, hx1, h⟩ := fw_ld64_e h
    intro H locs la hP hS hl
    exact lv_dload hx hb hd (hl.2.2 _ _ hx1) (hnx _ _ _ h H locs la hP hS hl)
  | aload_n k =>
    have ht : Nat.beq len 1 = true := ht
    have hl9 := Nat.eq_of_beq_eq_true ht
    subst hl9
    have h : fw_la (fw_lg ls k.val) (fun x => nx ls (x :: st) M) := h
    rcases fw_la_e h with ⟨x, hx1, h⟩ | ⟨hx1, h⟩
    · intro H locs la hP hS hl
      exact lv_aload_n hx hb hd rfl (hl.2.2 _ _ hx1) (hnx _ _ _ h H locs la hP hS hl)
    · intro H locs la hP hS hl
      exact lv_aload_nN hx hb hd rfl (hl.2.2 _ _ hx1) (hnx _ _ _ h H locs la hP hS hl)
  | aload k =>
    have ht : Nat.beq len 2 = true := ht
    have hl9 := Nat.eq_of_beq_eq_true ht
    subst hl9
    have h : fw_la (fw_lg ls k) (fun x => nx ls (x :: st) M) := h
    rcases fw_la_e h with ⟨x, hx1, h⟩ | ⟨hx1, h⟩
    · intro H locs la hP hS hl
      exact lv_aload hx hb hd (hl.2.2 _ _ hx1) (hnx _ _ _ h H locs la hP hS hl)
    · intro H locs la hP hS hl
      exact lv_aloadN hx hb hd (hl.2.2 _ _ hx1) (hnx _ _ _ h H locs la hP hS hl)
  | istore_n k =>
    obtain ⟨ht, hk⟩ := fw_and2 ht
    have hl9 := Nat.eq_of_beq_eq_true ht
    dsimp only at hl9
    subst hl9
    have hk := Nat.le_of_ble_eq_true hk
    obtain ⟨x, r, rfl, h⟩ := fw_i_e h
    intro H locs la hP hS hl
    exact lv_istore_n hx hb hd rfl (fw_lr_has hl) (by omega) rfl (fun la hl => hnx _ _ _ h H locs la hP hS (fw_lr_s1 hl))
  | istore k =>
    obtain ⟨ht, hk⟩ := fw_and2 ht
    have hl9 := Nat.eq_of_beq_eq_true ht
    dsimp only at hl9
    subst hl9
    have hk := Nat.le_of_ble_eq_true hk
    obtain ⟨x, r, rfl, h⟩ := fw_i_e h
    intro H locs la hP hS hl
    exact lv_istore hx hb hd (fw_lr_has hl) (by omega) rfl (fun la hl => hnx _ _ _ h H locs la hP hS (fw_lr_s1 hl))
  | lstore_n k =>
    obtain ⟨ht, hk⟩ := fw_and2 ht
    have hl9 := Nat.eq_of_beq_eq_true ht
    dsimp only at hl9
    subst hl9
    have hk := Nat.le_of_ble_eq_true hk
    obtain ⟨x, r, rfl, h⟩ := fw_l_e h
    intro H locs la hP hS hl
    exact lv_lstore_n hx hb hd rfl (fw_lr_has hl) (by omega) rfl (fun la hl => hnx _ _ _ h H locs la hP hS (fw_lr_s2 hl))
  | lstore k =>
    obtain ⟨ht, hk⟩ := fw_and2 ht
    have hl9 := Nat.eq_of_beq_eq_true ht
    dsimp only at hl9
    subst hl9
    have hk := Nat.le_of_ble_eq_true hk
    obtain ⟨x, r, rfl, h⟩ := fw_l_e h
    intro H locs la hP hS hl
    exact lv_lstore hx hb hd (fw_lr_has hl) (by omega) rfl (fun la hl => hnx _ _ _ h H locs la hP hS (fw_lr_s2 hl))
  | dstore_n k =>
    obtain ⟨ht, hk⟩ := fw_and2 ht
    have hl9 := Nat.eq_of_beq_eq_true ht
    dsimp only at hl9
    subst hl9
    have hk := Nat.le_of_ble_eq_true hk
    obtain ⟨x, r, rfl, h⟩ := fw_d_e h
    intro H locs la hP hS hl
    exact lv_dstore_n hx hb hd rfl (fw_lr_has hl) (by omega) rfl (fun la hl => hnx _ _ _ h H locs la hP hS (fw_lr_s2 hl))
  | dstore k =>
    obtain ⟨ht, hk⟩ := fw_and2 ht
    have hl9 := Nat.eq_of_beq_eq_true ht
    dsimp only at hl9
    subst hl9
    have hk := Nat.le_of_ble_eq_true hk
    obtain ⟨x, r, rfl, h⟩ := fw_d_e h
    intro H locs la hP hS hl
    exact lv_dstore hx hb hd (fw_lr_has hl) (by omega) rfl (fun la hl => hnx _ _ _ h H locs la hP hS (fw_lr_s2 hl))
  | astore_n k =>
    obtain ⟨ht, hk⟩ := fw_and2 ht
    have hl9 := Nat.eq_of_beq_eq_true ht
    dsimp only at hl9
    subst hl9
    have hk := Nat.le_of_ble_eq_true hk
    have h : fw_a st (fun x r => nx (fw_s1 ls k.val x) r M) (fun r => nx (fw_s1 ls k.val .null) r M) := h
    rcases fw_a_e h with ⟨x, r, rfl, h⟩ | ⟨r, rfl, h⟩
    · intro H locs la hP hS hl
      exact lv_astore_n hx hb hd rfl (fw_lr_has hl) (by omega) rfl (fun la hl => hnx _ _ _ h H locs la hP hS (fw_lr_s1 hl))
    · intro H locs la hP hS hl
      exact lv_astore_nN hx hb hd rfl (fw_lr_has hl) (by omega) rfl (fun la hl => hnx _ _ _ h H locs la hP hS (fw_lr_s1 hl))
  | astore k =>
    obtain ⟨ht, hk⟩ := fw_and2 ht
    have hl9 := Nat.eq_of_beq_eq_true ht
    dsimp only at hl9
    subst hl9
    have hk := Nat.le_of_ble_eq_true hk
    have h : fw_a st (fun x r => nx (fw_s1 ls k x) r M) (fun r => nx (fw_s1 ls k .null) r M) := h
    rcases fw_a_e h with ⟨x, r, rfl, h⟩ | ⟨r, rfl, h⟩
    · intro H locs la hP hS hl
      exact lv_astore hx hb hd (fw_lr_has hl) (by omega) rfl (fun la hl => hnx _ _ _ h H locs la hP hS (fw_lr_s1 hl))
    · intro H locs la hP hS hl
      exact lv_astoreN hx hb hd (fw_lr_has hl) (by omega) rfl (fun la hl => hnx _ _ _ h H locs la hP hS (fw_lr_s1 hl))
  | iinc k n =>
    obtain ⟨ht, hv⟩ := fw_and2 ht
    obtain ⟨ht, hk⟩ := fw_and2 ht
    have hl9 := Nat.eq_of_beq_eq_true ht
    dsimp only at hl9
    subst hl9
    have hk := Nat.le_of_ble_eq_true hk
    have hv : Int32.ofInt n = num := of_decide_eq_true hv
    obtain ⟨x, hx1, h⟩ := fw_li_e h
    intro H locs la hP hS hl
    have hm := fw_as_mem (k := 0) hx1
    rw [Nat.zero_add] at hm
    obtain ⟨j, hj⟩ := List.getElem?_of_mem hm
    exact lv_iinc hx hb hd (fw_lr_has hl) hj (by rw [hv]) (by omega) rfl (fun la hl => hnx _ _ _ h H locs la hP hS (fw_lr_s1 hl))
  | iadd =>
    have ht : Nat.beq len 1 = true := ht
    have hl9 := Nat.eq_of_beq_eq_true ht
    subst hl9
    obtain ⟨x, y, r, rfl, h⟩ := fw_ii_e h
    intro H locs la hP hS hl
    exact lv_iadd hx hb hd (hnx _ _ _ h H locs la hP hS hl)
  | isub =>
    have ht : Nat.beq len 1 = true := ht
    have hl9 := Nat.eq_of_beq_eq_true ht
    subst hl9
    obtain ⟨x, y, r, rfl, h⟩ := fw_ii_e h
    intro H locs la hP hS hl
    exact lv_isub hx hb hd (hnx _ _ _ h H locs la hP hS hl)
  | imul =>
    have ht : Nat.beq len 1 = true := ht
    have hl9 := Nat.eq_of_beq_eq_true ht
    subst hl9
    obtain ⟨x, y, r, rfl, h⟩ := fw_ii_e h
    intro H locs la hP hS hl
    exact lv_imul hx hb hd (hnx _ _ _ h H locs la hP hS hl)
  | iand =>
    have ht : Nat.beq len 1 = true := ht
    have hl9 := Nat.eq_of_beq_eq_true ht
    subst hl9
    obtain ⟨x, y, r, rfl, h⟩ := fw_ii_e h
    intro H locs la hP hS hl
    exact lv_iand hx hb hd (hnx _ _ _ h H locs la hP hS hl)
  | ior =>
    have ht : Nat.beq len 1 = true := ht
    have hl9 := Nat.eq_of_beq_eq_true ht
    subst hl9
    obtain ⟨x, y, r, rfl, h⟩ := fw_ii_e h
    intro H locs la hP hS hl
    exact lv_ior hx hb hd (hnx _ _ _ h H locs la hP hS hl)
  | ixor =>
    have ht : Nat.beq len 1 = true := ht
    have hl9 := Nat.eq_of_beq_eq_true ht
    subst hl9
    obtain ⟨x, y, r, rfl, h⟩ := fw_ii_e h
    intro H locs la hP hS hl
    exact lv_ixor hx hb hd (hnx _ _ _ h H locs la hP hS hl)
  | ishl =>
    have ht : Nat.beq len 1 = true := ht
    have hl9 := Nat.eq_of_beq_eq_true ht
    subst hl9
    obtain ⟨x, y, r, rfl, h⟩ := fw_ii_e h
    intro H locs la hP hS hl
    exact lv_ishl hx hb hd (hnx _ _ _ h H locs la hP hS hl)
  | ishr =>
    have ht : Nat.beq len 1 = true := ht
    have hl9 := Nat.eq_of_beq_eq_true ht
    subst hl9
    obtain ⟨x, y, r, rfl, h⟩ := fw_ii_e h
    intro H locs la hP hS hl
    exact lv_ishr hx hb hd (hnx _ _ _ h H locs la hP hS hl)
  | idiv =>
    have ht : Nat.beq len 1 = true := ht
    have hl9 := Nat.eq_of_beq_eq_true ht
    subst hl9
    obtain ⟨x, y, r, rfl, hy, h⟩ := fw_ii_e h
    intro H locs la hP hS hl
    exact lv_idiv hx hb hd (fw_sd_e hy) (hnx _ _ _ h H locs la hP hS hl)
  | irem =>
    have ht : Nat.beq len 1 = true := ht
    have hl9 := Nat.eq_of_beq_eq_true ht
    subst hl9
    obtain ⟨x, y, r, rfl, hy, h⟩ := fw_ii_e h
    intro H locs la hP hS hl
    exact lv_irem hx hb hd (fw_sd_e hy) (hnx _ _ _ h H locs la hP hS hl)
  | ineg =>
    have ht : Nat.beq len 1 = true := ht
    have hl9 := Nat.eq_of_beq_eq_true ht
    subst hl9
    obtain ⟨x, r, rfl, h⟩ := fw_i_e h
    intro H locs la hP hS hl
    exact lv_ineg hx hb hd (hnx _ _ _ h H locs la hP hS hl)
  | i2l =>
    have ht : Nat.beq len 1 = true := ht
    have hl9 := Nat.eq_of_beq_eq_true ht
    subst hl9
    obtain ⟨x, r, rfl, h⟩ := fw_i_e h
    intro H locs la hP hS hl
    exact lv_i2l hx hb hd rfl (hnx _ _ _ h H locs la hP hS hl)
  | i2d =>
    have ht : Nat.beq len 1 = true := ht
    have hl9 := Nat.eq_of_beq_eq_true ht
    subst hl9
    obtain ⟨x, r, rfl, h⟩ := fw_i_e h
    intro H locs la hP hS hl
    exact lv_i2d hx hb hd (hnx _ _ _ h H locs la hP hS hl)
  | ladd =>
    have ht : Nat.beq len 1 = true := ht
    have hl9 := Nat.eq_of_beq_eq_true ht
    subst hl9
    obtain ⟨x, y, r, rfl, h⟩ := fw_ll_e h
    intro H locs la hP hS hl
    exact lv_ladd hx hb hd (hnx _ _ _ h H locs la hP hS hl)
  | lmul =>
    have ht : Nat.beq len 1 = true := ht
    have hl9 := Nat.eq_of_beq_eq_true ht
    subst hl9
    obtain ⟨x, y, r, rfl, h⟩ := fw_ll_e h
    intro H locs la hP hS hl
    exact lv_lmul hx hb hd (hnx _ _ _ h H locs la hP hS hl)
  | lcmp =>
    have ht : Nat.beq len 1 = true := ht
    have hl9 := Nat.eq_of_beq_eq_true ht
    subst hl9
    obtain ⟨x, y, r, rfl, h⟩ := fw_ll_e h
    intro H locs la hP hS hl
    exact W.lcmp hx hb hd (hnx _ _ _ h H locs la hP hS hl)
  | ddiv =>
    have ht : Nat.beq len 1 = true := ht
    have hl9 := Nat.eq_of_beq_eq_true ht
    subst hl9
    obtain ⟨x, y, r, rfl, hy, h⟩ := fw_dd_e h
    intro H locs la hP hS hl
    exact lv_ddiv hx hb hd hy (hnx _ _ _ h H locs la hP hS hl)
  | dcmp op =>
    have ht : Nat.beq len 1 = true := ht
    have hl9 := Nat.eq_of_beq_eq_true ht
    subst hl9
    obtain ⟨x, y, r, rfl, h⟩ := fw_dd_e h
    intro H locs la hP hS hl
    exact lv_dcmp hx hb hd (hnx _ _ _ h H locs la hP hS hl)
  | dup =>
    have ht : Nat.beq len 1 = true := ht
    have hl9 := Nat.eq_of_beq_eq_true ht
    subst hl9
    have h : fw_w st (fun v r => nx ls (v :: v :: r) M) := h
    obtain ⟨v, r, rfl, hv, h⟩ := fw_w_e h
    intro H locs la hP hS hl
    exact lv_dup hx hb hd hv (hnx _ _ _ h H locs la hP hS hl)
  | pop =>
    have ht : Nat.beq len 1 = true := ht
    have hl9 := Nat.eq_of_beq_eq_true ht
    subst hl9
    have h : fw_w st (fun _ r => nx ls r M) := h
    obtain ⟨v, r, rfl, hv, h⟩ := fw_w_e h
    intro H locs la hP hS hl
    exact lv_pop hx hb hd hv (hnx _ _ _ h H locs la hP hS hl)
  | dup2 =>
    have ht : Nat.beq len 1 = true := ht
    have hl9 := Nat.eq_of_beq_eq_true ht
    subst hl9
    have h : fw_w st (fun v r => fw_w r fun u r => nx ls (v :: u :: v :: u :: r) M) := h
    obtain ⟨v, r, rfl, hv, h⟩ := fw_w_e h
    obtain ⟨u, r, rfl, hu, h⟩ := fw_w_e h
    intro H locs la hP hS hl
    exact lv_dup2_11 hx hb hd hv hu (hnx _ _ _ h H locs la hP hS hl)
  | if_icmp cnd off =>
    obtain ⟨ht, hv⟩ := fw_and2 ht
    have hl9 := Nat.eq_of_beq_eq_true ht
    dsimp only at hl9
    subst hl9
    have hv := of_decide_eq_true hv
    cases cnd with
    | eq =>
      obtain ⟨x, y, r, rfl, h1, h2⟩ := fw_ii_e h
      intro H locs la hP hS hl
      exact lv_icmp_eq hx hb hd hv (fun z => hjp _ _ _ _ (h1 z) H locs la hP hS hl) (fun z => hnx _ _ _ (h2 z) H locs la hP hS hl)
    | ne =>
      obtain ⟨x, y, r, rfl, h1, h2⟩ := fw_ii_e h
      intro H locs la hP hS hl
      exact lv_icmp_ne hx hb hd hv (fun z => hjp _ _ _ _ (h1 z) H locs la hP hS hl) (fun z => hnx _ _ _ (h2 z) H locs la hP hS hl)
    | lt =>
      obtain ⟨x, y, r, rfl, h1, h2⟩ := fw_ii_e h
      intro H locs la hP hS hl
      exact lv_icmp_lt hx hb hd hv (fun z => hjp _ _ _ _ (h1 z) H locs la hP hS hl) (fun z => hnx _ _ _ (h2 z) H locs la hP hS hl)
    | ge =>
      obtain ⟨x, y, r, rfl, h1, h2⟩ := fw_ii_e h
      intro H locs la hP hS hl
      exact lv_icmp_ge hx hb hd hv (fun z => hjp _ _ _ _ (h1 z) H locs la hP hS hl) (fun z => hnx _ _ _ (h2 z) H locs la hP hS hl)
    | gt =>
      obtain ⟨x, y, r, rfl, h1, h2⟩ := fw_ii_e h
      intro H locs la hP hS hl
      exact lv_icmp_gt hx hb hd hv (fun z => hjp _ _ _ _ (h1 z) H locs la hP hS hl) (fun z => hnx _ _ _ (h2 z) H locs la hP hS hl)
    | le =>
      obtain ⟨x, y, r, rfl, h1, h2⟩ := fw_ii_e h
      intro H locs la hP hS hl
      exact lv_icmp_le hx hb hd hv (fun z => hjp _ _ _ _ (h1 z) H locs la hP hS hl) (fun z => hnx _ _ _ (h2 z) H locs la hP hS hl)
  | ifCond cnd off =>
    obtain ⟨ht, hv⟩ := fw_and2 ht
    have hl9 := Nat.eq_of_beq_eq_true ht
    dsimp only at hl9
    subst hl9
    have hv := of_decide_eq_true hv
    cases cnd with
    | eq =>
      obtain ⟨x, r, rfl, h1, h2⟩ := fw_i_e h
      intro H locs la hP hS hl
      exact lv_if_eq hx hb hd hv (fun z => hjp _ _ _ _ (h1 z) H locs la hP hS hl) (fun z => hnx _ _ _ (h2 z) H locs la hP hS hl)
    | ne =>
      obtain ⟨x, r, rfl, h1, h2⟩ := fw_i_e h
      intro H locs la hP hS hl
      exact lv_if_ne hx hb hd hv (fun z => hjp _ _ _ _ (h1 z) H locs la hP hS hl) (fun z => hnx _ _ _ (h2 z) H locs la hP hS hl)
    | lt =>
      obtain ⟨x, r, rfl, h1, h2⟩ := fw_i_e h
      intro H locs la hP hS hl
      exact lv_if_lt hx hb hd hv (fun z => hjp _ _ _ _ (h1 z) H locs la hP hS hl) (fun z => hnx _ _ _ (h2 z) H locs la hP hS hl)
    | ge =>
      obtain ⟨x, r, rfl, h1, h2⟩ := fw_i_e h
      intro H locs la hP hS hl
      exact lv_if_ge hx hb hd hv (fun z => hjp _ _ _ _ (h1 z) H locs la hP hS hl) (fun z => hnx _ _ _ (h2 z) H locs la hP hS hl)
    | gt =>
      obtain ⟨x, r, rfl, h1, h2⟩ := fw_i_e h
      intro H locs la hP hS hl
      exact lv_if_gt hx hb hd hv (fun z => hjp _ _ _ _ (h1 z) H locs la hP hS hl) (fun z => hnx _ _ _ (h2 z) H locs la hP hS hl)
    | le =>
      obtain ⟨x, r, rfl, h1, h2⟩ := fw_i_e h
      intro H locs la hP hS hl
      exact lv_if_le hx hb hd hv (fun z => hjp _ _ _ _ (h1 z) H locs la hP hS hl) (fun z => hnx _ _ _ (h2 z) H locs la hP hS hl)
  | ifnull off =>
    obtain ⟨ht, hv⟩ := fw_and2 ht
    have hl9 := Nat.eq_of_beq_eq_true ht
    dsimp only at hl9
    subst hl9
    have hv := of_decide_eq_true hv
    have h : fw_a st (fun _ r => nx ls r M) (fun r => jp tgt ls r M) := h
    rcases fw_a_e h with ⟨x, r, rfl, h⟩ | ⟨r, rfl, h⟩
    · intro H locs la hP hS hl
      exact lv_ifnull hx hb hd (hnx _ _ _ h H locs la hP hS hl)
    · intro H locs la hP hS hl
      exact lv_ifnullN hx hb hd hv (hjp _ _ _ _ h H locs la hP hS hl)
  | ifnonnull off =>
    obtain ⟨ht, hv⟩ := fw_and2 ht
    have hl9 := Nat.eq_of_beq_eq_true ht
    dsimp only at hl9
    subst hl9
    have hv := of_decide_eq_true hv
    have h : fw_a st (fun _ r => jp tgt ls r M) (fun r => nx ls r M) := h
    rcases fw_a_e h with ⟨x, r, rfl, h⟩ | ⟨r, rfl, h⟩
    · intro H locs la hP hS hl
      exact lv_ifnonnull hx hb hd hv (hjp _ _ _ _ h H locs la hP hS hl)
    · intro H locs la hP hS hl
      exact lv_ifnonnullN hx hb hd (hnx _ _ _ h H locs la hP hS hl)
  | goto off =>
    obtain ⟨ht, hv⟩ := fw_and2 ht
    have hl9 := Nat.eq_of_beq_eq_true ht
    dsimp only at hl9
    subst hl9
    have hv := of_decide_eq_true hv
    intro H locs la hP hS hl
    exact lv_goto hx hb hd hv (hjp _ _ _ _ h H locs la hP hS hl)
  | tableswitch d lo hi offs =>
    obtain ⟨ht, h3⟩ := fw_and2 ht
    obtain ⟨h1, h2⟩ := fw_and2 ht
    have h1 : (offs.toList.length : Int) = hi - lo + 1 := of_decide_eq_true h1
    have h2 : 0 ≤ (pc : Int) + d := of_decide_eq_true h2
    obtain ⟨x, r, rfl, ha, hz⟩ := fw_i_e h
    intro H locs la hP hS hl
    by_cases q : x.toInt < lo ∨ hi < x.toInt
    · exact lv_tableOut hx hb hd q (Int.toNat_of_nonneg h2).symm (hjp _ _ _ _ (hz q) H locs la hP hS hl)
    · have q1 : ¬ x.toInt < lo := fun z => q (Or.inl z)
      have q2 : ¬ hi < x.toInt := fun z => q (Or.inr z)
      have hj : (x.toInt - lo).toNat < offs.toList.length := by omega
      have hg : offs.toList[(x.toInt - lo).toNat]? = some (offs.toList[(x.toInt - lo).toNat]) := List.getElem?_eq_getElem hj
      have h4 := of_decide_eq_true (List.all_eq_true.mp h3 _ (List.getElem_mem hj))
      exact lv_tableIn hx hb hd q1 q2 (by rw [← Array.getElem?_toList]; exact hg) (Int.toNat_of_nonneg h4).symm (hjp _ _ _ _ (fw_tsw_in ha _ _ hg (by omega)) H locs la hP hS hl)
  | lookupswitch d ps =>
    obtain ⟨ht, h3⟩ := fw_and2 ht
    obtain ⟨h1, h2⟩ := fw_and2 ht
    have h1 : 0 ≤ (pc : Int) + d := of_decide_eq_true h1
    obtain ⟨x, r, rfl, h⟩ := fw_i_e h
    intro H locs la hP hS hl
    obtain ⟨ha, hz⟩ := fw_lsw_in h
    have h4 : 0 ≤ (pc : Int) + Op.lookupswitch.offset ps.toList d x.toInt := by
      rcases hz with hz | ⟨q, hq, hz⟩
      · rw [hz]; exact h1
      · rw [← hz]; exact of_decide_eq_true (List.all_eq_true.mp h2 _ hq)
    exact lv_lookup hx hb hd h3 rfl (Int.toNat_of_nonneg h4).symm (hjp _ _ _ _ ha H locs la hP hS hl)
  | getfield k =>
    have ht : Nat.beq len 3 = true := ht
    have hl9 := Nat.eq_of_beq_eq_true ht
    subst hl9
    obtain ⟨a, r, rfl, h⟩ := fw_r_e h
    have h : fw_get B (fw_find k fld) a M (fun v => nx ls (v :: r) M) := h
    unfold fw_get at h
    split at h
    · rename_i ci j hf
      obtain ⟨hkd, h⟩ := h
      obtain ⟨h1, h2, h3, h4⟩ := hfld _ (fw_find_mem hf)
      dsimp only at h1 h2 h3 h4
      obtain ⟨o, ho, rfl, hko⟩ := fw_kd_at hkd (by omega)
      intro H locs la hP hS hl
      exact va_get (D := g.1) (cl := vwCl) (tys := fw_tys g) (C := (fw_cl ci).1) (T := (fw_cl ci).2.1) (N := (fw_cl ci).2.2) (ref := (fw_cl ci).1) (ci := ci) hx hb hts (fw_cl_w ci h1) hown hK hP o (by rw [fw_WL_get ho, fw_ct_obj hko h1]) (fw_cl_get ci h1) j (by rw [fw_cl_n ci h1]; exact h2) (hts _ h4) (fun x hx => by rw [h3] at hx; exact hx) (fw_fs_get h2) hd (hnx _ _ _ h H locs la hP hS hl)
    · exact h.elim
  | putfield k =>
    have ht : Nat.beq len 3 = true := ht
    have hl9 := Nat.eq_of_beq_eq_true ht
    subst hl9
    have h : fw_putv B (fw_find k fld) st M (fun r M' => nx ls r M') := h
    unfold fw_putv at h
    split at h
    · rename_i ci j x a r hf _
      cases hc : Nat.beq (fw_fc ci j) 0 with
      | false => rw [hc] at h; exact h.elim
      | true =>
        rw [hc] at h
        have hc := Nat.eq_of_beq_eq_true hc
        obtain ⟨hkd, h⟩ := h
        obtain ⟨h1, h2, h3, h4⟩ := hfld _ (fw_find_mem hf)
        dsimp only at h1 h2 h3 h4
        obtain ⟨o, ho, rfl, hko⟩ := fw_kd_at hkd (by omega)
        obtain ⟨h5, h6⟩ := fw_c0 ci h1 j h2 hc
        intro H locs la hP hS hl
        exact va_put (D := g.1) (cl := vwCl) (tys := fw_tys g) (A := fun q => B ≤ q) (H0 := s.heap) (C := (fw_cl ci).1) (T := (fw_cl ci).2.1) (N := (fw_cl ci).2.2) (ref := (fw_cl ci).1) (ci := ci) (v := .int x) hx hb hts (fw_cl_w ci h1) (fw_ty ci) (fw_ty_ok ci h1) (fw_nm_ok ci h1) hown hK hP fw_WL_D hS o (by rw [fw_WL_get ho, fw_ct_obj hko h1]) (fw_cl_get ci h1) j (by rw [fw_cl_n ci h1]; exact h2) (hts _ h4) (fun x hx => by rw [h3] at hx; exact hx) h5 h6 rfl rfl (by rw [fw_fs_len]; exact h2) hd (fun H1 locs1 hP1 hD1 hS1 => hnx _ _ _ h H1 locs1 la (by rw [fw_put ho hko h1 h2 hc] at hP1; exact hP1) hS1 hl)
    · exact h.elim
  | iaload =>
    have ht : Nat.beq len 1 = true := ht
    have hl9 := Nat.eq_of_beq_eq_true ht
    subst hl9
    obtain ⟨a, i, r, rfl, h⟩ := fw_ri_e h
    have h : fw_iald B scr a i M (fun x => nx ls (.int x :: r) M) := h
    unfold fw_iald at h
    split at h
    · obtain ⟨hkd, hin, h⟩ := h
      obtain ⟨o, ho, rfl, hko⟩ := fw_kd_at hkd (by omega)
      have hin : vp_in i (fw_lo o) := by rw [show fw_lo o = fw_len B (B + o) from by unfold fw_len; rw [Nat.add_sub_cancel_left]]; exact fw_sd_e hin
      intro H locs la hP hS hl
      exact va_iald (D := g.1) (cl := vwCl) (tys := fw_tys g) hx hb hK hP o 0 (by rw [fw_WL_get ho, fw_ct_7 hko]) rfl hin hd (hnx _ _ _ h H locs la hP hS hl)
    · rename_i b L xs
      obtain ⟨rfl, hin, h⟩ := h
      obtain ⟨k1, k2, k3⟩ := hscr
      intro H locs la hP hS hl
      exact va_sld (A := fun q => B ≤ q) hx hb k1 k2 k3 hS (fw_sd_e hin) hd (hnx _ _ _ h H locs la hP hS hl)
    · rename_i b L
      obtain ⟨rfl, n, hg, rfl⟩ := hscr
      rcases h with ⟨rfl, hin, h⟩ | ⟨hkd, hin, h⟩
      · intro H locs la hP hS hl
        exact va_iald (D := g.1) (cl := vwCl) (tys := fw_tys g) hx hb hK hP 497 0 (fw_WL_x hg) rfl (fw_sd_e hin) hd (hnx _ _ _ h H locs la hP hS hl)
      · obtain ⟨o, ho, rfl, hko⟩ := fw_kd_at hkd (by omega)
        have hin : vp_in i (fw_lo o) := by rw [show fw_lo o = fw_len B (B + o) from by unfold fw_len; rw [Nat.add_sub_cancel_left]]; exact fw_sd_e hin
        intro H locs la hP hS hl
        exact va_iald (D := g.1) (cl := vwCl) (tys := fw_tys g) hx hb hK hP o 0 (by rw [fw_WL_get ho, fw_ct_7 hko]) rfl hin hd (hnx _ _ _ h H locs la hP hS hl)
  | iastore =>
    have ht : Nat.beq len 1 = true := ht
    have hl9 := Nat.eq_of_beq_eq_true ht
    subst hl9
    obtain ⟨a, i, x, r, rfl, h⟩ := fw_rii_e h
    have norm : (fw_kd B a = 7 ∧ fw_sd (vp_in i (fw_len B a)) ∧ nx ls r (fw_st M a i.toNatClampNeg x)) → fw_WW p l e R s m args below meth c nL B g cf sf Qs pc ls (.int x :: .int i :: .ref a :: r) M := by
      intro h
      obtain ⟨hkd, hin, h⟩ := h
      obtain ⟨o, ho, rfl, hko⟩ := fw_kd_at hkd (by omega)
      have hin : vp_in i (fw_lo o) := by rw [show fw_lo o = fw_len B (B + o) from by unfold fw_len; rw [Nat.add_sub_cancel_left]]; exact fw_sd_e hin
      intro H locs la hP hS hl
      exact va_iast (D := g.1) (cl := vwCl) (tys := fw_tys g) (A := fun q => B ≤ q) (H0 := s.heap) hx hb hK hP fw_WL_D hS o 0 (by rw [fw_WL_get ho, fw_ct_7 hko]) rfl hin hd (fun H1 locs1 hP1 hD1 hS1 => hnx _ _ _ h H1 locs1 la (by rw [fw_ast ho hko] at hP1; exact hP1) hS1 hl)
    have h : fw_iast B scr a i x M (fun M' => nx ls r M') := h
    unfold fw_iast at h
    split at h
    · obtain ⟨rfl, n, hg, rfl⟩ := hscr
      rcases h with ⟨rfl, hin, h⟩ | h
      · intro H locs la hP hS hl
        exact va_iast (D := g.1) (cl := vwCl) (tys := fw_tys g) (A := fun q => B ≤ q) (H0 := s.heap) hx hb hK hP fw_WL_D hS 497 0 (fw_WL_x hg) rfl (fw_sd_e hin) hd (fun H1 locs1 hP1 hD1 hS1 => hnx _ _ _ h H1 locs1 la (by rw [fw_xast hg] at hP1; exact hP1) hS1 hl)
      · exact norm h
    · exact norm h
  | aaload =>
    have ht : Nat.beq len 1 = true := ht
    have hl9 := Nat.eq_of_beq_eq_true ht
    subst hl9
    obtain ⟨a, i, r, rfl, k1, k2, hin, h⟩ := fw_ri_e h
    rcases (show fw_kd B a = 8 ∨ fw_kd B a = 9 ∨ fw_kd B a = 10 by omega) with hkd | hkd | hkd
    · obtain ⟨o, ho, rfl, hko⟩ := fw_kd_at hkd (by omega)
      rw [hkd] at hin h
      intro H locs la hP hS hl
      exact va_aldq (D := g.1) (cl := vwCl) (tys := fw_tys g) (n := 6) (f := fun j => some (fw_el 8 (B + o) j)) hx hb hK hP o 1 (by rw [fw_WL_get ho, fw_ct_8 hko]) rfl (fw_sd_e hin) hd (hnx _ _ _ h H locs la hP hS hl)
    · obtain ⟨o, ho, rfl, hko⟩ := fw_kd_at hkd (by omega)
      rw [hkd] at hin h
      intro H locs la hP hS hl
      exact va_aldq (D := g.1) (cl := vwCl) (tys := fw_tys g) (n := 4) (f := fun j => some (fw_el 9 (B + o) j)) hx hb hK hP o 2 (by rw [fw_WL_get ho, fw_ct_9 hko]) rfl (fw_sd_e hin) hd (hnx _ _ _ h H locs la hP hS hl)
    · obtain ⟨o, ho, rfl, hko⟩ := fw_kd_at hkd (by omega)
      rw [hkd] at hin h
      intro H locs la hP hS hl
      exact va_aldq (D := g.1) (cl := vwCl) (tys := fw_tys g) (n := 24) (f := fun j => some (fw_el 10 (B + o) j)) hx hb hK hP o 3 (by rw [fw_WL_get ho, fw_ct_10 hko]) rfl (fw_sd_e hin) hd (hnx _ _ _ h H locs la hP hS hl)
  | arraylength =>
    have ht : Nat.beq len 1 = true := ht
    have hl9 := Nat.eq_of_beq_eq_true ht
    subst hl9
    obtain ⟨a, r, rfl, h⟩ := fw_r_e h
    have h : fw_alen B scr a (fun x => nx ls (.int x :: r) M) := h
    unfold fw_alen at h
    split at h
    · obtain ⟨k1, k2, h⟩ := h
      rcases (show fw_kd B a = 7 ∨ fw_kd B a = 8 ∨ fw_kd B a = 9 ∨ fw_kd B a = 10 by omega) with hkd | hkd | hkd | hkd
      · obtain ⟨o, ho, rfl, hko⟩ := fw_kd_at hkd (by omega)
        have hn : fw_aln B (B + o) = fw_lo o := by unfold fw_aln; rw [hkd]; rw [if_pos rfl]; unfold fw_len; rw [Nat.add_sub_cancel_left]
        rw [hn] at h
        intro H locs la hP hS hl
        exact va_alen (D := g.1) (cl := vwCl) (tys := fw_tys g) hx hb hK hP o 0 (by rw [fw_WL_get ho, fw_ct_7 hko]) rfl rfl hd (hnx _ _ _ h H locs la hP hS hl)
      · obtain ⟨o, ho, rfl, hko⟩ := fw_kd_at hkd (by omega)
        have hn : fw_aln B (B + o) = fw_al 8 := by unfold fw_aln; rw [hkd]; rw [if_neg (by decide)]
        rw [hn] at h
        intro H locs la hP hS hl
        exact va_alen (D := g.1) (cl := vwCl) (tys := fw_tys g) hx hb hK hP o 1 (by rw [fw_WL_get ho, fw_ct_8 hko]) rfl rfl hd (hnx _ _ _ h H locs la hP hS hl)
      · obtain ⟨o, ho, rfl, hko⟩ := fw_kd_at hkd (by omega)
        have hn : fw_aln B (B + o) = fw_al 9 := by unfold fw_aln; rw [hkd]; rw [if_neg (by decide)]
        rw [hn] at h
        intro H locs la hP hS hl
        exact va_alen (D := g.1) (cl := vwCl) (tys := fw_tys g) hx hb hK hP o 2 (by rw [fw_WL_get ho, fw_ct_9 hko]) rfl rfl hd (hnx _ _ _ h H locs la hP hS hl)
      · obtain ⟨o, ho, rfl, hko⟩ := fw_kd_at hkd (by omega)
        have hn : fw_aln B (B + o) = fw_al 10 := by unfold fw_aln; rw [hkd]; rw [if_neg (by decide)]
        rw [hn] at h
        intro H locs la hP hS hl
        exact va_alen (D := g.1) (cl := vwCl) (tys := fw_tys g) hx hb hK hP o 3 (by rw [fw_WL_get ho, fw_ct_10 hko]) rfl rfl hd (hnx _ _ _ h H locs la hP hS hl)
    · rename_i b L xs
      obtain ⟨rfl, h⟩ := h
      obtain ⟨k1, k2, k3⟩ := hscr
      intro H locs la hP hS hl
      exact va_slen (A := fun q => B ≤ q) hx hb k1 k2 k3 hS hd (hnx _ _ _ h H locs la hP hS hl)
    · exact h.elim
  | invokevirtual k =>
    have ht : Nat.beq len 3 = true := ht
    have hl9 := Nat.eq_of_beq_eq_true ht
    subst hl9
    have h : fw_call B 0 (fw_findC k cal) st M (fun r M' => nx ls r M') := h
    cases hf : fw_findC k cal with
    | none => rw [hf] at h; exact h.elim
    | some q => rw [hf] at h; exact fw_call_ok (hcal _ (fw_findC_mem hf)) (Or.inl ⟨rfl, hd⟩) (fun st M hq => hnx _ _ _ hq) h
  | invokestatic k =>
    have ht : Nat.beq len 3 = true := ht
    have hl9 := Nat.eq_of_beq_eq_true ht
    subst hl9
    have h : fw_call B 1 (fw_findC k cal) st M (fun r M' => nx ls r M') := h
    cases hf : fw_findC k cal with
    | none => rw [hf] at h; exact h.elim
    | some q => rw [hf] at h; exact fw_call_ok (hcal _ (fw_findC_mem hf)) (Or.inr ⟨rfl, hd⟩) (fun st M hq => hnx _ _ _ hq) h
  | new k =>
    have ht : Nat.beq len 3 = true := ht
    have hl9 := Nat.eq_of_beq_eq_true ht
    subst hl9
    have h : fw_newx QX (fw_find k thr) st M := h
    unfold fw_newx at h
    split at h
    · rename_i E hf _
      exact hthr _ (fw_find_mem hf) _ _ _ hd hnw h
    · exact h.elim
  | ireturn =>
    have ht : Nat.beq len 1 = true := ht
    have hl9 := Nat.eq_of_beq_eq_true ht
    subst hl9
    exact (hret _ _ _ _).1 hd h
  | areturn =>
    have ht : Nat.beq len 1 = true := ht
    have hl9 := Nat.eq_of_beq_eq_true ht
    subst hl9
    exact (hret _ _ _ _).2.1 hd h
  | lreturn =>
    have ht : Nat.beq len 1 = true := ht
    have hl9 := Nat.eq_of_beq_eq_true ht
    subst hl9
    exact (hret _ _ _ _).2.2.1 hd h
  | dreturn =>
    have ht : Nat.beq len 1 = true := ht
    have hl9 := Nat.eq_of_beq_eq_true ht
    subst hl9
    exact (hret _ _ _ _).2.2.2.1 hd h
  | return_ =>
    have ht : Nat.beq len 1 = true := ht
    have hl9 := Nat.eq_of_beq_eq_true ht
    subst hl9
    exact (hret _ _ _ _).2.2.2.2 hd h
  | _ => exact False.elim h
end SW

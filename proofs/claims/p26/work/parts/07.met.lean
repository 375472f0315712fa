/-! CONTRACTS out of the walker: stretches, loops, a whole body, the calls -/
section ME
/-- words beside the tables' good ones: links between nest mates, and of the exceptions that are thrown -/
def fw_xw : List Cond := fw_nest.map (fun q => Cond.methodLinkNest q.1 q.2.1 q.2.2.1 q.2.2.2) ++ [.declares (Bundle.init0 "java/lang/RuntimeException"), .declares (Bundle.init0 "java/lang/Exception"), .declares (Bundle.init0 Bundle.tN), .castable "java/lang/IllegalArgumentException" "java/lang/IllegalArgumentException", .castable "java/lang/IllegalStateException" "java/lang/IllegalStateException", .castable "java/lang/IndexOutOfBoundsException" "java/lang/IndexOutOfBoundsException"]
theorem fw_xw_tab {w : Cond} (h : w ∈ fw_xw) : w.onTables = true := by
  rcases List.mem_append.mp h with h | h
  · obtain ⟨q, -, rfl⟩ := List.mem_map.mp h
    rfl
  · revert w
    decide
theorem fw_xw_warm {w : Cond} (h : w ∈ fw_xw) {s U : State} (hW : s.WarmedH U.vm) (hZ : va_Nw w s) : va_Nw w U := by
  rcases List.mem_append.mp h with h | h
  · obtain ⟨q, -, rfl⟩ := List.mem_map.mp h
    exact va_Nw.warmM hW hZ
  · simp only [List.mem_cons, List.not_mem_nil, or_false] at h
    rcases h with rfl | rfl | rfl | rfl | rfl | rfl
    · exact va_Nw.warmD hW hZ
    · exact va_Nw.warmD hW hZ
    · exact va_Nw.warmD hW hZ
    · exact va_Nw.warmC hW hZ
    · exact va_Nw.warmC hW hZ
    · exact va_Nw.warmC hW hZ
/-- what holds of a state beside the cells: the classes, the words, where the two statics of Throwable lie -/
def fw_Amb (g : fw_G) (B : Nat) (U : State) (H : Heap) : Prop := va_K g.1 vwCl (fw_tys g) U ∧ (∀ w ∈ fw_xw, va_Nw w U) ∧ vx_Zq Bundle.tN "UNASSIGNED_STACK" Bundle.steD (fun q => B ≤ q) U H ∧ vx_Zq Bundle.tN "SUPPRESSED_SENTINEL" Bundle.listD (fun q => B ≤ q) U H
def fw_Pic (g : fw_G) (B : Nat) (M : fw_M) (U : State) : Prop := va_P g.1 vwCl (fw_WL g B M) U.heap ∧ fw_Amb g B U U.heap
def fw_Pc (g : fw_G) (B : Nat) (as : List Value) (M : fw_M) : Array Value → State → Prop := va_Pc as (fw_Pic g B M)
def fw_Qc (g : fw_G) (B : Nat) (Q : Option Value → fw_M → Prop) : Array Value → State → Outcome → State → Prop := fun _ st oc t => (∃ (r : Option Value) (M : fw_M), oc = .returned r ∧ Q r M ∧ va_P g.1 vwCl (fw_WL g B M) t.heap) ∧ va_F (fun q => B ≤ q) st t
def fw_XC (g : fw_G) (B : Nat) (QX : String → fw_M → Prop) : String → State → State → Prop := fun E st t => (∃ M : fw_M, QX E M ∧ va_P g.1 vwCl (fw_WL g B M) t.heap) ∧ va_F (fun q => B ≤ q) st t
abbrev fw_CTX : Type := List Value → fw_M → (Option Value → fw_M → Prop) → (String → fw_M → Prop) → Prop
abbrev fw_ws (y : MethodName) (cc : ByteArray) (nL : Nat) (rt : Option FieldType) : List Cond := Cond.code y cc nL rt :: fw_LW
/-- a method's contract: from every memory and arguments for which ct asks Q (or a throw, QX), it ends with Q (or throws, with QX) -/
def fw_Met (l : Launch) (g : fw_G) (B : Nat) (y : MethodName) (cc : ByteArray) (nL : Nat) (rt : Option FieldType) (rm : Room) (mc ms : Nat) (ct : fw_CTX) : Prop :=
  ∀ as M Q QX, ct as M Q QX → vx_Met l y (fw_ws y cc nL rt) rm (fw_Pc g B as M) (fw_Qc g B Q) (fw_XC g B QX) mc ms (fun q => B ≤ q)
theorem fw_Amb.warm {g : fw_G} {B : Nat} {s U : State} {H H1 : Heap} (h : fw_Amb g B s H) (hW : s.WarmedH U.vm) (hS : ∀ a : Nat, a < H.size → ¬ B ≤ a → H1[a]? = H[a]?) : fw_Amb g B U H1 :=
  ⟨va_K.moved hW.alike h.1, fun w hw => fw_xw_warm hw hW (h.2.1 w hw), vx_Zq.kept (vx_Zq.moved hW.alike h.2.2.1) hS, vx_Zq.kept (vx_Zq.moved hW.alike h.2.2.2) hS⟩
theorem fw_Pc_blind {g : fw_G} {B : Nat} {as : List Value} {M : fw_M} : FrameBlind (fw_Pc g B as M) := by
  intro a U gg mk h
  obtain ⟨h1, h2, h3, h4, h5, h6⟩ := h
  exact ⟨h1, h2, va_K.moved (u := U) (U := U.calling gg mk a) (Vm.Alike.refl U.vm) h3, fun w hw => va_Nw.same (u := U) (U := U.calling gg mk a) (fw_xw_tab hw) rfl (h4 w hw), vx_Zq.moved (u := U) (U := U.calling gg mk a) (Vm.Alike.refl U.vm) h5, vx_Zq.moved (u := U) (U := U.calling gg mk a) (Vm.Alike.refl U.vm) h6⟩
section BD
variable {p : Program} {l : Launch} {e : Env} {R : Room} {s : State} {m : MethodId} {args : Array Value} {below : List Frame} {meth : Method} {c : Code} {Qs : State → Prop} {cc : ByteArray} {nL B : Nat} {g : fw_G} {cf sf : Nat → Nat} {own : String}
variable {fld : List (Nat × Nat × Nat)} {cal : List fw_Cal} {thr : List (Nat × String)} {cst : List (Nat × Value)} {scr : Option (Nat × Nat × Option (Nat → Int32))} {rt : Option FieldType} {Q : Option Value → fw_M → Prop} {QX : String → fw_M → Prop} {code : List fw_Ent}
def fw_chain : List fw_Ent → Bool
  | a :: b :: t => Nat.beq b.1 (a.1 + a.2.1) && fw_chain (b :: t)
  | _ => true
def fw_newq (cc : ByteArray) (en : fw_Ent) : Bool := match en.2.2.1 with
  | .new k => decide (decode cc (en.1 + 3) = .ok (.dup, 1)) && decide (decode cc (en.1 + 4) = .ok (.invokespecial (k + 2), 3)) && decide (decode cc (en.1 + 7) = .ok (.athrow, 1))
  | _ => true
def fw_chk (cc : ByteArray) (nL : Nat) (code : List fw_Ent) : Bool := code.all (fun en => decide (decode cc en.1 = .ok (en.2.2.1, en.2.1)) && fw_lt nL en && fw_newq cc en) && fw_chain code
theorem fw_chain_next {a b : fw_Ent} {t pre : List fw_Ent} : ∀ {L : List fw_Ent}, fw_chain L = true → L = pre ++ a :: b :: t → b.1 = a.1 + a.2.1 := by
  induction pre with
  | nil =>
    intro L h e
    subst e
    exact Nat.eq_of_beq_eq_true (fw_and2 h).1
  | cons x pre ih =>
    intro L h e
    subst e
    refine ih (L := pre ++ a :: b :: t) ?_ rfl
    cases pre with
    | nil => exact (fw_and2 h).2
    | cons y pre => exact (fw_and2 h).2
theorem fw_newq_ok {en : fw_Ent} (h : fw_newq cc en = true) : fw_NewOK cc en := by
  obtain ⟨pc, len, i, num, tgt⟩ := en
  unfold fw_NewOK
  dsimp only
  cases i with
  | new k =>
    obtain ⟨h, h3⟩ := fw_and2 h
    obtain ⟨h1, h2⟩ := fw_and2 h
    exact ⟨of_decide_eq_true h1, of_decide_eq_true h2, of_decide_eq_true h3⟩
  | _ => trivial
theorem fw_seek_suf {t : Nat} : ∀ (code : List fw_Ent), ∃ pre, code = pre ++ fw_seek t code := by
  intro code
  induction code with
  | nil => exact ⟨[], rfl⟩
  | cons en r ih =>
    unfold fw_seek
    cases hb : Nat.beq en.1 t with
    | true => exact ⟨[], rfl⟩
    | false =>
      obtain ⟨pre, h⟩ := ih
      exact ⟨en :: pre, by show en :: r = en :: (pre ++ fw_seek t r); rw [← h]⟩
theorem fw_seek_pc {t : Nat} {en : fw_Ent} {r : List fw_Ent} : ∀ {code : List fw_Ent}, fw_seek t code = en :: r → en.1 = t := by
  intro code
  induction code with
  | nil => intro h; cases h
  | cons x r' ih =>
    intro h
    unfold fw_seek at h
    cases hb : Nat.beq x.1 t with
    | true =>
      rw [hb] at h
      have h : x :: r' = en :: r := h
      cases h
      exact Nat.eq_of_beq_eq_true hb
    | false =>
      rw [hb] at h
      exact ih h
theorem fw_wp_sound (E : fw_Env p s m args c cc nL g own) (hchk : fw_chk cc nL code = true) (hcst : ∀ en ∈ code, fw_CstOK own cst en) (hfld : fw_Fld own fld) (hscr : fw_ScrOK s B g scr)
    (hcal : ∀ q ∈ cal, fw_CallOK p l e R s m args below meth c cc nL B g cf sf Qs q) (hthr : ∀ q ∈ thr, fw_ThrOK p l e R s m args below meth c cc nL B g cf sf Qs QX q) (hret : fw_RetOK p l e R s m args below meth c cc nL B g cf sf Qs rt Q)
    (K : fw_K) (hK : ∀ pc q, K pc = some q → ∀ ls st M, q.2 ls st M → fw_WW p l e R s m args below meth c nL B g cf sf Qs pc ls st M) :
    ∀ (n : Nat) (b : Bool) (pre tl : List fw_Ent) (en : fw_Ent), code = pre ++ en :: tl → ∀ (ls : fw_L) (st : List Value) (M : fw_M), fw_wp B fld cal thr cst scr rt Q QX code K n b (en :: tl) ls st M → fw_WW p l e R s m args below meth c nL B g cf sf Qs en.1 ls st M := by
  obtain ⟨hall, hch⟩ := fw_and2 hchk
  intro n
  induction n with
  | zero => intro b pre tl en hc ls st M h; exact h.elim
  | succ n ih =>
    intro b pre tl en hc ls st M h
    have hm : en ∈ code := by rw [hc]; exact List.mem_append_right _ List.mem_cons_self
    obtain ⟨h12, h3⟩ := fw_and2 (List.all_eq_true.mp hall en hm)
    obtain ⟨h1, h2⟩ := fw_and2 h12
    have main : fw_stp B fld cal thr cst scr rt Q QX en ls st M (fun ls st M => fw_wp B fld cal thr cst scr rt Q QX code K n false tl ls st M) (fun t ls st M => fw_wp B fld cal thr cst scr rt Q QX code K n false (fw_seek t code) ls st M) → fw_WW p l e R s m args below meth c nL B g cf sf Qs en.1 ls st M := by
      intro h
      refine fw_stp_sound E (of_decide_eq_true h1) h2 hfld (hcst en hm) (fw_newq_ok h3) hscr hcal hthr hret ?_ ?_ h
      · intro ls st M h
        cases tl with
        | nil => cases n <;> exact h.elim
        | cons en2 tl2 =>
          have e2 := fw_chain_next hch hc
          rw [← e2]
          exact ih false (pre ++ [en]) tl2 en2 (by rw [hc]; simp) ls st M h
      · intro t ls st M h
        obtain ⟨pre2, hp2⟩ := fw_seek_suf (t := t) code
        cases hs : fw_seek t code with
        | nil =>
          have h : fw_wp B fld cal thr cst scr rt Q QX code K n false (fw_seek t code) ls st M := h
          rw [hs] at h
          cases n <;> exact h.elim
        | cons en2 tl2 =>
          have h : fw_wp B fld cal thr cst scr rt Q QX code K n false (fw_seek t code) ls st M := h
          rw [hs] at h hp2
          rw [← fw_seek_pc hs]
          exact ih false pre2 tl2 en2 hp2 ls st M h
    unfold fw_wp at h
    cases b with
    | true => exact main h
    | false =>
      cases hk : K en.1 with
      | none =>
        rw [hk] at h
        exact main h
      | some q =>
        rw [hk] at h
        have h : q.2 (fw_mk q.1 ls) st M := h
        intro H locs la hP hS hl
        exact hK en.1 q hk _ _ _ h H locs la hP hS (fw_lr_mk hl q.1)
/-- the places where a loop comes back, each with which locals live there and what holds there, by a measure that falls -/
abbrev fw_AL : Type := List (Nat × List Bool × (Nat → fw_L → List Value → fw_M → Prop))
def fw_Kn (A : fw_AL) (n : Nat) : fw_K := fun pc => match fw_find pc A with
  | none => none
  | some q => some (q.1, fun ls st M => ∃ n', n' < n ∧ q.2 n' ls st M)
def fw_Ka (A : fw_AL) : fw_K := fun pc => match fw_find pc A with
  | none => none
  | some q => some (q.1, fun ls st M => ∃ n', q.2 n' ls st M)
theorem fw_body (E : fw_Env p s m args c cc nL g own) (hchk : fw_chk cc nL code = true) (hcst : ∀ en ∈ code, fw_CstOK own cst en) (hfld : fw_Fld own fld) (hscr : fw_ScrOK s B g scr)
    (hcal : ∀ q ∈ cal, fw_CallOK p l e R s m args below meth c cc nL B g cf sf Qs q) (hthr : ∀ q ∈ thr, fw_ThrOK p l e R s m args below meth c cc nL B g cf sf Qs QX q) (hret : fw_RetOK p l e R s m args below meth c cc nL B g cf sf Qs rt Q)
    (A : fw_AL) (hA : ∀ q ∈ A, ∀ n ls st M, q.2.2 n ls st M → ∃ F, fw_wp B fld cal thr cst scr rt Q QX code (fw_Kn A n) F true (fw_seek q.1 code) ls st M)
    {t : Nat} {F : Nat} {ls : fw_L} {st : List Value} {M : fw_M} (h : fw_wp B fld cal thr cst scr rt Q QX code (fw_Ka A) F true (fw_seek t code) ls st M) : fw_WW p l e R s m args below meth c nL B g cf sf Qs t ls st M := by
  have start : ∀ (K : fw_K) (hK : ∀ pc q, K pc = some q → ∀ ls st M, q.2 ls st M → fw_WW p l e R s m args below meth c nL B g cf sf Qs pc ls st M) (t F : Nat) (ls : fw_L) (st : List Value) (M : fw_M), fw_wp B fld cal thr cst scr rt Q QX code K F true (fw_seek t code) ls st M → fw_WW p l e R s m args below meth c nL B g cf sf Qs t ls st M := by
    intro K hK t F ls st M h
    obtain ⟨pre2, hp2⟩ := fw_seek_suf (t := t) code
    cases hs : fw_seek t code with
    | nil => rw [hs] at h; cases F <;> exact h.elim
    | cons en2 tl2 =>
      rw [hs] at h hp2
      rw [← fw_seek_pc hs]
      exact fw_wp_sound E hchk hcst hfld hscr hcal hthr hret K hK F true pre2 tl2 en2 hp2 ls st M h
  have loop : ∀ n, ∀ q ∈ A, ∀ ls st M, q.2.2 n ls st M → fw_WW p l e R s m args below meth c nL B g cf sf Qs q.1 ls st M := by
    intro n
    induction n using Nat.strongRecOn with
    | _ n ih =>
      intro q hq ls st M hi
      obtain ⟨F, hw⟩ := hA q hq n ls st M hi
      refine start (fw_Kn A n) ?_ q.1 F ls st M hw
      intro pc q2 hk ls st M h
      unfold fw_Kn at hk
      cases hf : fw_find pc A with
      | none => rw [hf] at hk; cases hk
      | some q3 =>
        rw [hf] at hk
        cases hk
        obtain ⟨n', hn, h⟩ := h
        exact ih n' hn (pc, q3) (fw_find_mem hf) ls st M h
  refine start (fw_Ka A) ?_ t F ls st M h
  intro pc q2 hk ls st M h
  unfold fw_Ka at hk
  cases hf : fw_find pc A with
  | none => rw [hf] at hk; cases hk
  | some q3 =>
    rw [hf] at hk
    cases hk
    obtain ⟨n', h⟩ := h
    exact loop n' (pc, q3) (fw_find_mem hf) ls st M h
end BD
end ME

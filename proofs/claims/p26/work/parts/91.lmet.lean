/-! THE LAW'S HELPERS: a call that may throw, caught by the helper's table -/
section LM
def fw_NC (U : State) : Prop := va_Nc "java/lang/IllegalStateException" "java/lang/IllegalArgumentException" U ∧ va_Nc "java/lang/IllegalArgumentException" "java/lang/IndexOutOfBoundsException" U
abbrev fw_wsH (y : MethodName) (cc : ByteArray) (nL : Nat) (rt : Option FieldType) (hh : List (Nat × Nat × Nat × Nat)) : List Cond := Cond.codeWith y cc nL rt hh :: fw_LW
def fw_PcH (g : fw_G) (B : Nat) (as : List Value) (M : fw_M) : Array Value → State → Prop := fun a st => fw_Pc g B as M a st ∧ fw_NC st
def fw_MetH (l : Launch) (g : fw_G) (B : Nat) (y : MethodName) (cc : ByteArray) (nL : Nat) (rt : Option FieldType) (hh : List (Nat × Nat × Nat × Nat)) (rm : Room) (mc ms : Nat) (ct : fw_CTX) : Prop :=
  ∀ as M Q QX, ct as M Q QX → vx_Met l y (fw_wsH y cc nL rt hh) rm (fw_PcH g B as M) (fw_Qc g B Q) (fw_XC g B (fun _ _ => False)) mc ms (fun q => B ≤ q)
section L1
variable {p : Program} {l : Launch} {e : Env} {R : Room} {s : State} {m : MethodId} {args : Array Value} {below : List Frame} {meth : Method} {c : Code} {Qs : State → Prop} {cc : ByteArray} {nL B : Nat} {g : fw_G} {own : String}
variable {H : Heap} {locs : List Loc} {cells slots mc ms pc : Nat} {la : Array Slot} {rest st0 : List Value} {a : Array Value}
theorem fw_callXH {Qr : Option Value → fw_M → Prop} {QX : String → fw_M → Prop} (hr : vx_Run p l e R s m args below meth c H locs cells slots mc ms (F0 m pc la st0) rest (fw_Qc g B Qr a) (fw_XC g B QX) (fun q => B ≤ q)) (hS : va_S (fun q => B ≤ q) s.heap H locs)
    (kk : ∀ (r : Option Value) (M : fw_M) (H1 : Heap) (locs1 : List Loc), Qr r M → va_P g.1 vwCl (fw_WL g B M) H1 → va_S (fun q => B ≤ q) s.heap H1 locs1 → W p l e R s m args below meth c H1 locs1 (cells + mc) (slots + ms) Qs (F0 m (pc + 3) la (r.toList ++ rest)))
    (kx : ∀ (E : String) (M : fw_M) (ce : Cell) (q : Addr) (H1 : Heap) (locs1 : List Loc), QX E M → va_P g.1 vwCl (fw_WL g B M) H1 → va_S (fun q => B ≤ q) s.heap H1 locs1 → H1[q]? = some ce → ce.vm = .none → s.vm.findClass E = some ce.cls → vx_W p l e R s m args below meth c H1 locs1 (cells + mc) (slots + ms) Qs (F0 m pc la rest) q) :
    W p l e R s m args below meth c H locs cells slots Qs (F0 m pc la st0) := by
  intro T hT X
  rcases hr T hT X with ⟨v, st₀, t, T', L, h0, X', hL, e1, e2, ⟨⟨r, M, hv, hq, hp⟩, hF⟩, st⟩ | ⟨q, st₀, t, T', L, E, ce, h0, X', hL, e1, e2, ⟨⟨M, hq, hp⟩, hF⟩, hce, hcv, hcl, st⟩
  · cases hv
    obtain ⟨k1, k2, k3⟩ := vx_keep h0 e1 hS (fun _ _ h => h) (fun _ h => h) hL hF
    obtain ⟨t2, a1, b1⟩ := kk v M T'.heap (locs ++ L) hq (by rw [e1]; exact hp) k3 T' rfl X'
    exact ⟨t2, st t2 a1, b1⟩
  · obtain ⟨k1, k2, k3⟩ := vx_keep h0 e1 hS (fun _ _ h => h) (fun _ h => h) hL hF
    obtain ⟨t2, a1, b1⟩ := kx E M ce q T'.heap (locs ++ L) hq (by rw [e1]; exact hp) k3 (by rw [e1]; exact hce) hcv hcl T' rfl X'
    exact ⟨t2, st.trans a1, b1⟩
/-- ends, with cells counted -/
theorem fw_retC {rt : Option FieldType} {Q Q' : Option Value → fw_M → Prop} {XC : String → State → State → Prop} {cf sf : Nat → Nat}
    (E : fw_Env p s m args c cc nL g own) (hr : meth.sig.returnType = rt) (hlocks : meth.locks = false) (hQ : ∀ r M, Q' r M → Q r M ∧ cf M.2.2 ≤ mc ∧ sf M.2.2 ≤ ms) : fw_RetOK p l e R s m args below meth c cc nL B g cf sf (vx_MQ below (fw_Qc g B Q) XC args s mc ms (fun q => B ≤ q)) rt Q' := by
  obtain ⟨hx, hb, hml, hown, hts, hK⟩ := E
  have key : ∀ {H : Heap} {locs : List Loc} {M : fw_M} {r : Option Value}, va_P g.1 vwCl (fw_WL g B M) H → va_S (fun q => B ≤ q) s.heap H locs → Q r M → ∀ t : State, t.heap = H → s.WarmedH t.vm → fw_Qc g B Q args s (.returned r) t := by
    intro H locs M r hP hS hq t ht hW
    exact ⟨⟨r, M, rfl, hq, by rw [ht]; exact hP⟩, hS.F ht⟩
  intro pc ls st M
  refine ⟨?_, ?_, ?_, ?_, ?_⟩
  · intro hd h
    unfold fw_endi at h
    split at h
    · intro H locs la hP hS hl
      obtain ⟨h, h1, h2⟩ := hQ _ _ h
      exact vx_ret (W.widen (k := mc) (n := ms) h1 h2 (W.iret hx hb hr (key hP hS h) hS.2.2 hd))
    · obtain ⟨hz, h⟩ := h
      intro H locs la hP hS hl
      obtain ⟨h, h1, h2⟩ := hQ _ _ h
      exact vx_ret (W.widen (k := mc) (n := ms) h1 h2 (W.zret hx hb hr (by rcases hz with rfl | rfl <;> rfl) (key hP hS h) hS.2.2 hd))
    · exact h.elim
  · intro hd h
    unfold fw_enda at h
    split at h
    · intro H locs la hP hS hl
      obtain ⟨h, h1, h2⟩ := hQ _ _ h
      exact vx_ret (W.widen (k := mc) (n := ms) h1 h2 (W.aret hx hb hr (Or.inl ⟨_, rfl⟩) (Or.inr ⟨_, rfl⟩) (key hP hS h) hS.2.2 hd))
    · intro H locs la hP hS hl
      obtain ⟨h, h1, h2⟩ := hQ _ _ h
      exact vx_ret (W.widen (k := mc) (n := ms) h1 h2 (W.aret hx hb hr (Or.inl ⟨_, rfl⟩) (Or.inl rfl) (key hP hS h) hS.2.2 hd))
    · exact h.elim
  · intro hd h
    unfold fw_endl at h
    split at h
    · intro H locs la hP hS hl
      obtain ⟨h, h1, h2⟩ := hQ _ _ h
      exact vx_ret (W.widen (k := mc) (n := ms) h1 h2 (W.lret hx hb hr (key hP hS h) hS.2.2 hd))
    · exact h.elim
  · intro hd h
    unfold fw_endd at h
    split at h
    · intro H locs la hP hS hl
      obtain ⟨h, h1, h2⟩ := hQ _ _ h
      exact vx_ret (W.widen (k := mc) (n := ms) h1 h2 (W.dret hx hb hr (key hP hS h) hS.2.2 hd))
    · exact h.elim
  · intro hd h
    unfold fw_endv at h
    split at h
    · intro H locs la hP hS hl
      obtain ⟨h, h1, h2⟩ := hQ _ _ h
      exact vx_ret (W.widen (k := mc) (n := ms) h1 h2 (W.vret hx hb hr (key hP hS h) hS.2.2 hd))
    · exact h.elim
/-- a stretch from where it starts to where K cuts it -/
theorem fw_from {fld : List (Nat × Nat × Nat)} {cal : List fw_Cal} {thr : List (Nat × String)} {cst : List (Nat × Value)} {scr : Option (Nat × Nat × Option (Nat → Int32))} {rt : Option FieldType} {Q : Option Value → fw_M → Prop} {QX : String → fw_M → Prop} {code : List fw_Ent} {cf sf : Nat → Nat}
    (E : fw_Env p s m args c cc nL g own) (hchk : fw_chk cc nL code = true) (hcst : ∀ en ∈ code, fw_CstOK own cst en) (hfld : fw_Fld own fld) (hscr : fw_ScrOK s B g scr)
    (hcal : ∀ q ∈ cal, fw_CallOK p l e R s m args below meth c cc nL B g cf sf Qs q) (hthr : ∀ q ∈ thr, fw_ThrOK p l e R s m args below meth c cc nL B g cf sf Qs QX q) (hret : fw_RetOK p l e R s m args below meth c cc nL B g cf sf Qs rt Q)
    (K : fw_K) (hK : ∀ pc q, K pc = some q → ∀ ls st M, q.2 ls st M → fw_WW p l e R s m args below meth c nL B g cf sf Qs pc ls st M) {t F : Nat} {ls : fw_L} {st : List Value} {M : fw_M}
    (h : fw_wp B fld cal thr cst scr rt Q QX code K F true (fw_seek t code) ls st M) : fw_WW p l e R s m args below meth c nL B g cf sf Qs t ls st M := by
  obtain ⟨pre2, hp2⟩ := fw_seek_suf (t := t) code
  cases hs : fw_seek t code with
  | nil => rw [hs] at h; cases F <;> exact h.elim
  | cons en2 tl2 =>
    rw [hs] at h hp2
    rw [← fw_seek_pc hs]
    exact fw_wp_sound E hchk hcst hfld hscr hcal hthr hret K hK F true pre2 tl2 en2 hp2 ls st M h
end L1
/-- a row of the table that takes what is thrown, none ahead of it -/
def fw_row_ok (own : String) (hh : List (Nat × Nat × Nat × Nat)) (p0 : Nat) (E : String) (hp : Nat) : Prop :=
  ∃ pre x suf, tableOf hh = pre ++ x :: suf ∧ covers x p0 = true ∧ x.catchType ≠ 0 ∧ x.handlerPc = hp ∧ Cond.classLink own x.catchType E ∈ fw_LW ∧ Cond.castable E E ∈ fw_xw ∧
    ∀ z ∈ pre, z.catchType ≠ 0 ∧ ∃ nm : String, Cond.classLink own z.catchType nm ∈ fw_LW ∧ ∀ U, fw_NC U → va_Nc E nm U
def fw_K0 (p0 : Nat) (asC rest : List Value) (M0 : fw_M) : fw_K := fun pc => bif Nat.beq pc p0 then some ([], fun ls st M => ls = [] ∧ st = asC.reverse ++ rest ∧ M = M0) else none
theorem fw_metH {l : Launch} {g : fw_G} {B : Nat} {y : MethodName} {cc : ByteArray} {nL : Nat} {rt : Option FieldType} {hh : List (Nat × Nat × Nat × Nat)} {rm : Room} {own : String} {code : List fw_Ent} {ct : fw_CTX}
    {ix n p0 : Nat} {yc : MethodName} {cc1 : ByteArray} {nL1 : Nat} {rt1 : Option FieldType} {rm1 : Room} {ctc : fw_CTX} {es : List (String × Int32)}
    (hy : plainName y.cls = true) (hcls : y.cls = own) (hchk : fw_chk cc nL code = true) (hcst : ∀ en ∈ code, fw_CstOK own [] en)
    (hM : fw_Met l g B yc cc1 nL1 rt1 rm1 1 6 ctc) (w1 : Cond.methodLink own ix yc ∈ fw_LW) (w2 : Cond.instanceMethod yc ∈ fw_LW) (w3 : Cond.selects (fw_cl 5).1 yc yc ∈ fw_LW) (w4 : Cond.initialized (fw_cl 5).1 ∈ fw_LW) (w5 : Cond.code yc cc1 nL1 rt1 ∈ fw_LW) (hrc : rm1.cells = 1) (hrs : rm1.slots = 6)
    (hd : yc.cls = (fw_cl 5).1 ∧ yc.cls ≠ "java/lang/invoke/MethodHandle" ∧ yc.cls ≠ "java/lang/invoke/VarHandle" ∧ (parseMethodDescriptor yc.desc).map (fun d => d.parameters.length) = some n) (hR : rm1.frames + 1 ≤ rm.frames ∧ 8 + (nL1 + 11) + rm1.locals ≤ rm.locals ∧ 1 ≤ rm.cells ∧ 6 ≤ rm.slots)
    (hd0 : decode cc p0 = .ok (.invokevirtual ix, 3))
    (hE : ∀ E k, (E, k) ∈ es → ∃ hp, fw_row_ok own hh p0 E hp ∧ ∀ (Q : Option Value → fw_M → Prop) (q : Nat) (M1 : fw_M), Q (some (.int k)) M1 → ∃ F, fw_wp B [] [] [] [] none rt Q (fun _ _ => False) code (fun _ => none) F true (fw_seek hp code) [] [.ref q] M1)
    (hw : ∀ as M Q QX, ct as M Q QX → Nat.ble (lg_sl as).length nL = true ∧ ∃ b as' rest, fw_kd B b = 5 ∧ as'.length = n ∧ (rest.map fun v => v.category).sum ≤ 8 ∧
      (∃ F, fw_wp B [] [] [] [] none rt (fun r M => Q r M ∧ M.2.2 ≤ 1) (fun _ _ => False) code (fw_K0 p0 (.ref b :: as') rest (M.1, M.2.1, 0)) F true (fw_seek 0 code) (fw_pad nL (fw_in0 as)) [] (M.1, M.2.1, 0)) ∧
      ctc (.ref b :: as') (M.1, M.2.1, 0) (fun r M1 => ∃ F, fw_wp B [] [] [] [] none rt (fun r M => Q r M ∧ M.2.2 ≤ 1) (fun _ _ => False) code (fun _ => none) F true (fw_seek (p0 + 3) code) [] (r.toList ++ rest) (M1.1, M1.2.1, 1))
        (fun E M1 => ∃ k, (E, k) ∈ es ∧ Q (some (.int k)) (M1.1, M1.2.1, 1))) : fw_MetH l g B y cc nL rt hh rm 1 6 ct := by
  intro as M Q QX hct
  obtain ⟨hlen, b, as', rest, hkb, hlen', hrest, ⟨F, hwp⟩, hcc⟩ := hw as M Q QX hct
  refine vx_ofWH (cc := cc) (maxL := nL) (ret := rt) (hh := hh) hy rfl ?_
  intro p e s m args below meth c s₁ Bd hml hv
  obtain ⟨⟨rfl, hP, hAmb⟩, hNC⟩ := hv
  have hts0 := atoms_spec (ws := fw_wsH y cc nL rt hh) Bd.pre
  have htab : c.exceptionTable.toList = tableOf hh := vx_table (x := y) Bd (hts0 _ List.mem_cons_self)
  have hown : s.vm.findClass own = some m.cls := by rw [← hcls]; exact findClass_of_methodNamed Bd.named
  have hlocks := Bd.notSynchronized
  have E : fw_Env p s m as.toArray c cc nL g own := ⟨Bd.exec, Bd.bytes, hml, hown, fun w hw => hts0 w (List.mem_cons_of_mem _ hw), hAmb.1⟩
  have hl := lv_entry as (n := nL) (Nat.le_of_ble_eq_true hlen)
  rw [lg_entry_eq]
  have hret := fw_retC (p := p) (l := l) (e := e) (R := rm) (below := below) (B := B) (mc := 1) (ms := 6) (Q := Q) (Q' := fun r M => Q r M ∧ M.2.2 ≤ 1) (XC := fw_XC g B (fun _ _ => False)) (cf := fun n => n) (sf := fun n => 6 * n) E Bd.returns hlocks (fun r M h => ⟨h.1, h.2, by have := h.2; omega⟩)
  have none_ok : ∀ (pc : Nat) (q : List Bool × (fw_L → List Value → fw_M → Prop)), (fun _ => none : fw_K) pc = some q → ∀ ls st M, q.2 ls st M → fw_WW p l e rm s m as.toArray below meth c nL B g (fun n => n) (fun n => 6 * n) (vx_MQ below (fw_Qc g B Q) (fw_XC g B (fun _ _ => False)) as.toArray s 1 6 (fun q => B ≤ q)) pc ls st M := fun pc q h => nomatch h
  have hcs : ∀ w ∈ fw_LW, w.before as.toArray s = true := E.2.2.2.2.1
  have W0 := fw_from (p := p) (l := l) (e := e) (R := rm) (below := below) (Qs := vx_MQ below (fw_Qc g B Q) (fw_XC g B (fun _ _ => False)) as.toArray s 1 6 (fun q => B ≤ q)) (scr := none) (fld := []) (cal := []) (thr := []) (cf := fun n => n) (sf := fun n => 6 * n) E hchk hcst (fun q hq => nomatch hq) trivial (fun q hq => nomatch hq) (fun q hq => nomatch hq) hret (fw_K0 p0 (.ref b :: as') rest (M.1, M.2.1, 0)) (by
    intro pc q hq ls st M1 hM1
    unfold fw_K0 at hq
    cases hpc : Nat.beq pc p0 with
    | false => rw [hpc] at hq; cases hq
    | true =>
      rw [hpc] at hq
      cases hq
      have epc := Nat.eq_of_beq_eq_true hpc
      subst epc
      obtain ⟨rfl, rfl, rfl⟩ := hM1
      intro H locs la hP hS hl1
      obtain ⟨hx, hb, hml, hown, hts, hK⟩ := E
      obtain ⟨o, ho, rfl, hko⟩ := fw_kd_at hkb (by omega)
      have hG : GoodIn fw_LW (wsV own ix (fw_cl 5).1 yc (fw_ws yc cc1 nL1 rt1)) := fw_goodIn (by
        intro w hw
        rcases List.mem_append.mp hw with hw | hw
        · simp only [List.mem_cons, List.not_mem_nil, or_false] at hw
          rcases hw with rfl | rfl | rfl | rfl
          · exact w1
          · exact w2
          · exact w3
          · exact w4
        · rcases List.mem_cons.mp hw with rfl | hw
          · exact w5
          · exact hw)
      have hrecv := va_recv (D := g.1) (cl := vwCl) (tys := fw_tys g) hK hP (ci := 5) (q0 := o) (fw_cl_get 5 (by decide)) (by rw [fw_WL_get ho, fw_ct_obj hko (by decide)])
      refine fw_callXH (mc := 1) (ms := 6) (rest := rest) (vx_runV (C := (fw_cl 5).1) (As := as') (rest := rest) ⟨hx, hb, hml, hown, hts⟩ (hM _ (M.1, M.2.1, 0) _ _ hcc) (cwV n hts hG rfl hrc hrs hd ⟨hR.1, hR.2.1⟩) ⟨fw_Pc_blind, hrecv, fun U hU hW => fw_Pc_at hAmb hP hS hU hW⟩ rfl hlen' hl1.1 (by simp) (lv_room hrest) hd0 ⟨by show 0 + 1 ≤ rm.cells; omega, by show 6 * 0 + 6 ≤ rm.slots; omega⟩) hS ?_ ?_
      · intro r M2 H1 locs1 hq hP1 hS1
        obtain ⟨F2, hq⟩ := hq
        exact fw_from (p := p) (l := l) (e := e) (R := rm) (below := below) (scr := none) (fld := []) (cal := []) (thr := []) (cf := fun n => n) (sf := fun n => 6 * n) ⟨hx, hb, hml, hown, hts, hK⟩ hchk hcst (fun q hq => nomatch hq) trivial (fun q hq => nomatch hq) (fun q hq => nomatch hq) hret (fun _ => none) none_ok hq H1 locs1 la hP1 hS1 hl1
      · intro E M2 ce q H1 locs1 hq hP1 hS1 hce hcv hcl
        obtain ⟨k, hk, hq⟩ := hq
        obtain ⟨hp, ⟨pre, x, suf, t1, t2, t3, t4, t5, t6, t7⟩, hh2⟩ := hE E k hk
        obtain ⟨F2, hF2⟩ := hh2 (fun r M => Q r M ∧ M.2.2 ≤ 1) q (M2.1, M2.2.1, 1) ⟨hq, Nat.le_refl 1⟩
        refine vx_catch hown pre x suf (by rw [htab]; exact t1) (fun z hz => Or.inr ⟨(t7 z hz).1, ?_⟩) t2 t3 (hcs _ t5) (va_Nw.use (fw_xw_tab t6) (hAmb.2.1 _ t6)) hce hcv hcl ?_
        · obtain ⟨nm, hn1, hn2⟩ := (t7 z hz).2
          exact ⟨nm, hcs _ hn1, hn2 s hNC⟩
        · rw [t4]
          exact fw_from (p := p) (l := l) (e := e) (R := rm) (below := below) (scr := none) (fld := []) (cal := []) (thr := []) (cf := fun n => n) (sf := fun n => 6 * n) ⟨hx, hb, hml, hown, hts, hK⟩ hchk hcst (fun q hq => nomatch hq) trivial (fun q hq => nomatch hq) (fun q hq => nomatch hq) hret (fun _ => none) none_ok hF2 H1 locs1 la hP1 hS1 hl1) hwp
  exact W0 s.heap [] _ hP va_S.rf ⟨hl.1, hl.2.1, fun i v hi => by
      have h1 := fw_lg_in0 (k := 0) (fw_lg_pad hi)
      rw [Nat.zero_add] at h1
      exact hl.2.2 (i, v) h1⟩
end LM

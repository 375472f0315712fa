/-! CONSTRUCTORS: contracts, calls of them, the three that call none -/
section CJ
def fw_AOs (U : State) : Prop := va_AO RX0 U ∧ va_AO RX3 U ∧ va_AO RX1 U
def fw_cA (g : fw_G) (U : State) : Prop := va_K g.1 vwCl (fw_tys g) U ∧ fw_AOs U ∧ ∀ w ∈ fw_xw, va_Nw w U
theorem fw_cA.warm {g : fw_G} {s U : State} (h : fw_cA g s) (hW : s.WarmedH U.vm) : fw_cA g U :=
  ⟨va_K.moved hW.alike h.1, ⟨va_AO.moved hW.alike h.2.1.1, va_AO.moved hW.alike h.2.1.2.1, va_AO.moved hW.alike h.2.1.2.2⟩, fun w hw => fw_xw_warm hw hW (h.2.2 w hw)⟩
def dF : Nat → List Value
  | 0 => [.int 0, .int 0, .int 0, .int 0, .int 0]
  | 1 => [.int 0, .int 0, .int 0, .int 0, .int 0, .int 0, .int 0, .null, .null]
  | 2 => [.null, .int 0, .int 0]
  | 3 => [.int 0, .int 0, .int 0, .int 0, .int 0, .int 0, .int 0, .int 0, .null, .null]
  | 4 => [.null, .null, .int 0, .int 0, .int 0]
  | 5 => [.null, .null, .null, .null]
  | _ => []
def eK (g : fw_G) (kd ln a : Nat) : va_E := match kd with
  | 0 => .inr (0, [.int 0, .int 0, .int 0, .int 0, .int (-1)])
  | 1 => .inr (1, [.int 0, .int 10, .int 0, .int 0, .int 0, .int 0, .int 0, .ref (a + 1), .ref (a + 2)])
  | 2 => .inr (2, [.ref (a + 1), .int 0, .int 0])
  | 3 => .inr (3, [.int 0, .int 0, .int 0, .int 0, .int 0, .int 0, .int 0, .int 0, .ref (a + 1), .ref (a + 2)])
  | 4 => .inr (4, [.ref (a + 1), .ref (a + 2), .int 0, .int 0, .int 0])
  | 5 => .inr (5, [.ref (a + 1), .ref (a + 82), .ref (a + 163), .ref (a + 489)])
  | 7 => .inl (g.2.1 0, ln, .inl (fun _ => 0))
  | 8 => .inl (g.2.1 1, 6, .inr (.inr (.inr (.inr (fun j => some (fw_el 8 a j))))))
  | 9 => .inl (g.2.1 2, 4, .inr (.inr (.inr (.inr (fun j => some (fw_el 9 a j))))))
  | 10 => .inl (g.2.1 3, 24, .inr (.inr (.inr (.inr (fun j => some (fw_el 10 a j))))))
  | _ => .inl (g.2.1 0, 0, .inl (fun _ => 0))
/-- a constructor: of a fresh object at A, the last cell, it makes n cells from A on -/
def fw_Ini (l : Launch) (g : fw_G) (y : MethodName) (cc : ByteArray) (nL : Nat) (rm : Room) (mc ms ci n : Nat) (EF : Nat → Nat → va_E) : Prop :=
  ∀ A : Nat, Met l y (fw_ws y cc nL none) rm (fun a st => a = #[Value.ref A] ∧ st.heap.size = A + 1 ∧ va_at g.1 vwCl (A, .inr (ci, dF ci)) st.heap ∧ fw_cA g st)
    (fun _ st oc t => oc = .returned none ∧ t.heap.size = A + n ∧ (∀ j, j < n → va_at g.1 vwCl (A + j, EF j (A + j)) t.heap) ∧ ∀ q : Nat, q < A → t.heap[q]? = st.heap[q]?) mc ms (fun q => A ≤ q)
theorem wo_i : Cond.instanceMethod Lib.objectInit ∈ fw_LW := fw_tin (by decide +kernel) (by decide +kernel)
theorem wo_c : Cond.code Lib.objectInit ⟨#[0xb1]⟩ 1 none ∈ fw_LW := fw_tin (by decide +kernel) (by decide +kernel)
theorem ini_of {l : Launch} {g : fw_G} {y : MethodName} {cc : ByteArray} {nL : Nat} {rm : Room} {mc ms ci n io : Nat} {EF : Nat → Nat → va_E} {own : String} (hn1 : 1 ≤ nL) (hcls : y.cls = own) (hy : plainName y.cls = true) (hnm : y.name = "<init>") (wob : Cond.methodLink own io Lib.objectInit ∈ fw_LW) (hd0 : decode cc 0 = .ok (.aload_n 0, 1)) (hd1 : decode cc 1 = .ok (.invokespecial io, 3)) (hRf : 1 ≤ rm.frames) (hRl : 12 ≤ rm.locals)
    (body : ∀ (p : Program) (e : Env) (s : State) (m : MethodId) (args : Array Value) (below : List Frame) (meth : Method) (c : Code) (A : Nat) (la : Array Slot) (Qx : State → Prop), fw_Env p s m args c cc nL g own → meth.name = "<init>" → fw_cA g s → lv_has la nL [(0, .ref A)] → cS g A s.heap s.heap [] 1 (fun _ => .inr (ci, dF ci)) →
      (∀ (H : Heap) (locs : List Loc) (la : Array Slot) (pc : Nat), cS g A s.heap H locs n (fun j => EF j (A + j)) → decode cc pc = .ok (.return_, 1) → W p l e rm s m args below meth c H locs mc ms Qx (F0 m pc la [])) → W p l e rm s m args below meth c s.heap [] 0 0 Qx (F0 m 4 la [])) : fw_Ini l g y cc nL rm mc ms ci n EF := by
  intro A
  refine Met.ofW (cc := cc) (maxL := nL) (ret := none) hy rfl ?_
  intro p e s m args below meth c s₁ Bd hml hv
  obtain ⟨rfl, hsz, hat, hcA⟩ := hv
  have hts0 := atoms_spec (ws := fw_ws y cc nL none) Bd.pre
  have hown : s.vm.findClass own = some m.cls := by rw [← hcls]; exact findClass_of_methodNamed Bd.named
  have hlocks := Bd.notSynchronized
  have hin : meth.name = "<init>" := by rw [← hnm]; exact (name_of_methodNamed Bd.named Bd.method).1
  have En : fw_Env p s m #[Value.ref A] c cc nL g own := ⟨Bd.exec, Bd.bytes, hml, hown, fun w hw => hts0 w (List.mem_cons_of_mem _ hw), hcA.1⟩
  have hl := lv_entry ([Value.ref A]) (n := nL) (by show 1 ≤ nL; exact hn1)
  rw [show (#[Value.ref A] : Array Value) = [Value.ref A].toArray from rfl, lg_entry_eq]
  generalize (lg_sl ([Value.ref A]) ++ List.replicate (nL - (lg_sl ([Value.ref A])).length) Slot.unset).toArray = la at hl ⊢
  have hl : lv_has la nL [(0, .ref A)] := hl
  have hts := En.2.2.2.2.1
  refine lv_aload_n Bd.exec Bd.bytes hd0 rfl (lv_at hl 0 rfl) ?_
  refine W.objInit Bd.exec Bd.bytes hown (hts _ wob) (hts _ wo_i) (hts _ wo_c) rfl (by rw [hml]; exact hl.1) rfl hd1 hRf (by show 2 * 0 + 0 + 12 ≤ rm.locals; omega) ?_
  refine W.eq (g2 := F0 m 4 la []) rfl ?_
  refine body p e s m _ below meth c A la _ En hin hcA hl ⟨hsz, fun j hj => by rw [show j = 0 by omega]; exact hat, fun _ _ => rfl, fun z hz => nomatch hz⟩ ?_
  intro H locs la2 pc h hdr
  exact W.vret Bd.exec Bd.bytes Bd.returns (fun t ht hW => ⟨rfl, by rw [ht]; exact h.1, by rw [ht]; exact h.2.1, by rw [ht]; exact h.2.2.1⟩) h.2.2.2 hdr
section C3
variable {p : Program} {l : Launch} {e : Env} {R : Room} {s : State} {m : MethodId} {args : Array Value} {below : List Frame} {meth : Method} {c : Code} {Q : State → Prop} {cc : ByteArray} {nL : Nat} {g : fw_G} {own : String}
variable {H0 H : Heap} {locs : List Loc} {cells slots pc A k : Nat} {la : Array Slot} {rest : List Value} {E : Nat → va_E}
theorem cS_back {mc ms ci n : Nat} {EF : Nat → Nat → va_E} {a : Array Value} (hrun : va_Run p l e R s m args below meth c H locs cells slots mc ms (F0 m pc la (.ref (A + k) :: rest)) rest (fun st oc t => oc = .returned none ∧ t.heap.size = A + k + n ∧ (∀ j, j < n → va_at g.1 vwCl (A + k + j, EF j (A + k + j)) t.heap) ∧ ∀ q : Nat, q < A + k → t.heap[q]? = st.heap[q]?) (fun q => A + k ≤ q))
    (h : cS g A H0 H locs (k + 1) E) (kk : ∀ (H1 : Heap) (locs1 : List Loc), cS g A H0 H1 locs1 (k + n) (fun j => if j < k then E j else EF (j - k) (A + j)) → W p l e R s m args below meth c H1 locs1 (cells + mc) (slots + ms) Q (F0 m (pc + 3) la rest)) : W p l e R s m args below meth c H locs cells slots Q (F0 m pc la (.ref (A + k) :: rest)) := by
  intro T hT X
  obtain ⟨v, st₀, t, T', L, h0, X', hL, e1, e2, ⟨hv, hz, hat, hfr⟩, st⟩ := hrun T hT X
  cases hv
  obtain ⟨a1, a2, a3, a4⟩ := h
  have key : cS g A H0 T'.heap (locs ++ L) (k + n) (fun j => if j < k then E j else EF (j - k) (A + j)) := by
    refine ⟨by rw [e1, hz, Nat.add_assoc], fun j hj => ?_, fun q hq => ?_, fun z hz => ?_⟩
    · rw [e1]
      dsimp only
      by_cases c : j < k
      · rw [if_pos c]; exact at_kept (a2 j (by omega)) (by rw [hfr (A + j) (by omega), h0])
      · rw [if_neg c]
        have := hat (j - k) (by omega)
        rw [show A + k + (j - k) = A + j by omega] at this
        exact this
    · rw [e1, hfr q (by omega), h0]; exact a3 q hq
    · rcases List.mem_append.mp hz with y | y
      · exact a4 z y
      · exact Nat.le_trans (Nat.le_add_right A k) (hL z y)
  obtain ⟨t2, b1, b2⟩ := kk T'.heap (locs ++ L) key T' rfl X'
  exact ⟨t2, st t2 b1, b2⟩
theorem ini_pre {ci : Nat} (En : fw_Env p s m args c cc nL g own) (hcA : fw_cA g s) (h : cS g A H0 H locs (k + 1) E) (he : E k = .inr (ci, dF ci)) : PreS s H (fun a st => a = #[Value.ref (A + k)] ∧ st.heap.size = A + k + 1 ∧ va_at g.1 vwCl (A + k, .inr (ci, dF ci)) st.heap ∧ fw_cA g st) (Value.ref (A + k) :: []) := by
  refine ⟨fun a U gg mk q => ?_, fun U hU hW => ⟨rfl, by rw [hU]; exact h.1, by rw [hU, ← he]; exact h.2.1 k (Nat.lt_succ_self k), hcA.warm hW⟩⟩
  obtain ⟨q0, q1, q2, q3, q4, q5⟩ := q
  exact ⟨q0, q1, q2, va_K.moved (u := U) (U := U.calling gg mk a) (Vm.Alike.refl U.vm) q3, ⟨va_AO.moved (u := U) (U := U.calling gg mk a) (Vm.Alike.refl U.vm) q4.1, va_AO.moved (u := U) (U := U.calling gg mk a) (Vm.Alike.refl U.vm) q4.2.1, va_AO.moved (u := U) (U := U.calling gg mk a) (Vm.Alike.refl U.vm) q4.2.2⟩, fun w hw => va_Nw.same (u := U) (U := U.calling gg mk a) (fw_xw_tab hw) rfl (q5 w hw)⟩
theorem cS_call {y : MethodName} {cc1 : ByteArray} {nL1 : Nat} {rm1 : Room} {mc ms ci n ix : Nat} {EF : Nat → Nat → va_E} (En : fw_Env p s m args c cc nL g own) (hcA : fw_cA g s) (hM : fw_Ini l g y cc1 nL1 rm1 mc ms ci n EF) (hla : la.size = nL) (h : cS g A H0 H locs (k + 1) E) (he : E k = .inr (ci, dF ci))
    (w1 : Cond.methodLink own ix y ∈ fw_LW) (w2 : Cond.instanceMethod y ∈ fw_LW) (w4 : Cond.initialized y.cls ∈ fw_LW) (w5 : Cond.code y cc1 nL1 none ∈ fw_LW) (hrc : rm1.cells = mc) (hrs : rm1.slots = ms) (hy1 : y.name = "<init>")
    (hd : y.cls ≠ "java/lang/invoke/MethodHandle" ∧ y.cls ≠ "java/lang/invoke/VarHandle" ∧ (parseMethodDescriptor y.desc).map (fun d => d.parameters.length) = some 0) (hR : rm1.frames + 1 ≤ R.frames ∧ 8 + (nL1 + 11) + rm1.locals ≤ R.locals) (hf : cells + mc ≤ R.cells ∧ slots + ms ≤ R.slots) (hrest : (rest.map fun v => v.category).sum ≤ 8) (hdg : decode cc pc = .ok (.invokespecial ix, 3))
    (kk : ∀ (H1 : Heap) (locs1 : List Loc), cS g A H0 H1 locs1 (k + n) (fun j => if j < k then E j else EF (j - k) (A + j)) → W p l e R s m args below meth c H1 locs1 (cells + mc) (slots + ms) Q (F0 m (pc + 3) la rest)) : W p l e R s m args below meth c H locs cells slots Q (F0 m pc la (.ref (A + k) :: rest)) := by
  obtain ⟨hx, hb, hml, hown, hts, hK⟩ := En
  have hG : GoodIn fw_LW (fw_ws y cc1 nL1 none) := fw_goodIn (by
    intro w hw
    rcases List.mem_cons.mp hw with rfl | hw
    · exact w5
    · exact hw)
  exact cS_back (ci := ci) (a := #[]) (va_runI (As := []) (rest := rest) ⟨hx, hb, hml, hown, hts⟩ (hM (A + k)) (cwI 0 hts hG rfl hrc hrs (hts _ w4) (hts _ w1) (hts _ w2) hy1 hd hR) (ini_pre ⟨hx, hb, hml, hown, hts, hK⟩ hcA h he) rfl rfl hla rfl (lv_room hrest) hdg hf) h kk
theorem cS_callN {y : MethodName} {cc1 : ByteArray} {nL1 : Nat} {rm1 : Room} {mc ms ci n ix : Nat} {host : String} {EF : Nat → Nat → va_E} (En : fw_Env p s m args c cc nL g own) (hcA : fw_cA g s) (hM : fw_Ini l g y cc1 nL1 rm1 mc ms ci n EF) (hla : la.size = nL) (h : cS g A H0 H locs (k + 1) E) (he : E k = .inr (ci, dF ci))
    (w1 : Cond.methodLinkNest own ix y host ∈ fw_xw) (w2 : Cond.instanceMethod y ∈ fw_LW) (w4 : Cond.initialized y.cls ∈ fw_LW) (w5 : Cond.code y cc1 nL1 none ∈ fw_LW) (hrc : rm1.cells = mc) (hrs : rm1.slots = ms) (hy1 : y.name = "<init>")
    (hd : y.cls ≠ "java/lang/invoke/MethodHandle" ∧ y.cls ≠ "java/lang/invoke/VarHandle" ∧ (parseMethodDescriptor y.desc).map (fun d => d.parameters.length) = some 0) (hR : rm1.frames + 1 ≤ R.frames ∧ 8 + (nL1 + 11) + rm1.locals ≤ R.locals) (hf : cells + mc ≤ R.cells ∧ slots + ms ≤ R.slots) (hrest : (rest.map fun v => v.category).sum ≤ 8) (hdg : decode cc pc = .ok (.invokespecial ix, 3))
    (kk : ∀ (H1 : Heap) (locs1 : List Loc), cS g A H0 H1 locs1 (k + n) (fun j => if j < k then E j else EF (j - k) (A + j)) → W p l e R s m args below meth c H1 locs1 (cells + mc) (slots + ms) Q (F0 m (pc + 3) la rest)) : W p l e R s m args below meth c H locs cells slots Q (F0 m pc la (.ref (A + k) :: rest)) := by
  obtain ⟨hx, hb, hml, hown, hts, hK⟩ := En
  have hG : GoodIn fw_LW (fw_ws y cc1 nL1 none) := fw_goodIn (by
    intro w hw
    rcases List.mem_cons.mp hw with rfl | hw
    · exact w5
    · exact hw)
  exact cS_back (ci := ci) (a := #[]) (va_runIN (As := []) (rest := rest) ⟨hx, hb, hml, hown, hts⟩ (hM (A + k)) ⟨va_cnB 0 hts hG rfl hrc hrs (hcA.2.2 _ w1) (hts _ w4) hd hR, hy1, hts _ w2⟩ (ini_pre ⟨hx, hb, hml, hown, hts, hK⟩ hcA h he) rfl rfl hla rfl (lv_room hrest) hdg hf) h kk
end C3
end CJ

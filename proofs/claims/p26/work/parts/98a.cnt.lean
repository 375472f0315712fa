/-! THE LAW'S METHODS THAT MAKE CELLS: counted -/
section LCT
section L2
variable {p : Program} {l : Launch} {e : Env} {R : Room} {s : State} {m : MethodId} {args : Array Value} {below : List Frame} {meth : Method} {c : Code} {Qs : State → Prop} {cc : ByteArray} {nL B : Nat} {g : fw_G} {own : String}
variable {mc ms : Nat}
/-- ends, in a world with one more row -/
theorem fw_retD {g2 : fw_G} {rt : Option FieldType} {Q Q' : Option Value → fw_M → Prop} {XC : String → State → State → Prop} {cf sf : Nat → Nat}
    (E : fw_Env p s m args c cc nL g2 own) (hdrop : ∀ (M : fw_M) (H : Heap), va_P g2.1 vwCl (fw_WL g2 B M) H → va_P g.1 vwCl (fw_WL g B M) H) (hr : meth.sig.returnType = rt) (hlocks : meth.locks = false) (hQ : ∀ r M, Q' r M → Q r M ∧ cf M.2.2 ≤ mc ∧ sf M.2.2 ≤ ms) : fw_RetOK p l e R s m args below meth c cc nL B g2 cf sf (vx_MQ below (fw_Qc g B Q) XC args s mc ms (fun q => B ≤ q)) rt Q' := by
  obtain ⟨hx, hb, hml, hown, hts, hK⟩ := E
  have key : ∀ {H : Heap} {locs : List Loc} {M : fw_M} {r : Option Value}, va_P g2.1 vwCl (fw_WL g2 B M) H → va_S (fun q => B ≤ q) s.heap H locs → Q r M → ∀ t : State, t.heap = H → s.WarmedH t.vm → fw_Qc g B Q args s (.returned r) t := by
    intro H locs M r hP hS hq t ht hW
    exact ⟨⟨r, M, rfl, hq, by rw [ht]; exact hdrop M H hP⟩, hS.F ht⟩
  intro pc ls st M
  refine ⟨?_, ?_, ?_, ?_, ?_⟩
  · intro hd h
    unfold fw_endi at h
    split at h
    · intro H locs la hP hS hl
      obtain ⟨h, h1, h2⟩ := hQ _ _ h
      exact vx_ret (W.widen (k := mc) (n := ms) h1 h2 (W.iret hx hb hr (key hP hS h) hS.2.2 hd))
    · obtain ⟨hz, h⟩ := h
      intro H locs la hP hS hl
      obtain ⟨h, h1, h2⟩ := hQ _ _ h
      exact vx_ret (W.widen (k := mc) (n := ms) h1 h2 (W.zret hx hb hr (by rcases hz with rfl | rfl <;> rfl) (key hP hS h) hS.2.2 hd))
    · exact h.elim
  · intro hd h
    unfold fw_enda at h
    split at h
    · intro H locs la hP hS hl
      obtain ⟨h, h1, h2⟩ := hQ _ _ h
      exact vx_ret (W.widen (k := mc) (n := ms) h1 h2 (W.aret hx hb hr (Or.inl ⟨_, rfl⟩) (Or.inr ⟨_, rfl⟩) (key hP hS h) hS.2.2 hd))
    · intro H locs la hP hS hl
      obtain ⟨h, h1, h2⟩ := hQ _ _ h
      exact vx_ret (W.widen (k := mc) (n := ms) h1 h2 (W.aret hx hb hr (Or.inl ⟨_, rfl⟩) (Or.inl rfl) (key hP hS h) hS.2.2 hd))
    · exact h.elim
  · intro hd h
    unfold fw_endl at h
    split at h
    · intro H locs la hP hS hl
      obtain ⟨h, h1, h2⟩ := hQ _ _ h
      exact vx_ret (W.widen (k := mc) (n := ms) h1 h2 (W.lret hx hb hr (key hP hS h) hS.2.2 hd))
    · exact h.elim
  · intro hd h
    unfold fw_endd at h
    split at h
    · intro H locs la hP hS hl
      obtain ⟨h, h1, h2⟩ := hQ _ _ h
      exact vx_ret (W.widen (k := mc) (n := ms) h1 h2 (W.dret hx hb hr (key hP hS h) hS.2.2 hd))
    · exact h.elim
  · intro hd h
    unfold fw_endv at h
    split at h
    · intro H locs la hP hS hl
      obtain ⟨h, h1, h2⟩ := hQ _ _ h
      exact vx_ret (W.widen (k := mc) (n := ms) h1 h2 (W.vret hx hb hr (key hP hS h) hS.2.2 hd))
    · exact h.elim
end L2
theorem fw_NC.warm {s U : State} (h : fw_NC s) (hvm : s.vm.Alike U.vm) : fw_NC U := ⟨va_Nc.moved hvm h.1, va_Nc.moved hvm h.2⟩
def fw_CalL (l : Launch) (g : fw_G) (B : Nat) (own : String) (R : Room) (C0 S0 : Nat) (q : fw_Cal) : Prop :=
  ∀ (p : Program) (e : Env) (s : State) (m : MethodId) (args : Array Value) (below : List Frame) (meth : Method) (c : Code) (cc : ByteArray) (nL : Nat) (Qs : State → Prop), fw_Env p s m args c cc nL g own → fw_Amb g B s s.heap → fw_NC s → fw_CallOK p l e R s m args below meth c cc nL B g (fun n => C0 + n) (fun n => S0 + 6 * n) Qs q
/-- a contract that asks X of the state beside the cells -/
def fw_PcX (g : fw_G) (B : Nat) (X : State → Prop) (as : List Value) (M : fw_M) : Array Value → State → Prop := fun a st => fw_Pc g B as M a st ∧ X st
def fw_MetX (l : Launch) (g : fw_G) (B : Nat) (X : State → Prop) (y : MethodName) (cc : ByteArray) (nL : Nat) (rt : Option FieldType) (rm : Room) (mc ms : Nat) (ct : fw_CTX) : Prop :=
  ∀ as M Q QX, ct as M Q QX → vx_Met l y (fw_ws y cc nL rt) rm (fw_PcX g B X as M) (fw_Qc g B Q) (fw_XC g B (fun _ _ => False)) mc ms (fun q => B ≤ q)
theorem fw_blX {X : State → Prop} (hX : ∀ (U : State) gg mk a, X U → X (U.calling gg mk a)) {g : fw_G} {B : Nat} {as : List Value} {M : fw_M} : FrameBlind (fw_PcX g B X as M) := fun a U gg mk h => ⟨fw_Pc_blind a U gg mk h.1, hX U gg mk a h.2⟩
/-- a call of an own static method that makes cells or none -/
theorem fw_lwX {l : Launch} {g : fw_G} {B : Nat} {own : String} {R : Room} {C0 S0 K inc mc ms : Nat} {X : State → Prop} {y : MethodName} {cc1 : ByteArray} {nL1 : Nat} {rt1 : Option FieldType} {rm1 : Room} {ct : fw_CTX} {ix ci n : Nat} (hM : fw_MetX l g B X y cc1 nL1 rt1 rm1 mc ms ct) (hX : ∀ (U : State) gg mk a, X U → X (U.calling gg mk a))
    (w1 : Cond.methodLink own ix y ∈ fw_LW) (w2 : Cond.static y ∈ fw_LW) (w4 : Cond.initialized own ∈ fw_LW) (w5 : Cond.code y cc1 nL1 rt1 ∈ fw_LW) (hrc : rm1.cells = mc) (hrs : rm1.slots = ms)
    (hd : y.cls = own ∧ y.cls ≠ "java/lang/invoke/MethodHandle" ∧ y.cls ≠ "java/lang/invoke/VarHandle" ∧ (parseMethodDescriptor y.desc).map (fun d => d.parameters.length) = some n) (hR : rm1.frames + 1 ≤ R.frames ∧ 8 + (nL1 + 11) + rm1.locals ≤ R.locals) (hm : mc ≤ inc + 1 ∧ ms ≤ 6 * (inc + 1)) (hroom : C0 + K + mc ≤ R.cells ∧ S0 + 6 * K + ms ≤ R.slots) :
    ∀ (p : Program) (e : Env) (s : State) (m : MethodId) (args : Array Value) (below : List Frame) (meth : Method) (c : Code) (cc : ByteArray) (nL : Nat) (Qs : State → Prop), fw_Env p s m args c cc nL g own → fw_Amb g B s s.heap → (∀ (U : State) (H : Heap) (locs : List Loc), va_S (fun q => B ≤ q) s.heap H locs → U.heap = H → s.WarmedH U.vm → X U) →
      fw_CallOK p l e R s m args below meth c cc nL B g (fun n => C0 + n) (fun n => S0 + 6 * n) Qs (ix, 1, ci, n, inc + 1, fun as M Q => M.2.2 ≤ K ∧ ct as M Q (fun _ _ => False)) := by
  intro p e s m args below meth c cc nL Qs E hAmb hXs pc as rest M ls Qr hk hlen hrest hct hq H locs la hP hS hl
  obtain ⟨hcnt, hct⟩ := hct
  have hcnt : M.2.2 ≤ K := hcnt
  obtain ⟨hx, hb, hml, hown, hts, hK⟩ := E
  rcases hk with ⟨h0, -⟩ | ⟨-, hdg⟩
  · cases h0
  · have hG : GoodIn fw_LW (wsS own ix y (fw_ws y cc1 nL1 rt1)) := fw_goodIn (by
      intro w hw
      rcases List.mem_append.mp hw with hw | hw
      · simp only [List.mem_cons, List.not_mem_nil, or_false] at hw
        rcases hw with rfl | rfl | rfl
        · exact w1
        · exact w2
        · exact w4
      · rcases List.mem_cons.mp hw with rfl | hw
        · exact w5
        · exact hw)
    refine fw_callX (mc := mc) (ms := ms) (vx_runS (As := as) (rest := rest) ⟨hx, hb, hml, hown, hts⟩ (hM _ M Qr (fun _ _ => False) hct) (cwS n hts hG rfl hrc hrs hd hR) ⟨fw_blX hX, fun U hU hW => ⟨fw_Pc_at hAmb hP hS hU hW, hXs U H locs hS hU hW⟩⟩ rfl hlen hl.1 rfl (lv_room hrest) hdg ⟨by show C0 + M.2.2 + mc ≤ R.cells; omega, by show S0 + 6 * M.2.2 + ms ≤ R.slots; omega⟩) hS ?_
    intro r M' H1 locs1 hqr hP1 hS1
    exact W.widen (k := C0 + (M.2.2 + (inc + 1))) (n := S0 + 6 * (M.2.2 + (inc + 1))) (by show C0 + M.2.2 + mc ≤ C0 + (M.2.2 + (inc + 1)); omega) (by show S0 + 6 * M.2.2 + ms ≤ S0 + 6 * (M.2.2 + (inc + 1)); omega) (hq r M' hqr H1 locs1 la hP1 hS1 hl)
theorem fw_lwN {l : Launch} {g : fw_G} {B : Nat} {own : String} {R : Room} {C0 S0 K inc mc ms : Nat} {y : MethodName} {cc1 : ByteArray} {nL1 : Nat} {rt1 : Option FieldType} {rm1 : Room} {ct : fw_CTX} {ix ci n : Nat} (hM : fw_MetX l g B fw_NC y cc1 nL1 rt1 rm1 mc ms ct)
    (w1 : Cond.methodLink own ix y ∈ fw_LW) (w2 : Cond.static y ∈ fw_LW) (w4 : Cond.initialized own ∈ fw_LW) (w5 : Cond.code y cc1 nL1 rt1 ∈ fw_LW) (hrc : rm1.cells = mc) (hrs : rm1.slots = ms)
    (hd : y.cls = own ∧ y.cls ≠ "java/lang/invoke/MethodHandle" ∧ y.cls ≠ "java/lang/invoke/VarHandle" ∧ (parseMethodDescriptor y.desc).map (fun d => d.parameters.length) = some n) (hR : rm1.frames + 1 ≤ R.frames ∧ 8 + (nL1 + 11) + rm1.locals ≤ R.locals) (hm : mc ≤ inc + 1 ∧ ms ≤ 6 * (inc + 1)) (hroom : C0 + K + mc ≤ R.cells ∧ S0 + 6 * K + ms ≤ R.slots) :
    fw_CalL l g B own R C0 S0 (ix, 1, ci, n, inc + 1, fun as M Q => M.2.2 ≤ K ∧ ct as M Q (fun _ _ => False)) :=
  fun p e s m args below meth c cc nL Qs E hAmb hNC => fw_lwX hM (fun U gg mk a q => fw_NC.warm (U := U.calling gg mk a) q (Vm.Alike.refl U.vm)) w1 w2 w4 w5 hrc hrs hd hR hm hroom p e s m args below meth c cc nL Qs E hAmb (fun U H locs hS hU hW => hNC.warm hW.alike)
theorem fw_MetX_of {l : Launch} {g : fw_G} {B : Nat} {y : MethodName} {cc1 : ByteArray} {nL1 : Nat} {rt1 : Option FieldType} {rm1 : Room} {ct : fw_CTX} (hM : fw_Met l g B y cc1 nL1 rt1 rm1 0 0 ct) (hct : ∀ as M Q QX, ct as M Q QX → ct as M Q (fun _ _ => False)) : fw_MetX l g B (fun _ => True) y cc1 nL1 rt1 rm1 0 0 ct := by
  intro as M Q QX h p e ha hc hk s m args below hf hs hp
  exact hM as M Q (fun _ _ => False) (hct as M Q QX h) p e ha hc hk s m args below hf hs hp.1
theorem fw_lwS {l : Launch} {g : fw_G} {B : Nat} {own : String} {R : Room} {C0 S0 K inc : Nat} {y : MethodName} {cc1 : ByteArray} {nL1 : Nat} {rt1 : Option FieldType} {rm1 : Room} {ct : fw_CTX} {ix ci n : Nat} (hM : fw_Met l g B y cc1 nL1 rt1 rm1 0 0 ct) (hct : ∀ as M Q QX, ct as M Q QX → ct as M Q (fun _ _ => False))
    (w1 : Cond.methodLink own ix y ∈ fw_LW) (w2 : Cond.static y ∈ fw_LW) (w4 : Cond.initialized own ∈ fw_LW) (w5 : Cond.code y cc1 nL1 rt1 ∈ fw_LW) (hrc : rm1.cells = 0) (hrs : rm1.slots = 0)
    (hd : y.cls = own ∧ y.cls ≠ "java/lang/invoke/MethodHandle" ∧ y.cls ≠ "java/lang/invoke/VarHandle" ∧ (parseMethodDescriptor y.desc).map (fun d => d.parameters.length) = some n) (hR : rm1.frames + 1 ≤ R.frames ∧ 8 + (nL1 + 11) + rm1.locals ≤ R.locals) (hroom : C0 + K + 0 ≤ R.cells ∧ S0 + 6 * K + 0 ≤ R.slots) :
    fw_CalL l g B own R C0 S0 (ix, 1, ci, n, inc + 1, fun as M Q => M.2.2 ≤ K ∧ ct as M Q (fun _ _ => False)) :=
  fun p e s m args below meth c cc nL Qs E hAmb _ => fw_lwX (fw_MetX_of hM hct) (fun _ _ _ _ _ => trivial) w1 w2 w4 w5 hrc hrs hd hR ⟨Nat.zero_le _, Nat.zero_le _⟩ hroom p e s m args below meth c cc nL Qs E hAmb (fun _ _ _ _ _ _ => trivial)
/-- a call of a helper that catches -/
theorem fw_lwT {l : Launch} {g : fw_G} {B : Nat} {own : String} {R : Room} {C0 S0 K inc : Nat} {y : MethodName} {cc1 : ByteArray} {nL1 : Nat} {rt1 : Option FieldType} {hh : List (Nat × Nat × Nat × Nat)} {rm1 : Room} {ct : fw_CTX} {ix ci n : Nat} (hM : fw_MetH l g B y cc1 nL1 rt1 hh rm1 1 6 ct)
    (w1 : Cond.methodLink own ix y ∈ fw_LW) (w2 : Cond.static y ∈ fw_LW) (w4 : Cond.initialized y.cls ∈ fw_LW) (w5 : Cond.codeWith y cc1 nL1 rt1 hh ∈ fw_LW) (hrc : rm1.cells = 1) (hrs : rm1.slots = 6)
    (hd : y.cls ≠ "java/lang/invoke/MethodHandle" ∧ y.cls ≠ "java/lang/invoke/VarHandle" ∧ (parseMethodDescriptor y.desc).map (fun d => d.parameters.length) = some n) (hR : rm1.frames + 1 ≤ R.frames ∧ 8 + (nL1 + 11) + rm1.locals ≤ R.locals) (hroom : C0 + K + 1 ≤ R.cells ∧ S0 + 6 * K + 6 ≤ R.slots) :
    fw_CalL l g B own R C0 S0 (ix, 1, ci, n, inc + 1, fun as M Q => M.2.2 ≤ K ∧ ct as M Q (fun _ _ => False)) := by
  intro p e s m args below meth c cc nL Qs E hAmb hNC pc as rest M ls Qr hk hlen hrest hct hq H locs la hP hS hl
  obtain ⟨hcnt, hct⟩ := hct
  have hcnt : M.2.2 ≤ K := hcnt
  obtain ⟨hx, hb, hml, hown, hts, hK⟩ := E
  rcases hk with ⟨h0, -⟩ | ⟨-, hdg⟩
  · cases h0
  · have hG : GoodIn fw_LW (va_wsS own ix y (fw_wsH y cc1 nL1 rt1 hh)) := fw_goodIn (by
      intro w hw
      rcases List.mem_append.mp hw with hw | hw
      · simp only [List.mem_cons, List.not_mem_nil, or_false] at hw
        rcases hw with rfl | rfl | rfl
        · exact w1
        · exact w2
        · exact w4
      · rcases List.mem_cons.mp hw with rfl | hw
        · exact w5
        · exact hw)
    refine fw_callX (mc := 1) (ms := 6) (vx_runSX (As := as) (rest := rest) (hh := hh) ⟨hx, hb, hml, hown, hts⟩ (hM _ M Qr (fun _ _ => False) hct) (vx_cwSW n hts hG rfl hrc hrs hd hR) ⟨fun a U gg mk q => ⟨fw_Pc_blind a U gg mk q.1, fw_NC.warm (U := U.calling gg mk a) q.2 (Vm.Alike.refl U.vm)⟩, fun U hU hW => ⟨fw_Pc_at hAmb hP hS hU hW, hNC.warm hW.alike⟩⟩ rfl hlen hl.1 rfl (lv_room hrest) hdg ⟨by show C0 + M.2.2 + 1 ≤ R.cells; omega, by show S0 + 6 * M.2.2 + 6 ≤ R.slots; omega⟩) hS ?_
    intro r M' H1 locs1 hqr hP1 hS1
    exact W.widen (k := C0 + (M.2.2 + (inc + 1))) (n := S0 + 6 * (M.2.2 + (inc + 1))) (by show C0 + M.2.2 + 1 ≤ C0 + (M.2.2 + (inc + 1)); omega) (by show S0 + 6 * M.2.2 + 6 ≤ S0 + 6 * (M.2.2 + (inc + 1)); omega) (hq r M' hqr H1 locs1 la hP1 hS1 hl)
/-- the script in the state -/
def fw_XS (g : fw_G) (B b L : Nat) (xs : Nat → Int32) (st : State) : Prop := fw_ScrOK st B g (some (b, L, some xs))
theorem fw_XS_at {g : fw_G} {B b L : Nat} {xs : Nat → Int32} {s U : State} {H : Heap} {locs : List Loc} (h : fw_XS g B b L xs s) (hS : va_S (fun q => B ≤ q) s.heap H locs) (hU : U.heap = H) (hW : s.WarmedH U.vm) : fw_XS g B b L xs U := by
  obtain ⟨h1, h2, h3⟩ := h
  refine ⟨?_, ?_, h3⟩
  · rw [hU]
    exact va_X.moved hW.alike (h1.kept (hS.2.1 b h2 h3))
  · rw [hU]
    exact Nat.lt_of_lt_of_le h2 hS.1
theorem fw_XS_bl {g : fw_G} {B b L : Nat} {xs : Nat → Int32} (U : State) (gg : JFrame) (mk : MethodId) (a : Array Value) (h : fw_XS g B b L xs U) : fw_XS g B b L xs (U.calling gg mk a) := by
  obtain ⟨h1, h2, h3⟩ := h
  exact ⟨va_X.moved (u := U) (U := U.calling gg mk a) (Vm.Alike.refl U.vm) h1, h2, h3⟩
/-- a method that reads the script, makes nothing -/
theorem fw_metS {l : Launch} {g : fw_G} {B b L : Nat} {xs : Nat → Int32} {y : MethodName} {cc : ByteArray} {nL : Nat} {rt : Option FieldType} {rm : Room} {own : String} {code : List fw_Ent} {ct : fw_CTX}
    (hy : plainName y.cls = true) (hcls : y.cls = own) (hchk : fw_chk cc nL code = true) (hcst : ∀ en ∈ code, fw_CstOK own [] en)
    (hw : ∀ as M Q QX, ct as M Q QX → Nat.ble (lg_sl as).length nL = true ∧ ∃ F, fw_wp B [] [] [] [] (some (b, L, some xs)) rt Q (fun _ _ => False) code (fw_Ka []) F true (fw_seek 0 code) (fw_pad nL (fw_in0 as)) [] M) : fw_MetX l g B (fw_XS g B b L xs) y cc nL rt rm 0 0 ct := by
  intro as M Q QX hct
  obtain ⟨hlen, F, hwp⟩ := hw as M Q QX hct
  refine vx_ofW (cc := cc) (maxL := nL) (ret := rt) hy rfl ?_
  intro p e s m args below meth c s₁ Bd hml hex hv
  obtain ⟨⟨rfl, hP, hAmb⟩, hXs⟩ := hv
  have hts0 := atoms_spec (ws := fw_ws y cc nL rt) Bd.pre
  have hown : s.vm.findClass own = some m.cls := by rw [← hcls]; exact findClass_of_methodNamed Bd.named
  have hlocks := Bd.notSynchronized
  have E : fw_Env p s m as.toArray c cc nL g own := ⟨Bd.exec, Bd.bytes, hml, hown, fun w hw => hts0 w (List.mem_cons_of_mem _ hw), hAmb.1⟩
  have hl := lv_entry as (n := nL) (Nat.le_of_ble_eq_true hlen)
  rw [lg_entry_eq]
  exact fw_body (p := p) (l := l) (e := e) (R := rm) (Qs := vx_MQ below (fw_Qc g B Q) (fw_XC g B (fun _ _ => False)) as.toArray s 0 0 (fun q => B ≤ q)) (cf := fun _ => 0) (sf := fun _ => 0) (scr := some (b, L, some xs)) (fld := []) (cal := []) (thr := []) E hchk hcst (fun q hq => nomatch hq) hXs
    (fun q hq => nomatch hq) (fun q hq => nomatch hq) (fw_ret E Bd.returns hlocks) [] (fun q hq => nomatch hq) hwp s.heap [] _ hP va_S.rf
    ⟨hl.1, hl.2.1, fun i v hi => by
      have h1 := fw_lg_in0 (k := 0) (fw_lg_pad hi)
      rw [Nat.zero_add] at h1
      exact hl.2.2 (i, v) h1⟩
/-- a walk that counts -/
def fw_WkN (B : Nat) (cal : List fw_Cal) (rt : Option FieldType) (code : List fw_Ent) (nL K : Nat) (ct : fw_CTX) : Prop :=
  ∀ as M Q QX, ct as M Q QX → Nat.ble (lg_sl as).length nL = true ∧ ∃ A : fw_AL, (∃ F, fw_wp B [] cal [] [] none rt (fun r M => Q r M ∧ M.2.2 ≤ K) (fun _ _ => False) code (fw_Ka A) F true (fw_seek 0 code) (fw_pad nL (fw_in0 as)) [] (M.1, M.2.1, 0)) ∧
    ∀ q ∈ A, ∀ n ls st M', q.2.2 n ls st M' → ∃ F, fw_wp B [] cal [] [] none rt (fun r M => Q r M ∧ M.2.2 ≤ K) (fun _ _ => False) code (fw_Kn A n) F true (fw_seek q.1 code) ls st M'
theorem fw_metN {l : Launch} {g : fw_G} {B : Nat} {y : MethodName} {cc : ByteArray} {nL : Nat} {rt : Option FieldType} {rm : Room} {mc ms K : Nat} {own : String} {code : List fw_Ent} {cal : List fw_Cal} {ct : fw_CTX}
    (hy : plainName y.cls = true) (hcls : y.cls = own) (hchk : fw_chk cc nL code = true) (hcst : ∀ en ∈ code, fw_CstOK own [] en) (hcal : ∀ q ∈ cal, fw_CalL l g B own rm 0 0 q) (hmc : K ≤ mc) (hms : 6 * K ≤ ms)
    (hw : fw_WkN B cal rt code nL K ct) : fw_MetX l g B fw_NC y cc nL rt rm mc ms ct := by
  intro as M Q QX hct
  obtain ⟨hlen, A, ⟨F, hwp⟩, hA⟩ := hw as M Q QX hct
  refine vx_ofW (cc := cc) (maxL := nL) (ret := rt) hy rfl ?_
  intro p e s m args below meth c s₁ Bd hml hex hv
  obtain ⟨⟨rfl, hP, hAmb⟩, hNC⟩ := hv
  have hts0 := atoms_spec (ws := fw_ws y cc nL rt) Bd.pre
  have hown : s.vm.findClass own = some m.cls := by rw [← hcls]; exact findClass_of_methodNamed Bd.named
  have hlocks := Bd.notSynchronized
  have E : fw_Env p s m as.toArray c cc nL g own := ⟨Bd.exec, Bd.bytes, hml, hown, fun w hw => hts0 w (List.mem_cons_of_mem _ hw), hAmb.1⟩
  have hl := lv_entry as (n := nL) (Nat.le_of_ble_eq_true hlen)
  rw [lg_entry_eq]
  exact fw_body (p := p) (l := l) (e := e) (R := rm) (Qs := vx_MQ below (fw_Qc g B Q) (fw_XC g B (fun _ _ => False)) as.toArray s mc ms (fun q => B ≤ q)) (cf := fun n => 0 + n) (sf := fun n => 0 + 6 * n) (scr := none) (fld := []) (thr := []) E hchk hcst (fun q hq => nomatch hq) trivial
    (fun q hq => hcal q hq p e s m as.toArray below meth c cc nL _ E hAmb hNC) (fun q hq => nomatch hq) (fw_retC E Bd.returns hlocks (fun r M h => ⟨h.1, by show 0 + M.2.2 ≤ mc; have := h.2; omega, by show 0 + 6 * M.2.2 ≤ ms; have := h.2; omega⟩)) A hA hwp s.heap [] _ hP va_S.rf
    ⟨hl.1, hl.2.1, fun i v hi => by
      have h1 := fw_lg_in0 (k := 0) (fw_lg_pad hi)
      rw [Nat.zero_add] at h1
      exact hl.2.2 (i, v) h1⟩
/-! a method that makes a row of four ints first, and puts it into its local 6 -/
theorem fw_ct_row {g : fw_G} {B a o : Nat} {M : fw_M} {f : Nat → Int32} (ha : B + 497 ≤ a) (ho : o < 497) : fw_ct g B (fw_row M a f) o = fw_ct g B M o := by
  have hb : B + o ≠ a := by omega
  unfold fw_ct fw_fs
  simp only [fw_fv_row hb]
  rw [show (fw_row M a f).1 (B + o) = M.1 (B + o) from if_neg hb]
theorem fw_dropx {g : fw_G} {B n : Nat} (h0 : g.2.2 = 0) (M : fw_M) (H : Heap) (h : va_P g.1 vwCl (fw_WL (g.1, g.2.1, n) B M) H) : va_P g.1 vwCl (fw_WL g B M) H := by
  intro k q hk
  rcases fw_WL_get' hk with ⟨h1, rfl⟩ | ⟨h1, h2, h3⟩
  · have := h k _ (fw_WL_get (g := (g.1, g.2.1, n)) (M := M) h1)
    exact this
  · unfold fw_xr at h3
    rw [h0] at h3
    cases h3
def fw_WkA (B : Nat) (cal : List fw_Cal) (rt : Option FieldType) (code : List fw_Ent) (nL K : Nat) (ct : fw_CTX) : Prop :=
  ∀ as M Q QX, ct as M Q QX → Nat.ble (lg_sl as).length nL = true ∧ ∀ D, B + 497 ≤ D → ∃ A : fw_AL, (∃ F, fw_wp B [] cal [] [] (some (D, 4, none)) rt (fun r M => Q r M ∧ M.2.2 ≤ K) (fun _ _ => False) code (fw_Ka A) F true (fw_seek 5 code) (fw_s1 (fw_pad nL (fw_in0 as)) 6 (.ref D)) [] (fw_row (M.1, M.2.1, 0) D (fun _ => 0))) ∧
    ∀ q ∈ A, ∀ n ls st M', q.2.2 n ls st M' → ∃ F, fw_wp B [] cal [] [] (some (D, 4, none)) rt (fun r M => Q r M ∧ M.2.2 ≤ K) (fun _ _ => False) code (fw_Kn A n) F true (fw_seek q.1 code) ls st M'
theorem fw_metA {l : Launch} {g : fw_G} {B : Nat} {y : MethodName} {cc : ByteArray} {nL : Nat} {rt : Option FieldType} {rm : Room} {K mc ms : Nat} {own : String} {code : List fw_Ent} {cal : List fw_Cal} {ct : fw_CTX} (h0 : g.2.2 = 0)
    (hy : plainName y.cls = true) (hcls : y.cls = own) (hchk : fw_chk cc nL code = true) (hcst : ∀ en ∈ code, fw_CstOK own [] en) (wa : Cond.arrayClass .int ∈ fw_LW) (d0 : decode cc 0 = .ok (.iconst 4, 1)) (d1 : decode cc 1 = .ok (.newarray .int, 2)) (d3 : decode cc 3 = .ok (.astore 6, 2)) (h6 : 6 < nL)
    (hcal : ∀ n, ∀ q ∈ cal, fw_CalL l (g.1, g.2.1, n) B own rm 1 4 q) (hmc : K + 1 ≤ mc) (hms : 6 * K + 4 ≤ ms) (hrc : 1 ≤ rm.cells) (hrs : 4 ≤ rm.slots)
    (hw : fw_WkA B cal rt code nL K ct) : fw_MetX l g B fw_NC y cc nL rt rm mc ms ct := by
  intro as M Q QX hct
  obtain ⟨hlen, hw⟩ := hw as M Q QX hct
  refine vx_ofW (cc := cc) (maxL := nL) (ret := rt) hy rfl ?_
  intro p e s m args below meth c s₁ Bd hml hex hv
  obtain ⟨⟨rfl, hP, hAmb⟩, hNC⟩ := hv
  have hts0 := atoms_spec (ws := fw_ws y cc nL rt) Bd.pre
  have hown : s.vm.findClass own = some m.cls := by rw [← hcls]; exact findClass_of_methodNamed Bd.named
  have hlocks := Bd.notSynchronized
  have E : fw_Env p s m as.toArray c cc nL g own := ⟨Bd.exec, Bd.bytes, hml, hown, fun w hw => hts0 w (List.mem_cons_of_mem _ hw), hAmb.1⟩
  obtain ⟨hx, hb, -, -, hts, hK⟩ := E
  have hl := lv_entry as (n := nL) (Nat.le_of_ble_eq_true hlen)
  rw [lg_entry_eq]
  have hlr : fw_lr (fw_pad nL (fw_in0 as)) _ nL := ⟨hl.1, hl.2.1, fun i v hi => by
      have h1 := fw_lg_in0 (k := 0) (fw_lg_pad hi)
      rw [Nat.zero_add] at h1
      exact hl.2.2 (i, v) h1⟩
  have hB : B + 497 ≤ s.heap.size := by
    have := vx_lt hP (fw_WL_get (g := g) (B := B) (M := M) (o := 496) (by decide))
    simp only at this
    omega
  refine lv_iconst (v := 4) hx hb d0 (by decide) ?_
  refine va_newaK (atype := .int) hx hb (hts _ wa) rfl d1 rfl (n := 4) (N := 4) (by decide) (by decide) (by decide) (by show 0 + 1 ≤ rm.cells; omega) (by show 0 + 4 ≤ rm.slots; omega) rfl fun H1 cA e1 z1 o1 _ hNm => ?_
  have e2 : cA = g.2.1 0 := Option.some.inj (hNm.symm.trans (hK.2 0 _ rfl).2)
  subst e2
  refine lv_astore hx hb d3 (fw_lr_has hlr) h6 rfl (fun la2 hl2 => ?_)
  obtain ⟨A, ⟨F, hwp⟩, hA⟩ := hw s.heap.size hB
  have hn : B + 497 + (s.heap.size - (B + 497)) = s.heap.size := by omega
  have E' : fw_Env p s m as.toArray c cc nL (g.1, g.2.1, s.heap.size - (B + 497) + 1) own := ⟨hx, hb, hml, hown, hts, hK⟩
  have hP1 : va_P g.1 vwCl (fw_WL (g.1, g.2.1, s.heap.size - (B + 497) + 1) B (fw_row (M.1, M.2.1, 0) s.heap.size (fun _ => 0))) H1 := by
    intro k q hk
    rcases fw_WL_get' hk with ⟨h1, rfl⟩ | ⟨h1, h2, h3⟩
    · rw [fw_ct_row hB h1]
      have h4 := hP k _ (fw_WL_get (g := g) (M := M) h1)
      have h5 : B + k < s.heap.size := by omega
      exact va_at.kept h4 (o1 _ h5)
    · have h3 : [(B + 497 + (s.heap.size - (B + 497)), (Sum.inl (g.2.1 0, 4, Sum.inl ((fw_row (M.1, M.2.1, 0) s.heap.size (fun _ => 0)).1 (B + 497 + (s.heap.size - (B + 497))))) : va_E))] = [q] := h3
      rw [hn, row_1] at h3
      cases h3
      show H1[s.heap.size]? = some (vp_cell _ _)
      rw [e1]
      rfl
  have hdr := fun M1 H2 => fw_dropx (g := g) (B := B) (n := s.heap.size - (B + 497) + 1) h0 M1 H2
  have hret := fw_retD (p := p) (l := l) (e := e) (R := rm) (below := below) (g := g) (B := B) (mc := mc) (ms := ms) (Q := Q) (Q' := fun r M => Q r M ∧ M.2.2 ≤ K) (XC := fw_XC g B (fun _ _ => False)) (cf := fun n => 1 + n) (sf := fun n => 4 + 6 * n) E' hdr Bd.returns hlocks (fun r M h => ⟨h.1, (by have := h.2; show 1 + M.2.2 ≤ mc; omega), (by have := h.2; show 4 + 6 * M.2.2 ≤ ms; omega)⟩)
  have key := fw_body (p := p) (l := l) (e := e) (R := rm) (B := B) (g := (g.1, g.2.1, s.heap.size - (B + 497) + 1)) (Qs := vx_MQ below (fw_Qc g B Q) (fw_XC g B (fun _ _ => False)) as.toArray s mc ms (fun q => B ≤ q)) (cf := fun n => 1 + n) (sf := fun n => 4 + 6 * n) (scr := some (s.heap.size, 4, none)) (fld := []) (thr := []) E' hchk hcst (fun q hq => nomatch hq) ⟨rfl, s.heap.size - (B + 497), rfl, hn.symm⟩
    (fun q hq => hcal _ q hq p e s m as.toArray below meth c cc nL _ E' hAmb hNC) (fun q hq => nomatch hq) hret A hA hwp
  have k3 : va_S (fun q => B ≤ q) s.heap H1 [] := ⟨by omega, fun q h1 h2 => o1 q h1, fun z hz => by cases hz⟩
  have k2 := key H1 [] la2 hP1 k3 (fw_lr_s1 hl2)
  exact k2
end LCT

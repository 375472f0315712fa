section
-- ===== PART A: goes FIRST, ahead of the names: the tables' words, and 'selects' of the private methods out of them =====
/-- a private method of a class that the tables say can be made, by its rows of tables_1 -/
def lw_okq (q : MethodName × Nat) : Prop := (q.1.cls ≠ "java/lang/invoke/MethodHandle" ∧ q.1.cls ≠ "java/lang/invoke/VarHandle") ∧ Cond.instantiable q.1.cls q.2 ∈ tables_1 ∧ Cond.privateMethod q.1 ∈ tables_1 ∧ Cond.instanceMethod q.1 ∈ tables_1
theorem lw_p0 : lw_okq (⟨"java/lang/Throwable", "fillInStackTrace", "(I)Ljava/lang/Throwable;"⟩, 6) := ⟨⟨by decide +kernel, by decide +kernel⟩, List.mem_of_getElem? (i := 259) (by decide +kernel), List.mem_of_getElem? (i := 257) (by decide +kernel), List.mem_of_getElem? (i := 258) (by decide +kernel)⟩
def lw_privs_1 : List (MethodName × Nat) := [(⟨"java/lang/Throwable", "fillInStackTrace", "(I)Ljava/lang/Throwable;"⟩, 6)]
theorem lw_r1 : ∀ q ∈ lw_privs_1, lw_okq q := List.forall_mem_cons.mpr ⟨lw_p0, fun _ h => absurd h List.not_mem_nil⟩
def lw_privs : List (MethodName × Nat) := lw_privs_1
def lw_tbl : List Cond := k2_sels lw_privs ++ tables_1
theorem lw_privs_ok : ∀ q ∈ lw_privs, lw_okq q := lw_r1
-- ===== end of PART A
/-! ===== BEGIN words of one list among another's, by their places ===== -/
theorem goodIn_r {big : List Cond} (ws : List Cond) (ps : List Nat) (hp : ws = ps.filterMap (fun i => big[i]?)) (h : ws.all goodWord = true) : GoodIn big ws := by
  intro w hw
  have h1 := List.all_eq_true.mp h w hw
  rw [hp] at hw
  obtain ⟨i, -, hi⟩ := List.mem_filterMap.mp hw
  have hm : w ∈ big := by first | exact List.mem_of_getElem? hi | exact List.getElem?_mem hi
  exact ⟨hm, good_of_word h1⟩
theorem goodIn_app {big a b : List Cond} (ha : GoodIn big a) (hb : GoodIn big b) : GoodIn big (a ++ b) := fun w h => (List.mem_append.mp h).elim (ha w) (hb w)
theorem goodIn_ca {big a b : List Cond} {c : Cond} (ha : GoodIn big (c :: a)) (hb : GoodIn big b) : GoodIn big (c :: (a ++ b)) := fun w h => (List.mem_cons.mp h).elim (fun e => ha w (List.mem_cons.mpr (Or.inl e))) (fun h => (List.mem_append.mp h).elim (fun h => ha w (List.mem_cons.mpr (Or.inr h))) (hb w))
theorem goodIn_sub {big ws : List Cond} (hm : ∀ w ∈ ws, w ∈ big) (h : ws.all goodWord = true) : GoodIn big ws := fun w hw => ⟨hm w hw, good_of_word (List.all_eq_true.mp h w hw)⟩
/-! ===== END ===== -/

/-! ===== BEGIN exceptions that leave a method, and their catching by the caller (launches without stack traces) ===== -/
section VXA
/-! The laws vx_back, vx_callV, vx_callS, vx_callSW, vx_throw0, vx_throwS follow proofs of the library, with one case more: JvmDerived/Free/Laws.lean (Back.of_free), Shelf42/LK1.lean (callV, callS), Shelf/KitTraced.lean (throwNew0V, throwNewS). -/
/-- where a method has thrown q: the class by its name, the cell, what was written, the world -/
def vx_T (XC : String → State → State → Prop) (st : State) (q : Addr) (t : State) (mc ms : Nat) (free : Addr → Prop) : Prop :=
  ∃ (E : String) (ce : Cell) (L : List Loc), XC E st t ∧ t.heap[q]? = some ce ∧ ce.vm = .none ∧ st.vm.findClass E = some ce.cls ∧ st.WarmedH t.vm ∧ st.sameButNew ({ t with vm := st.vm } : State) L mc ms ∧ ∀ z ∈ L, free z.base
def vx_Q (Qc : Array Value → State → Outcome → State → Prop) (XC : String → State → State → Prop) (mc ms : Nat) (free : Addr → Prop) : Array Value → State → Outcome → State → Prop := fun a st o t =>
  (Qc a st o t ∧ ∃ L, FrameEnd st o t L mc ms ∧ ∀ q ∈ L, free q.base) ∨ ∃ q, o = .threw q ∧ vx_T XC st q t mc ms free
/-- a callee that returns or throws -/
def vx_Met (l : Launch) (y : MethodName) (ws : List Cond) (rm : Room) (Pc : Array Value → State → Prop) (Qc : Array Value → State → Outcome → State → Prop) (XC : String → State → State → Prop) (mc ms : Nat) (free : Addr → Prop) : Prop :=
  MetFree l y (headSpec ws rm) Pc (fun _ _ _ _ _ => True) (vx_Q Qc XC mc ms free)
def vx_Post (XC : String → State → State → Prop) (mc ms : Nat) (free : Addr → Prop) : Pt → Array Value → Addr → Pt → Prop := fun A a q B =>
  ∃ (g : JFrame) (mk : MethodId) (t : State) (L : List Loc) (E : String) (ce : Cell), B.U.heap = t.heap ∧ B.U.vm = t.vm ∧ XC E (A.U.calling g mk a) t ∧ t.heap[q]? = some ce ∧ ce.vm = .none ∧ A.U.vm.findClass E = some ce.cls ∧ B.locs = A.locs ++ L ∧ (∀ z ∈ L, free z.base) ∧ B.cells = A.cells + mc ∧ B.slots = A.slots + ms
def vx_Back (l : Launch) (R : Room) (p : Program) (e : Env) (below : List Frame) (s : State) (sargs : Array Value) (y : MethodName) (len W9 : Nat)
    (Pre : Pt → Array Value → Prop) (Post : Pt → Array Value → Option Value → Pt → Prop) (PostX : Pt → Array Value → Addr → Pt → Prop) : Prop :=
  ∀ (m : MethodId) (meth : Method) (c : Code) (A : Pt) (g : JFrame) (ig : Instr) (mk : MethodId) (a : Array Value),
    Stand p l e R s m sargs below meth c A.U A.locs A.cells A.slots → g.method = m → g.locals.size = c.maxLocals → decode c.code g.pc = .ok (ig, len) →
    2 * g.monitorRoom + (g.stack.map fun v => v.category).sum ≤ W9 → A.U.methodNamed? y = some mk → Pre A a →
    (∃ (v : Option Value) (B : Pt), Stand p l e R s m sargs below meth c B.U B.locs B.cells B.slots ∧ Post A a v B ∧
      Steps p.tables e below (doInvoke e (A.U.setTop g) [] mk a).1 (B.U.setTop { g with pc := g.pc + len, stack := v.toList ++ g.stack })) ∨
    (∃ (q : Addr) (B : Pt), Stand p l e R s m sargs below meth c B.U B.locs B.cells B.slots ∧ PostX A a q B ∧
      Steps p.tables e below (doInvoke e (A.U.setTop g) [] mk a).1 ((B.U.setTop g).pushFrame (.throwing q)))
section Payer
variable {l : Launch} {R : Room} {p : Program} {e : Env} {below : List Frame} {s : State} {sargs : Array Value} {y : MethodName} {len W9 : Nat}
theorem vx_back {ws : List Cond} {rm : Room} {Pc : Array Value → State → Prop} {Qc : Array Value → State → Outcome → State → Prop} {XC : String → State → State → Prop} {mc ms : Nat} {free : Addr → Prop} {bytes : ByteArray} {maxL : Nat} {ret : Option FieldType}
    (hM : vx_Met l y ws rm Pc Qc XC mc ms free) (hblind : FrameBlind Pc) (hrc : rm.cells = mc) (hrs : rm.slots = ms)
    (hframes : rm.frames + 1 ≤ R.frames) (hlocals : W9 + (maxL + 11) + rm.locals ≤ R.locals)
    (hws : ∀ w ∈ ws, ∀ a' U, s.WarmedH U.vm → w.before a' U = true) (hcode : Cond.code y bytes maxL ret ∈ ws) (hinit : ∀ a' U, s.WarmedH U.vm → (Cond.initialized y.cls).before a' U = true) :
    vx_Back l R p e below s sargs y len W9 (PreOf R mc ms Pc) (PostOf Qc mc ms free) (vx_Post XC mc ms free) := by
  intro m meth c A g ig mk a X hg hsize hdg hW hn hp
  have h1 : (headSpec ws rm).pre.before a A.U = true := atoms_intro fun w hw => hws w hw _ _ X.warmed
  have h2 : (Cond.code y bytes maxL ret).before a A.U = true := hws _ hcode _ _ X.warmed
  have h3 : (Cond.initialized y.cls).before a A.U = true := hinit _ _ X.warmed
  have h4 : A.cells + (headSpec ws rm).room.cells ≤ R.cells := by rw [show (headSpec ws rm).room.cells = mc from hrc]; exact hp.1
  have h5 : A.slots + (headSpec ws rm).room.slots ≤ R.slots := by rw [show (headSpec ws rm).room.slots = ms from hrs]; exact hp.2.1
  have hPc : Pc a (A.U.calling g mk a) := hblind _ _ _ _ hp.2.2
  obtain ⟨U, Ls, c0, s0⟩ := A
  dsimp only [Pt.U, Pt.locs, Pt.cells, Pt.slots] at h1 h2 h3 h4 h5 X hn hPc ⊢
  obtain ⟨methY, cY, hmY, hcY, -, hlY, -, -, -, -⟩ := Cond.code_spec hn h2
  obtain ⟨kY, hkY, -⟩ := className_of_methodNamed hn
  have hinitY : kY.init = .initialized := Cond.initialized_spec (findClass_of_methodNamed hn) hkY h3
  have h : At U g.method c below := by rw [hg]; exact X.here
  have hlocals9 : W9 + (maxL + 11) + (headSpec ws rm).room.locals ≤ R.locals := hlocals
  have happ : (headSpec ws rm).appliesLoose y e.platform (U.calling g mk a) = true :=
    Spec.appliesLoose_calling (g := g) h hdg hn hkY hinitY
      (X.room_calling (g := g) (R' := (headSpec ws rm).room) hsize hmY hcY hframes (by rw [hlY]; omega) h4 h5) h1
  obtain ⟨mid, hmid⟩ := h.above
  have hfr : (U.setTop g).frames = (.java g :: mid) ++ below := by rw [State.frames_setTop' g h.top, hmid]; rfl
  obtain ⟨o, s₂, hsteps, -, hend, hq⟩ := Steps.callFree hM p X.admits X.cas X.clock (acts := []) hfr happ hPc trivial
  have hq' : vx_Q Qc XC mc ms free a (U.calling g mk a) o s₂ := hq
  rw [State.frames_setTop' g h.top] at hend
  obtain ⟨g₀, hg0⟩ := Option.isSome_iff_exists.mp h.top
  obtain ⟨r, hr⟩ := State.topJava?_eq_some.mp hg0
  have hr' : (({ U with heap := s₂.heap, slotsUsed := s₂.slotsUsed } : State).setVm s₂.vm).frames = .java g₀ :: r := hr
  rcases hq' with ⟨hqc, L, hfe, hL⟩ | ⟨q, rfl, E, ce, L, hx, hce, hcv, hcl, hW₂, hsm, hL⟩
  · obtain ⟨⟨v, rfl⟩, hW₂, e2, q2, q3, q4, q5, q6⟩ := id hfe
    have e3 : s₂ = ({ (U.calling g mk a).setFrames s₂.frames with heap := s₂.heap, slotsUsed := s₂.slotsUsed } : State).setVm s₂.vm := by
      have : s₂ = ({ s₂ with vm := (U.calling g mk a).vm } : State).setVm s₂.vm := rfl
      rw [e2] at this
      exact this
    obtain ⟨c₂, i₂, len₂, hc₂, hd₂, hf₂⟩ := hend
    have hW' : U.WarmedH s₂.vm := hW₂
    have hcc : c₂ = c := by
      have h1 : s₂.code? g.method = U.code? g.method := by
        rw [State.code?_eq, State.code?_eq, hW'.alike.method?]
      exact Option.some.inj (hc₂.symm.trans (h1.trans h.code))
    subst hcc
    have hlen : len₂ = len := by rw [hdg] at hd₂; cases hd₂; rfl
    subst hlen
    have hs₂ : s₂ = (({ U with heap := s₂.heap, slotsUsed := s₂.slotsUsed } : State).setVm s₂.vm).setTop { g with pc := g.pc + len₂, stack := v.toList ++ g.stack } := by
      refine e3.trans ?_
      rw [hf₂, State.calling_eq h.top, State.setFrames_setFrames, State.setTop_of_frames _ hr', hr]
      rfl
    have hsame : U.sameButNew ({ U with heap := s₂.heap, slotsUsed := s₂.slotsUsed } : State) L mc ms := by
      refine ⟨?_, q2, q3, q4, q5, q6⟩
      obtain ⟨t, ht, -⟩ := State.frames_cons hr
      show ({ U with heap := s₂.heap, slotsUsed := s₂.slotsUsed } : State) = { U.setFrames U.frames with heap := s₂.heap, slotsUsed := s₂.slotsUsed }
      rw [State.setFrames_self ht]
    subst hg
    refine Or.inl ⟨v, ⟨(({ U with heap := s₂.heap, slotsUsed := s₂.slotsUsed } : State).setVm s₂.vm), Ls ++ L, c0 + mc, s0 + ms⟩,
      ⟨X.admits, X.cas, X.clock, X.frames, X.room, X.hears, X.method, X.code, (X.here.setHeapUsed s₂.heap s₂.slotsUsed).setVm hW'.alike, X.tail, State.WarmedH.trans X.warmed hW', X.limits, X.bytes, X.same.trans (hsame.setVm s.vm)⟩,
      ⟨g, mk, s₂, L, rfl, rfl, hqc, rfl, hL, rfl, rfl⟩, ?_⟩
    show Steps p.tables e below _ ((({ U with heap := s₂.heap, slotsUsed := s₂.slotsUsed } : State).setVm s₂.vm).setTop { g with pc := g.pc + len₂, stack := v.toList ++ g.stack })
    rw [← hs₂]
    exact hsteps
  · obtain ⟨e2, q2, q3, q4, q5, q6⟩ := id hsm
    have e3 : s₂ = ({ (U.calling g mk a).setFrames s₂.frames with heap := s₂.heap, slotsUsed := s₂.slotsUsed } : State).setVm s₂.vm := by
      have : s₂ = ({ s₂ with vm := (U.calling g mk a).vm } : State).setVm s₂.vm := rfl
      rw [e2] at this
      exact this
    have hf₂ : s₂.frames = .throwing q :: .java g :: U.frames.tail := hend
    have hW' : U.WarmedH s₂.vm := hW₂
    have hs₂ : s₂ = ((({ U with heap := s₂.heap, slotsUsed := s₂.slotsUsed } : State).setVm s₂.vm).setTop g).pushFrame (.throwing q) := by
      refine e3.trans ?_
      rw [hf₂, State.calling_eq h.top, State.setFrames_setFrames, State.pushFrame, State.frames_setTop _ hr', State.setTop_of_frames _ hr', State.setFrames_setFrames, hr]
      rfl
    have hsame : U.sameButNew ({ U with heap := s₂.heap, slotsUsed := s₂.slotsUsed } : State) L mc ms := by
      refine ⟨?_, q2, q3, q4, q5, q6⟩
      obtain ⟨t, ht, -⟩ := State.frames_cons hr
      show ({ U with heap := s₂.heap, slotsUsed := s₂.slotsUsed } : State) = { U.setFrames U.frames with heap := s₂.heap, slotsUsed := s₂.slotsUsed }
      rw [State.setFrames_self ht]
    subst hg
    refine Or.inr ⟨q, ⟨(({ U with heap := s₂.heap, slotsUsed := s₂.slotsUsed } : State).setVm s₂.vm), Ls ++ L, c0 + mc, s0 + ms⟩,
      ⟨X.admits, X.cas, X.clock, X.frames, X.room, X.hears, X.method, X.code, (X.here.setHeapUsed s₂.heap s₂.slotsUsed).setVm hW'.alike, X.tail, State.WarmedH.trans X.warmed hW', X.limits, X.bytes, X.same.trans (hsame.setVm s.vm)⟩,
      ⟨g, mk, s₂, L, E, ce, rfl, rfl, hx, hce, hcv, hcl, rfl, hL, rfl, rfl⟩, ?_⟩
    show Steps p.tables e below _ (((({ U with heap := s₂.heap, slotsUsed := s₂.slotsUsed } : State).setVm s₂.vm).setTop g).pushFrame (.throwing q))
    rw [← hs₂]
    exact hsteps
end Payer
section Calls
variable {p : Program} {l : Launch} {e : Env} {R : Room} {s : State} {m : MethodId} {args : Array Value} {below : List Frame} {meth : Method} {c : Code} {T : State} {locs : List Loc} {cells slots : Nat}
theorem vx_callV (X : Stand p l e R s m args below meth c T locs cells slots) (hexec : p.tables.exec = Jvm.exec) {own C : String} {index : Nat} {y : MethodName} {bytes : ByteArray} {maxL : Nat} {ret : Option FieldType}
    (hown : s.vm.findClass own = some m.cls) (hlink : (Cond.methodLink own index y).before args s = true) (hinst : (Cond.instanceMethod y).before args s = true) (hsel : (Cond.selects C y y).before args s = true)
    (hcode : (Cond.code y bytes maxL ret).before args s = true) (hy : y.cls ≠ "java/lang/invoke/MethodHandle" ∧ y.cls ≠ "java/lang/invoke/VarHandle")
    {W9 : Nat} {Pre : Pt → Array Value → Prop} {Post : Pt → Array Value → Option Value → Pt → Prop} {PostX : Pt → Array Value → Addr → Pt → Prop} (hK : vx_Back l R p e below s args y 3 W9 Pre Post PostX)
    {b : Addr} {cellB : Cell} (hcell : T.heap[b]? = some cellB) (hobj : cellB.vm.isStatics = false) (hcls : s.vm.findClass C = some cellB.cls)
    {g : JFrame} (hg : g.method = m) (hsize : g.locals.size = c.maxLocals) {argsL rest : List Value} (hlen : ∀ sig, parseMethodDescriptor y.desc = some sig → argsL.length = sig.parameters.length)
    (hstack : g.stack = argsL.reverse ++ .ref b :: rest) (hW : 2 * g.monitorRoom + (rest.map fun v => v.category).sum ≤ W9) (hdg : decode c.code g.pc = .ok (.invokevirtual index, 3))
    (hpre : ∀ vm₁, s.WarmedH vm₁ → Pre ⟨T.setVm vm₁, locs, cells, slots⟩ (Value.ref b :: argsL).toArray) :
    (∃ (v : Option Value) (vm₁ : Vm) (B : Pt), s.WarmedH vm₁ ∧ Stand p l e R s m args below meth c B.U B.locs B.cells B.slots ∧ Post ⟨T.setVm vm₁, locs, cells, slots⟩ (Value.ref b :: argsL).toArray v B ∧
      ∀ target, Steps p.tables e below (B.U.setTop { g with pc := g.pc + 3, stack := v.toList ++ rest }) target → Steps p.tables e below (T.setTop g) target) ∨
    (∃ (q : Addr) (vm₁ : Vm) (B : Pt), s.WarmedH vm₁ ∧ Stand p l e R s m args below meth c B.U B.locs B.cells B.slots ∧ PostX ⟨T.setVm vm₁, locs, cells, slots⟩ (Value.ref b :: argsL).toArray q B ∧
      Steps p.tables e below (T.setTop g) ((B.U.setTop { g with stack := rest }).pushFrame (.throwing q))) := by
  obtain ⟨mk, methM, hnamed, hmethM, hstM, habM⟩ := Cond.instanceMethod_spec hinst
  obtain ⟨methM', cM, hmethM', -, -, -, -, -, -, hsigM⟩ := Cond.code_spec hnamed hcode
  cases hmethM.symm.trans hmethM'
  obtain ⟨c2, r2, m2, q1, q2, q3, q4, kP, hkP, hkPi⟩ := Cond.selects_spec hsel
  cases hcls.symm.trans q1
  cases (State.methodFound?_of_named hnamed hy).symm.trans q2
  cases hnamed.symm.trans q3
  have hselP : selectMethod e.platform s.vm cellB.cls mk = .method mk := by rw [Launch.admits_selectMethod X.admits]; exact q4
  obtain ⟨vm₁, X₁, hstep₁⟩ := X.invokevirtual hexec hown hlink hnamed hmethM hstM hkP hkPi hy (a := b) (cell := cellB) hcell
    (fun z h => by rw [h] at hobj; cases hobj) hselP hmethM habM hkP hkPi (g := g) hg (argsL := argsL) (rest := rest) (hlen _ hsigM) hstack hdg
  rcases hK m meth c ⟨T.setVm vm₁, locs, cells, slots⟩ { g with stack := rest } (.invokevirtual index) mk (Value.ref b :: argsL).toArray X₁ hg hsize hdg hW (X₁.named hnamed) (hpre vm₁ X₁.warmed) with ⟨v, B, X', hpost, hsteps⟩ | ⟨q, B, X', hpost, hsteps⟩
  · exact Or.inl ⟨v, vm₁, B, X₁.warmed, X', hpost, fun target h => hstep₁ _ fun acts => by rw [doInvoke_state]; exact hsteps.trans h⟩
  · exact Or.inr ⟨q, vm₁, B, X₁.warmed, X', hpost, hstep₁ _ fun acts => by rw [doInvoke_state]; exact hsteps⟩
theorem vx_callS (X : Stand p l e R s m args below meth c T locs cells slots) (hexec : p.tables.exec = Jvm.exec) {own : String} {index : Nat} {y : MethodName} {bytes : ByteArray} {maxL : Nat} {ret : Option FieldType}
    (hown : s.vm.findClass own = some m.cls) (hlink : (Cond.methodLink own index y).before args s = true) (hstat : (Cond.static y).before args s = true) (hinit : (Cond.initialized y.cls).before args s = true)
    (hcode : (Cond.code y bytes maxL ret).before args s = true) (hy : y.cls ≠ "java/lang/invoke/MethodHandle" ∧ y.cls ≠ "java/lang/invoke/VarHandle")
    {W9 : Nat} {Pre : Pt → Array Value → Prop} {Post : Pt → Array Value → Option Value → Pt → Prop} {PostX : Pt → Array Value → Addr → Pt → Prop} (hK : vx_Back l R p e below s args y 3 W9 Pre Post PostX)
    {g : JFrame} (hg : g.method = m) (hsize : g.locals.size = c.maxLocals) {argsL rest : List Value} (hlen : ∀ sig, parseMethodDescriptor y.desc = some sig → argsL.length = sig.parameters.length)
    (hstack : g.stack = argsL.reverse ++ rest) (hW : 2 * g.monitorRoom + (rest.map fun v => v.category).sum ≤ W9) (hdg : decode c.code g.pc = .ok (.invokestatic index, 3))
    (hpre : ∀ vm₁, s.WarmedH vm₁ → Pre ⟨T.setVm vm₁, locs, cells, slots⟩ argsL.toArray) :
    (∃ (v : Option Value) (vm₁ : Vm) (B : Pt), s.WarmedH vm₁ ∧ Stand p l e R s m args below meth c B.U B.locs B.cells B.slots ∧ Post ⟨T.setVm vm₁, locs, cells, slots⟩ argsL.toArray v B ∧
      ∀ target, Steps p.tables e below (B.U.setTop { g with pc := g.pc + 3, stack := v.toList ++ rest }) target → Steps p.tables e below (T.setTop g) target) ∨
    (∃ (q : Addr) (vm₁ : Vm) (B : Pt), s.WarmedH vm₁ ∧ Stand p l e R s m args below meth c B.U B.locs B.cells B.slots ∧ PostX ⟨T.setVm vm₁, locs, cells, slots⟩ argsL.toArray q B ∧
      Steps p.tables e below (T.setTop g) ((B.U.setTop { g with stack := rest }).pushFrame (.throwing q))) := by
  obtain ⟨mk, hnamed⟩ := Cond.code_named hcode
  obtain ⟨methM, cM, hmethM, -, -, -, -, -, -, hsigM⟩ := Cond.code_spec hnamed hcode
  have hstatic : methM.isStatic = true := Cond.static_spec hnamed hmethM hstat
  obtain ⟨kP, hkP, -⟩ := className_of_methodNamed hnamed
  have hinitP : kP.init = .initialized := Cond.initialized_spec (findClass_of_methodNamed hnamed) hkP hinit
  obtain ⟨vm₁, X₁, hstep₁⟩ := X.invokestatic hexec hown hlink hnamed hmethM hstatic hkP hinitP hy (g := g) hg (argsL := argsL) (rest := rest) (hlen _ hsigM) hstack hdg
  rcases hK m meth c ⟨T.setVm vm₁, locs, cells, slots⟩ { g with stack := rest } (.invokestatic index) mk argsL.toArray X₁ hg hsize hdg hW (X₁.named hnamed) (hpre vm₁ X₁.warmed) with ⟨v, B, X', hpost, hsteps⟩ | ⟨q, B, X', hpost, hsteps⟩
  · exact Or.inl ⟨v, vm₁, B, X₁.warmed, X', hpost, fun target h => hstep₁ _ fun acts => by rw [doInvoke_state]; exact hsteps.trans h⟩
  · exact Or.inr ⟨q, vm₁, B, X₁.warmed, X', hpost, hstep₁ _ fun acts => by rw [doInvoke_state]; exact hsteps⟩
end Calls
theorem vx_cls {s : State} {T : State} {vm₁ : Vm} {E : String} {k : ClassId} (hW : s.WarmedH vm₁) (h : (T.setVm vm₁).vm.findClass E = some k) : s.vm.findClass E = some k := by
  have h1 : vm₁.findClass E = some k := h
  rw [hW.alike.findClass] at h1
  exact h1
/-- the method's frame g, with q thrown over it -/
def vx_W (p : Program) (l : Launch) (e : Env) (R : Room) (s : State) (m : MethodId) (args : Array Value) (below : List Frame) (meth : Method) (c : Code) (H : Heap) (locs : List Loc) (cells slots : Nat) (Q : State → Prop) (g : JFrame) (q : Addr) : Prop :=
  ∀ T : State, T.heap = H → Stand p l e R s m args below meth c T locs cells slots → ∃ t, Steps p.tables e below ((T.setTop g).pushFrame (.throwing q)) t ∧ Q t
def vx_Run (p : Program) (l : Launch) (e : Env) (R : Room) (s : State) (m : MethodId) (args : Array Value) (below : List Frame) (meth : Method) (c : Code) (H : Heap) (locs : List Loc) (cells slots mc ms : Nat) (g : JFrame) (rest : List Value) (Qa : State → Outcome → State → Prop) (XC : String → State → State → Prop) (free : Addr → Prop) : Prop :=
  ∀ T : State, T.heap = H → Stand p l e R s m args below meth c T locs cells slots →
    (∃ (v : Option Value) (st₀ t T' : State) (L : List Loc), st₀.heap = H ∧ Stand p l e R s m args below meth c T' (locs ++ L) (cells + mc) (slots + ms) ∧ (∀ q ∈ L, free q.base) ∧ T'.heap = t.heap ∧ T'.vm = t.vm ∧ Qa st₀ (.returned v) t ∧
      Goes p e below T g T' { g with pc := g.pc + 3, stack := v.toList ++ rest }) ∨
    (∃ (q : Addr) (st₀ t T' : State) (L : List Loc) (E : String) (ce : Cell), st₀.heap = H ∧ Stand p l e R s m args below meth c T' (locs ++ L) (cells + mc) (slots + ms) ∧ (∀ z ∈ L, free z.base) ∧ T'.heap = t.heap ∧ T'.vm = t.vm ∧ XC E st₀ t ∧ t.heap[q]? = some ce ∧ ce.vm = .none ∧ s.vm.findClass E = some ce.cls ∧
      Steps p.tables e below (T.setTop g) ((T'.setTop { g with stack := rest }).pushFrame (.throwing q)))
def vx_X {S : Type} (px : S → Prop) (B : String → S → State → Prop) (A : Nat → Prop) : String → State → State → Prop := fun E st t => ∃ u : S, px u ∧ B E u t ∧ va_F A st t
section Runs
variable {p : Program} {l : Launch} {e : Env} {R : Room} {s : State} {m : MethodId} {args : Array Value} {below : List Frame} {meth : Method} {c : Code} {H : Heap} {locs : List Loc} {cells slots : Nat}
variable {y : MethodName} {bytes cc : ByteArray} {maxL nL mc ms n index : Nat} {ret : Option FieldType} {ws : List Cond} {rm : Room} {Pc : Array Value → State → Prop} {Qc : Array Value → State → Outcome → State → Prop} {XC : String → State → State → Prop} {free : Addr → Prop} {Ts : List Cond} {own C : String} {b : Addr} {As rest : List Value} {g : JFrame}
theorem vx_callBack (cb : CallB R s args own index y bytes maxL ret ws rm mc ms n) (hM : vx_Met l y ws rm Pc Qc XC mc ms free) (hbl : FrameBlind Pc) : vx_Back l R p e below s args y 3 8 (PreOf R mc ms Pc) (PostOf Qc mc ms free) (vx_Post XC mc ms free) := by
  obtain ⟨hrc, hrs, hfr, hlo, hws, hcw, -, hini, -⟩ := cb
  exact vx_back (bytes := bytes) (maxL := maxL) (ret := ret) hM hbl hrc hrs hfr hlo hws hcw (fun a' U hW => word_at hW (Or.inl (by first | rfl | simp [Cond.onTables, Cond.keeps, Cond.steady])) hini)
theorem vx_runV (S : CallFix p m c cc nL s args Ts own) (hM : vx_Met l y ws rm Pc Qc XC mc ms free) (cw : CallW R s args own C index y bytes maxL ret ws rm mc ms n) (hp : PreV s H C b Pc As)
    (hg : g.method = m) (hn : As.length = n) (hsize : g.locals.size = nL) (hstack : g.stack = As.reverse ++ .ref b :: rest) (hW : 2 * g.monitorRoom + (rest.map fun v => v.category).sum ≤ 8) (hdg : decode cc g.pc = .ok (.invokevirtual index, 3)) (hf : cells + mc ≤ R.cells ∧ slots + ms ≤ R.slots) :
    vx_Run p l e R s m args below meth c H locs cells slots mc ms g rest (Qc (Value.ref b :: As).toArray) XC free := by
  have hK : vx_Back l R p e below s args y 3 8 (PreOf R mc ms Pc) (PostOf Qc mc ms free) (vx_Post XC mc ms free) := vx_callBack cw.1 hM hp.1
  obtain ⟨⟨-, -, -, -, -, -, hcode, -, hy, hlen, hl⟩, hin, hse⟩ := cw
  obtain ⟨hx, hb, hml, ho, -⟩ := S
  obtain ⟨-, ⟨cellB, hcB, hoB, hclB⟩, hPc⟩ := hp
  intro T hT X
  rcases vx_callV X hx (C := C) (bytes := bytes) (maxL := maxL) (ret := ret) ho hl hin hse hcode hy hK (by rw [hT]; exact hcB) hoB hclB hg (hsize.trans hml.symm) (argsL := As) (rest := rest) (fun sig h => hn.trans (hlen sig h)) hstack hW (by rw [hb]; exact hdg)
    (fun vm₁ hW₁ => ⟨hf.1, hf.2, hPc (T.setVm vm₁) hT hW₁⟩) with ⟨v, vm₁, ⟨U', l2, c2, s2⟩, hW₁, X', ⟨g', mk, t, L, e1, e2, hq, h1, hL, h2, h3⟩, st⟩ | ⟨q, vm₁, ⟨U', l2, c2, s2⟩, hW₁, X', ⟨g', mk, t, L, E, ce, e1, e2, hq, hce, hcv, hcl, h1, hL, h2, h3⟩, st⟩
  · dsimp only [Pt.U, Pt.locs, Pt.cells, Pt.slots] at X' e1 e2 h1 h2 h3 st
    subst h1; subst h2; subst h3
    exact Or.inl ⟨v, (T.setVm vm₁).calling g' mk (Value.ref b :: As).toArray, t, U', L, hT, X', hL, e1, e2, hq, st⟩
  · dsimp only [Pt.U, Pt.locs, Pt.cells, Pt.slots] at X' e1 e2 h1 h2 h3 st hcl
    subst h1; subst h2; subst h3
    exact Or.inr ⟨q, (T.setVm vm₁).calling g' mk (Value.ref b :: As).toArray, t, U', L, E, ce, hT, X', hL, e1, e2, hq, hce, hcv, vx_cls hW₁ hcl, st⟩
theorem vx_runS (S : CallFix p m c cc nL s args Ts own) (hM : vx_Met l y ws rm Pc Qc XC mc ms free) (cw : CallB R s args own index y bytes maxL ret ws rm mc ms n ∧ (Cond.static y).before args s = true) (hp : PreS s H Pc As)
    (hg : g.method = m) (hn : As.length = n) (hsize : g.locals.size = nL) (hstack : g.stack = As.reverse ++ rest) (hW : 2 * g.monitorRoom + (rest.map fun v => v.category).sum ≤ 8) (hdg : decode cc g.pc = .ok (.invokestatic index, 3)) (hf : cells + mc ≤ R.cells ∧ slots + ms ≤ R.slots) :
    vx_Run p l e R s m args below meth c H locs cells slots mc ms g rest (Qc As.toArray) XC free := by
  have hK : vx_Back l R p e below s args y 3 8 (PreOf R mc ms Pc) (PostOf Qc mc ms free) (vx_Post XC mc ms free) := vx_callBack cw.1 hM hp.1
  obtain ⟨⟨-, -, -, -, -, -, hcode, hini, hy, hlen, hl⟩, hstt⟩ := cw
  obtain ⟨hx, hb, hml, ho, -⟩ := S
  intro T hT X
  rcases vx_callS X hx (bytes := bytes) (maxL := maxL) (ret := ret) ho hl hstt hini hcode hy hK hg (hsize.trans hml.symm) (argsL := As) (rest := rest) (fun sig h => hn.trans (hlen sig h)) hstack hW (by rw [hb]; exact hdg)
    (fun vm₁ hW₁ => ⟨hf.1, hf.2, hp.2 (T.setVm vm₁) hT hW₁⟩) with ⟨v, vm₁, ⟨U', l2, c2, s2⟩, hW₁, X', ⟨g', mk, t, L, e1, e2, hq, h1, hL, h2, h3⟩, st⟩ | ⟨q, vm₁, ⟨U', l2, c2, s2⟩, hW₁, X', ⟨g', mk, t, L, E, ce, e1, e2, hq, hce, hcv, hcl, h1, hL, h2, h3⟩, st⟩
  · dsimp only [Pt.U, Pt.locs, Pt.cells, Pt.slots] at X' e1 e2 h1 h2 h3 st
    subst h1; subst h2; subst h3
    exact Or.inl ⟨v, (T.setVm vm₁).calling g' mk As.toArray, t, U', L, hT, X', hL, e1, e2, hq, st⟩
  · dsimp only [Pt.U, Pt.locs, Pt.cells, Pt.slots] at X' e1 e2 h1 h2 h3 st hcl
    subst h1; subst h2; subst h3
    exact Or.inr ⟨q, (T.setVm vm₁).calling g' mk As.toArray, t, U', L, E, ce, hT, X', hL, e1, e2, hq, hce, hcv, vx_cls hW₁ hcl, st⟩
end Runs
section Rows
variable {p : Program} {l : Launch} {e : Env} {R : Room} {s : State} {m : MethodId} {args : Array Value} {below : List Frame} {meth : Method} {c : Code} {H : Heap} {locs : List Loc} {cells slots : Nat} {Q : State → Prop}
variable {mc ms : Nat} {free : Addr → Prop} {A0 A1 : Nat → Prop} {H0 : Heap} {a : Array Value} {pc : Nat} {ls : Array Slot} {st0 rest : List Value}
theorem vx_keep {st₀ t T' : State} {L : List Loc} (h0 : st₀.heap = H) (e1 : T'.heap = t.heap) (hS : va_S A0 H0 H locs) (hA : ∀ q, q < H.size → A1 q → A0 q) (hf : ∀ q, free q → A0 q) (hL : ∀ q ∈ L, free q.base) (hF : va_F A1 st₀ t) :
    H.size ≤ T'.heap.size ∧ (∀ q : Nat, q < H.size → ¬ A1 q → T'.heap[q]? = H[q]?) ∧ va_S A0 H0 T'.heap (locs ++ L) := by
  obtain ⟨hz, hk⟩ := hF
  rw [h0] at hz hk
  exact ⟨by rw [e1]; exact hz, fun q h1 h2 => by rw [e1]; exact hk q h1 h2,
    ⟨Nat.le_trans hS.1 (by rw [e1]; exact hz), fun q h1 h2 => by rw [e1, hk q (Nat.lt_of_lt_of_le h1 hS.1) (fun z => h2 (hA q (Nat.lt_of_lt_of_le h1 hS.1) z))]; exact hS.2.1 q h1 h2, fun q hq => by
      rcases List.mem_append.mp hq with h | h
      · exact hS.2.2 q h
      · exact hf _ (hL q h)⟩⟩
theorem vx_calli {S SX : Type} {post : Int32 → S → Prop} {px : SX → Prop} {B : S → State → Prop} {BX : String → SX → State → Prop} {AX : Nat → Prop} (hr : vx_Run p l e R s m args below meth c H locs cells slots mc ms (F0 m pc ls st0) rest (va_Qi post B A1 a) (vx_X px BX AX) free) (hS : va_S A0 H0 H locs) (hA : ∀ q, q < H.size → A1 q → A0 q) (hf : ∀ q, free q → A0 q) (hAX : ∀ q, q < H.size → AX q → A0 q)
    (kx : ∀ (E : String) (ce : Cell) (q9 : Addr) (u : SX) (t : State) (H1 : Heap) (locs1 : List Loc), t.heap = H1 → s.vm.Alike t.vm → px u → BX E u t → H.size ≤ H1.size → (∀ q : Nat, q < H.size → ¬ AX q → H1[q]? = H[q]?) → va_S A0 H0 H1 locs1 → H1[q9]? = some ce → ce.vm = .none → s.vm.findClass E = some ce.cls → vx_W p l e R s m args below meth c H1 locs1 (cells + mc) (slots + ms) Q (F0 m pc ls rest) q9)
    (kk : ∀ (r : Int32) (u : S) (t : State) (H1 : Heap) (locs1 : List Loc), t.heap = H1 → s.vm.Alike t.vm → post r u → B u t → H.size ≤ H1.size → (∀ q : Nat, q < H.size → ¬ A1 q → H1[q]? = H[q]?) → va_S A0 H0 H1 locs1 → W p l e R s m args below meth c H1 locs1 (cells + mc) (slots + ms) Q (F0 m (pc + 3) ls (.int r :: rest))) : W p l e R s m args below meth c H locs cells slots Q (F0 m pc ls st0) := by
  intro T hT X
  rcases hr T hT X with ⟨v, st₀, t, T', L, h0, X', hL, e1, e2, ⟨⟨r, u, hv, hp, hb⟩, hF⟩, st⟩ | ⟨q, st₀, t, T', L, E, ce, h0, X', hL, e1, e2, ⟨u, hp, hb, hF⟩, hce, hcv, hcl, st⟩
  · cases hv
    obtain ⟨k1, k2, k3⟩ := vx_keep h0 e1 hS hA hf hL hF
    obtain ⟨t2, a1, b1⟩ := kk r u t T'.heap (locs ++ L) e1.symm (by rw [← e2]; exact X'.warmed.alike) hp hb k1 k2 k3 T' rfl X'
    exact ⟨t2, st t2 a1, b1⟩
  · obtain ⟨k1, k2, k3⟩ := vx_keep h0 e1 hS hAX hf hL hF
    obtain ⟨t2, a1, b1⟩ := kx E ce q u t T'.heap (locs ++ L) e1.symm (by rw [← e2]; exact X'.warmed.alike) hp hb k1 k2 k3 (by rw [e1]; exact hce) hcv hcl T' rfl X'
    exact ⟨t2, st.trans a1, b1⟩
theorem vx_calll {S SX : Type} {post : Int64 → S → Prop} {px : SX → Prop} {B : S → State → Prop} {BX : String → SX → State → Prop} {AX : Nat → Prop} (hr : vx_Run p l e R s m args below meth c H locs cells slots mc ms (F0 m pc ls st0) rest (va_Ql post B A1 a) (vx_X px BX AX) free) (hS : va_S A0 H0 H locs) (hA : ∀ q, q < H.size → A1 q → A0 q) (hf : ∀ q, free q → A0 q) (hAX : ∀ q, q < H.size → AX q → A0 q)
    (kx : ∀ (E : String) (ce : Cell) (q9 : Addr) (u : SX) (t : State) (H1 : Heap) (locs1 : List Loc), t.heap = H1 → s.vm.Alike t.vm → px u → BX E u t → H.size ≤ H1.size → (∀ q : Nat, q < H.size → ¬ AX q → H1[q]? = H[q]?) → va_S A0 H0 H1 locs1 → H1[q9]? = some ce → ce.vm = .none → s.vm.findClass E = some ce.cls → vx_W p l e R s m args below meth c H1 locs1 (cells + mc) (slots + ms) Q (F0 m pc ls rest) q9)
    (kk : ∀ (r : Int64) (u : S) (t : State) (H1 : Heap) (locs1 : List Loc), t.heap = H1 → s.vm.Alike t.vm → post r u → B u t → H.size ≤ H1.size → (∀ q : Nat, q < H.size → ¬ A1 q → H1[q]? = H[q]?) → va_S A0 H0 H1 locs1 → W p l e R s m args below meth c H1 locs1 (cells + mc) (slots + ms) Q (F0 m (pc + 3) ls (.long r :: rest))) : W p l e R s m args below meth c H locs cells slots Q (F0 m pc ls st0) := by
  intro T hT X
  rcases hr T hT X with ⟨v, st₀, t, T', L, h0, X', hL, e1, e2, ⟨⟨r, u, hv, hp, hb⟩, hF⟩, st⟩ | ⟨q, st₀, t, T', L, E, ce, h0, X', hL, e1, e2, ⟨u, hp, hb, hF⟩, hce, hcv, hcl, st⟩
  · cases hv
    obtain ⟨k1, k2, k3⟩ := vx_keep h0 e1 hS hA hf hL hF
    obtain ⟨t2, a1, b1⟩ := kk r u t T'.heap (locs ++ L) e1.symm (by rw [← e2]; exact X'.warmed.alike) hp hb k1 k2 k3 T' rfl X'
    exact ⟨t2, st t2 a1, b1⟩
  · obtain ⟨k1, k2, k3⟩ := vx_keep h0 e1 hS hAX hf hL hF
    obtain ⟨t2, a1, b1⟩ := kx E ce q u t T'.heap (locs ++ L) e1.symm (by rw [← e2]; exact X'.warmed.alike) hp hb k1 k2 k3 (by rw [e1]; exact hce) hcv hcl T' rfl X'
    exact ⟨t2, st.trans a1, b1⟩
theorem vx_callf {S SX : Type} {post : UInt32 → S → Prop} {px : SX → Prop} {B : S → State → Prop} {BX : String → SX → State → Prop} {AX : Nat → Prop} (hr : vx_Run p l e R s m args below meth c H locs cells slots mc ms (F0 m pc ls st0) rest (va_Qf post B A1 a) (vx_X px BX AX) free) (hS : va_S A0 H0 H locs) (hA : ∀ q, q < H.size → A1 q → A0 q) (hf : ∀ q, free q → A0 q) (hAX : ∀ q, q < H.size → AX q → A0 q)
    (kx : ∀ (E : String) (ce : Cell) (q9 : Addr) (u : SX) (t : State) (H1 : Heap) (locs1 : List Loc), t.heap = H1 → s.vm.Alike t.vm → px u → BX E u t → H.size ≤ H1.size → (∀ q : Nat, q < H.size → ¬ AX q → H1[q]? = H[q]?) → va_S A0 H0 H1 locs1 → H1[q9]? = some ce → ce.vm = .none → s.vm.findClass E = some ce.cls → vx_W p l e R s m args below meth c H1 locs1 (cells + mc) (slots + ms) Q (F0 m pc ls rest) q9)
    (kk : ∀ (r : UInt32) (u : S) (t : State) (H1 : Heap) (locs1 : List Loc), t.heap = H1 → s.vm.Alike t.vm → post r u → B u t → H.size ≤ H1.size → (∀ q : Nat, q < H.size → ¬ A1 q → H1[q]? = H[q]?) → va_S A0 H0 H1 locs1 → W p l e R s m args below meth c H1 locs1 (cells + mc) (slots + ms) Q (F0 m (pc + 3) ls (.float r :: rest))) : W p l e R s m args below meth c H locs cells slots Q (F0 m pc ls st0) := by
  intro T hT X
  rcases hr T hT X with ⟨v, st₀, t, T', L, h0, X', hL, e1, e2, ⟨⟨r, u, hv, hp, hb⟩, hF⟩, st⟩ | ⟨q, st₀, t, T', L, E, ce, h0, X', hL, e1, e2, ⟨u, hp, hb, hF⟩, hce, hcv, hcl, st⟩
  · cases hv
    obtain ⟨k1, k2, k3⟩ := vx_keep h0 e1 hS hA hf hL hF
    obtain ⟨t2, a1, b1⟩ := kk r u t T'.heap (locs ++ L) e1.symm (by rw [← e2]; exact X'.warmed.alike) hp hb k1 k2 k3 T' rfl X'
    exact ⟨t2, st t2 a1, b1⟩
  · obtain ⟨k1, k2, k3⟩ := vx_keep h0 e1 hS hAX hf hL hF
    obtain ⟨t2, a1, b1⟩ := kx E ce q u t T'.heap (locs ++ L) e1.symm (by rw [← e2]; exact X'.warmed.alike) hp hb k1 k2 k3 (by rw [e1]; exact hce) hcv hcl T' rfl X'
    exact ⟨t2, st.trans a1, b1⟩
theorem vx_calld {S SX : Type} {post : UInt64 → S → Prop} {px : SX → Prop} {B : S → State → Prop} {BX : String → SX → State → Prop} {AX : Nat → Prop} (hr : vx_Run p l e R s m args below meth c H locs cells slots mc ms (F0 m pc ls st0) rest (va_Qd post B A1 a) (vx_X px BX AX) free) (hS : va_S A0 H0 H locs) (hA : ∀ q, q < H.size → A1 q → A0 q) (hf : ∀ q, free q → A0 q) (hAX : ∀ q, q < H.size → AX q → A0 q)
    (kx : ∀ (E : String) (ce : Cell) (q9 : Addr) (u : SX) (t : State) (H1 : Heap) (locs1 : List Loc), t.heap = H1 → s.vm.Alike t.vm → px u → BX E u t → H.size ≤ H1.size → (∀ q : Nat, q < H.size → ¬ AX q → H1[q]? = H[q]?) → va_S A0 H0 H1 locs1 → H1[q9]? = some ce → ce.vm = .none → s.vm.findClass E = some ce.cls → vx_W p l e R s m args below meth c H1 locs1 (cells + mc) (slots + ms) Q (F0 m pc ls rest) q9)
    (kk : ∀ (r : UInt64) (u : S) (t : State) (H1 : Heap) (locs1 : List Loc), t.heap = H1 → s.vm.Alike t.vm → post r u → B u t → H.size ≤ H1.size → (∀ q : Nat, q < H.size → ¬ A1 q → H1[q]? = H[q]?) → va_S A0 H0 H1 locs1 → W p l e R s m args below meth c H1 locs1 (cells + mc) (slots + ms) Q (F0 m (pc + 3) ls (.double r :: rest))) : W p l e R s m args below meth c H locs cells slots Q (F0 m pc ls st0) := by
  intro T hT X
  rcases hr T hT X with ⟨v, st₀, t, T', L, h0, X', hL, e1, e2, ⟨⟨r, u, hv, hp, hb⟩, hF⟩, st⟩ | ⟨q, st₀, t, T', L, E, ce, h0, X', hL, e1, e2, ⟨u, hp, hb, hF⟩, hce, hcv, hcl, st⟩
  · cases hv
    obtain ⟨k1, k2, k3⟩ := vx_keep h0 e1 hS hA hf hL hF
    obtain ⟨t2, a1, b1⟩ := kk r u t T'.heap (locs ++ L) e1.symm (by rw [← e2]; exact X'.warmed.alike) hp hb k1 k2 k3 T' rfl X'
    exact ⟨t2, st t2 a1, b1⟩
  · obtain ⟨k1, k2, k3⟩ := vx_keep h0 e1 hS hAX hf hL hF
    obtain ⟨t2, a1, b1⟩ := kx E ce q u t T'.heap (locs ++ L) e1.symm (by rw [← e2]; exact X'.warmed.alike) hp hb k1 k2 k3 (by rw [e1]; exact hce) hcv hcl T' rfl X'
    exact ⟨t2, st.trans a1, b1⟩
theorem vx_callv {S SX : Type} {post : S → Prop} {px : SX → Prop} {B : S → State → Prop} {BX : String → SX → State → Prop} {AX : Nat → Prop} (hr : vx_Run p l e R s m args below meth c H locs cells slots mc ms (F0 m pc ls st0) rest (va_Qv post B A1 a) (vx_X px BX AX) free) (hS : va_S A0 H0 H locs) (hA : ∀ q, q < H.size → A1 q → A0 q) (hf : ∀ q, free q → A0 q) (hAX : ∀ q, q < H.size → AX q → A0 q)
    (kx : ∀ (E : String) (ce : Cell) (q9 : Addr) (u : SX) (t : State) (H1 : Heap) (locs1 : List Loc), t.heap = H1 → s.vm.Alike t.vm → px u → BX E u t → H.size ≤ H1.size → (∀ q : Nat, q < H.size → ¬ AX q → H1[q]? = H[q]?) → va_S A0 H0 H1 locs1 → H1[q9]? = some ce → ce.vm = .none → s.vm.findClass E = some ce.cls → vx_W p l e R s m args below meth c H1 locs1 (cells + mc) (slots + ms) Q (F0 m pc ls rest) q9)
    (kk : ∀ (u : S) (t : State) (H1 : Heap) (locs1 : List Loc), t.heap = H1 → s.vm.Alike t.vm → post u → B u t → H.size ≤ H1.size → (∀ q : Nat, q < H.size → ¬ A1 q → H1[q]? = H[q]?) → va_S A0 H0 H1 locs1 → W p l e R s m args below meth c H1 locs1 (cells + mc) (slots + ms) Q (F0 m (pc + 3) ls (rest))) : W p l e R s m args below meth c H locs cells slots Q (F0 m pc ls st0) := by
  intro T hT X
  rcases hr T hT X with ⟨v, st₀, t, T', L, h0, X', hL, e1, e2, ⟨⟨u, hv, hp, hb⟩, hF⟩, st⟩ | ⟨q, st₀, t, T', L, E, ce, h0, X', hL, e1, e2, ⟨u, hp, hb, hF⟩, hce, hcv, hcl, st⟩
  · cases hv
    obtain ⟨k1, k2, k3⟩ := vx_keep h0 e1 hS hA hf hL hF
    obtain ⟨t2, a1, b1⟩ := kk u t T'.heap (locs ++ L) e1.symm (by rw [← e2]; exact X'.warmed.alike) hp hb k1 k2 k3 T' rfl X'
    exact ⟨t2, st t2 a1, b1⟩
  · obtain ⟨k1, k2, k3⟩ := vx_keep h0 e1 hS hAX hf hL hF
    obtain ⟨t2, a1, b1⟩ := kx E ce q u t T'.heap (locs ++ L) e1.symm (by rw [← e2]; exact X'.warmed.alike) hp hb k1 k2 k3 (by rw [e1]; exact hce) hcv hcl T' rfl X'
    exact ⟨t2, st.trans a1, b1⟩
/-- caught by the row x of this method's table; the rows ahead don't take it -/
theorem vx_catch {own name : String} {E : String} {ce : Cell} {q : Addr} (hown : s.vm.findClass own = some m.cls) (pre : List ExceptionTableEntry) (x : ExceptionTableEntry) (suf : List ExceptionTableEntry) (hsplit : c.exceptionTable.toList = pre ++ x :: suf)
    (hpass : ∀ z ∈ pre, covers z pc = false ∨ (z.catchType ≠ 0 ∧ ∃ nm : String, (Cond.classLink own z.catchType nm).before args s = true ∧ va_Nc E nm s)) (hx : covers x pc = true) (h0 : x.catchType ≠ 0)
    (hlink : (Cond.classLink own x.catchType name).before args s = true) (hcast : (Cond.castable E name).before args s = true) (hcell : H[q]? = some ce) (hv : ce.vm = .none) (hcl : s.vm.findClass E = some ce.cls)
    (kk : W p l e R s m args below meth c H locs cells slots Q (F0 m x.handlerPc ls [.ref q])) : vx_W p l e R s m args below meth c H locs cells slots Q (F0 m pc ls rest) q := by
  intro T hT X
  have hpl : e.platform.magicAccessors = ({} : Platform).magicAccessors := by rw [X.admits.platform]
  obtain ⟨c3, c4, hc3, hc4, hasg⟩ := Cond.castable_spec hcast
  cases Option.some.inj (hc3.symm.trans hcl)
  obtain ⟨c5, hc5, hcl5⟩ := Cond.classLink_spec hown hlink e.platform hpl
  cases Option.some.inj (hc4.symm.trans hc5)
  obtain ⟨vm', X', st⟩ := X.thenCaughtThrough q (g := F0 m pc ls rest) rfl (Steps.refl _) (by rw [hT]; exact hcell) (by rw [hv]; rfl) (by obtain ⟨k9, h9, -⟩ := Vm.findClass_spec hcl; exact ⟨k9, h9⟩) pre x suf hsplit
    (fun z hz => by
      rcases hpass z hz with h | ⟨hz0, nm, hl1, hn1⟩
      · exact Or.inl h
      · obtain ⟨c6, hc6, hcl6⟩ := Cond.classLink_spec hown hl1 e.platform hpl
        obtain ⟨a8, b8, h1, h2, h3⟩ := hn1
        cases Option.some.inj (h1.symm.trans hcl)
        cases Option.some.inj (h2.symm.trans hc6)
        exact Or.inr ⟨hz0, _, hcl6, h3⟩) hx (Or.inr ⟨h0, c4, hcl5, hasg⟩)
  obtain ⟨t, a1, b1⟩ := kk (T.setVm vm') hT X'
  exact ⟨t, st.trans a1, b1⟩
end Rows
section Ends
variable {p : Program} {l : Launch} {e : Env} {R : Room} {s : State} {m : MethodId} {args : Array Value} {below : List Frame} {meth : Method} {c : Code} {H : Heap} {locs : List Loc} {cells slots : Nat} {Q : State → Prop}
variable {mc ms : Nat} {free : Addr → Prop} {A0 A1 : Nat → Prop} {H0 : Heap} {a : Array Value} {ls : Array Slot} {st0 rest : List Value}
variable {Qc : Array Value → State → Outcome → State → Prop} {XC : String → State → State → Prop}
/-- what a body that may throw owes at its end -/
def vx_MQ (below : List Frame) (Qc : Array Value → State → Outcome → State → Prop) (XC : String → State → State → Prop) (a : Array Value) (s : State) (mc ms : Nat) (free : Addr → Prop) : State → Prop := fun t =>
  ∃ o, t.status = .running ∧ Ended t below o ∧ vx_Q Qc XC mc ms free a s o t
theorem vx_ret {g : JFrame} {mc ms : Nat} (k : W p l e R s m args below meth c H locs cells slots (MQ below Qc args s mc ms free) g) : W p l e R s m args below meth c H locs cells slots (vx_MQ below Qc XC args s mc ms free) g := by
  intro T hT X
  obtain ⟨t, a1, o, b1, b2, b3, b4⟩ := k T hT X
  exact ⟨t, a1, o, b1, b2, Or.inl ⟨b3, b4⟩⟩
/-- not caught here: it goes on to the caller -/
theorem vx_widen {g : JFrame} {q : Addr} {k n : Nat} (h1 : cells ≤ k) (h2 : slots ≤ n) (kk : vx_W p l e R s m args below meth c H locs k n Q g q) : vx_W p l e R s m args below meth c H locs cells slots Q g q := fun T hT X => kk T hT (stand_widen X h1 h2)
theorem vx_out {pc : Nat} {E : String} {ce : Cell} {q : Addr} {mc ms : Nat} (hout : ∀ x ∈ c.exceptionTable.toList, covers x pc = false) (hlocks : meth.locks = false) (hcell : H[q]? = some ce) (hv : ce.vm = .none) (hcl : s.vm.findClass E = some ce.cls)
    (hx : ∀ t : State, t.heap = H → s.vm.Alike t.vm → XC E s t) (hf : ∀ z ∈ locs, free z.base) (hc : cells ≤ mc) (hs : slots ≤ ms) :
    vx_W p l e R s m args below meth c H locs cells slots (vx_MQ below Qc XC args s mc ms free) (F0 m pc ls rest) q := by
  intro T hT X
  obtain ⟨st1, hrun, hend, hW, hsm⟩ := X.leaveThrown q (g := F0 m pc ls rest) rfl rfl rfl hout hlocks
  have hcell9 : (T.setFrames (.throwing q :: below)).heap[q]? = some ce := by
    show T.heap[q]? = some ce
    rw [hT]; exact hcell
  exact ⟨_, st1, .threw q, hrun, hend, Or.inr ⟨q, rfl, E, ce, locs, hx _ hT hW.alike, hcell9, hv, hcl, hW, hsm.mono hc hs, hf⟩⟩
theorem vx_frame {U : State} {k n : Nat} (h : s.sameButNew ({ U with vm := s.vm } : State) locs k n) : s.heap.size ≤ U.heap.size ∧ ∀ q : Nat, q < s.heap.size → (∀ z ∈ locs, z.base ≠ q) → U.heap[q]? = s.heap[q]? := by
  obtain ⟨-, h2, -, -, -, h6⟩ := h
  refine ⟨h2, fun q hq hz => ?_⟩
  obtain ⟨c9, e1, e2, e3, e4⟩ := h6 q _ (Array.getElem?_eq_getElem hq)
  have hs : c9.slots = (s.heap[q]).slots := Array.ext_getElem? fun i => e4 i fun hm => hz _ hm rfl
  have h9 : c9 = s.heap[q] := by
    rw [hs] at e2
    exact e2
  have e5 : U.heap[q]? = some c9 := e1
  rw [e5, h9, Array.getElem?_eq_getElem hq]
/-- the words of a throw but the four that speak of the heap -/
def vx_no (w : Cond) : Bool := decide (w ≠ .isRef (.static Bundle.tN "UNASSIGNED_STACK" Bundle.steD)) && decide (w ≠ .isRef (.static Bundle.tN "SUPPRESSED_SENTINEL" Bundle.listD)) && decide (w ≠ .laysStatic Bundle.tN "UNASSIGNED_STACK" Bundle.steD) && decide (w ≠ .laysStatic Bundle.tN "SUPPRESSED_SENTINEL" Bundle.listD)
def vx_at0 (own : String) (ic : Nat) (X : String) (names : List String) : List Cond := (Bundle.ownAtoms0 own ic X names).filter vx_no
def vx_atS (own : String) (ic : Nat) (X : String) (names : List String) : List Cond := (Bundle.ownAtoms own ic X names).filter vx_no
/-- a word that the tables alone decide, or a good one -/
def vx_ot (w : Cond) : Bool := w.onTables || goodWord w
theorem vx_ot_at {args a' : Array Value} {s U : State} {w : Cond} (hW : s.WarmedH U.vm) (hvm : s.vm = U.vm) (hg : vx_ot w = true) (h : w.before args s = true) : w.before a' U = true := by
  simp only [vx_ot, Bool.or_eq_true] at hg
  rcases hg with hg | hg
  · exact va_tabs hg hvm h
  · exact word_at hW (good_of_word hg) h
/-- a list's words: the good ones out of the method's own list, the others by premises of their own -/
theorem vx_hat {args : Array Value} {s : State} {L B : List Cond} (h1 : ∀ w ∈ L.filter goodWord, w.before args s = true) (h2 : ∀ w ∈ L.filter (fun w => !goodWord w), w ∈ B) (h3 : ∀ w ∈ B, w.before args s = true) : ∀ w ∈ L, w.before args s = true := by
  intro w hw
  by_cases g : goodWord w = true
  · exact h1 w (List.mem_filter.mpr ⟨hw, g⟩)
  · refine h3 w (h2 w (List.mem_filter.mpr ⟨hw, ?_⟩))
    show (!goodWord w) = true
    cases hgw : goodWord w
    · rfl
    · exact absurd hgw g
theorem vx_c {args : Array Value} {s : State} {w : Cond} {B : List Cond} (h : w.before args s = true) (t : ∀ w ∈ B, w.before args s = true) : ∀ w' ∈ w :: B, w'.before args s = true := fun w' h' => (List.mem_cons.mp h').elim (fun e => by rw [e]; exact h) (t w')
theorem vx_n {args : Array Value} {s : State} : ∀ w ∈ ([] : List Cond), w.before args s = true := fun _ h => nomatch h
theorem vx_own {args : Array Value} {s : State} {L : List Cond} (h1 : ∀ w ∈ L.filter vx_no, w.before args s = true)
    (hU : (Cond.isRef (.static Bundle.tN "UNASSIGNED_STACK" Bundle.steD)).before args s = true) (hN : (Cond.isRef (.static Bundle.tN "SUPPRESSED_SENTINEL" Bundle.listD)).before args s = true)
    (lU : (Cond.laysStatic Bundle.tN "UNASSIGNED_STACK" Bundle.steD).before args s = true) (lN : (Cond.laysStatic Bundle.tN "SUPPRESSED_SENTINEL" Bundle.listD).before args s = true) : ∀ w ∈ L, w.before args s = true := by
  intro w hw
  by_cases e1 : w = .isRef (.static Bundle.tN "UNASSIGNED_STACK" Bundle.steD)
  · rw [e1]; exact hU
  · by_cases e2 : w = .isRef (.static Bundle.tN "SUPPRESSED_SENTINEL" Bundle.listD)
    · rw [e2]; exact hN
    · by_cases e3 : w = .laysStatic Bundle.tN "UNASSIGNED_STACK" Bundle.steD
      · rw [e3]; exact lU
      · by_cases e4 : w = .laysStatic Bundle.tN "SUPPRESSED_SENTINEL" Bundle.listD
        · rw [e4]; exact lN
        · exact h1 w (List.mem_filter.mpr ⟨hw, by unfold vx_no; rw [decide_eq_true e1, decide_eq_true e2, decide_eq_true e3, decide_eq_true e4]; rfl⟩)
/-- where a static field lies, its class's statics cell in H -/
def vx_L (C n d : String) (A : Nat → Prop) (U : State) (H : Heap) : Prop := ∃ (c : ClassId) (k : Class) (i : Nat) (f : Field) (a : Nat) (cell : Cell), U.vm.findClass C = some c ∧ U.fieldFound? C n d = some (c, k, i, f) ∧ f.isStatic = true ∧ k.statics = some a ∧ H[a]? = some cell ∧ cell.vm.isStatics = true ∧ cell.cls = c ∧ f.slot < cell.slots.size ∧ k.staticTypes[f.slot]? = some f.type ∧ ¬ A a
theorem vx_L.moved {C n d : String} {A : Nat → Prop} {u U : State} {H : Heap} (hvm : u.vm.Alike U.vm) (h : vx_L C n d A u H) : vx_L C n d A U H := by
  obtain ⟨c, k, i, f, a, cell, h1, h2, h3, h4, h5, h6, h7, h8, h9, h10⟩ := h
  obtain ⟨k', hi', he⟩ := State.fieldFound?_setVm hvm h2
  exact ⟨c, k', i, f, a, cell, by rw [hvm.findClass]; exact h1, hi', h3, by rw [he]; exact h4, h5, h6, h7, h8, by rw [he]; exact h9, h10⟩
theorem vx_L.kept {C n d : String} {A : Nat → Prop} {U : State} {H H1 : Heap} (h : vx_L C n d A U H) (hq : ∀ a : Nat, a < H.size → ¬ A a → H1[a]? = H[a]?) : vx_L C n d A U H1 := by
  obtain ⟨c, k, i, f, a, cell, h1, h2, h3, h4, h5, h6, h7, h8, h9, h10⟩ := h
  exact ⟨c, k, i, f, a, cell, h1, h2, h3, h4, by rw [hq a (Array.getElem?_eq_some_iff.mp h5).1 h10]; exact h5, h6, h7, h8, h9, h10⟩
theorem vx_L.narrow {C n d : String} {A B : Nat → Prop} {U : State} {H : Heap} (h : vx_L C n d A U H) (hAB : ∀ q, B q → A q) : vx_L C n d B U H := by
  obtain ⟨c, k, i, f, a, cell, h1, h2, h3, h4, h5, h6, h7, h8, h9, h10⟩ := h
  exact ⟨c, k, i, f, a, cell, h1, h2, h3, h4, h5, h6, h7, h8, h9, fun z => h10 (hAB _ z)⟩
theorem vx_L.word {C n d : String} {A : Nat → Prop} {s : State} {args : Array Value} (h : vx_L C n d A s s.heap) : (Cond.laysStatic C n d).before args s = true := by
  obtain ⟨c, k, i, f, a, cell, h1, h2, h3, h4, h5, h6, h7, h8, h9, -⟩ := h
  show (Cond.laysStatic C n d).holds args s none s [] = true
  exact Cond.laysStatic_of h1 h2 h3 h4 h5 h6 h7 h8 h9
/-- .. and what it holds: null or some reference -/
def vx_Zq (C n d : String) (A : Nat → Prop) (U : State) (H : Heap) : Prop := va_Zq C n d A U H ∧ vx_L C n d A U H
theorem vx_Zq.moved {C n d : String} {A : Nat → Prop} {u U : State} {H : Heap} (hvm : u.vm.Alike U.vm) (h : vx_Zq C n d A u H) : vx_Zq C n d A U H := ⟨va_Zq.moved hvm h.1, vx_L.moved hvm h.2⟩
theorem vx_Zq.kept {C n d : String} {A : Nat → Prop} {U : State} {H H1 : Heap} (h : vx_Zq C n d A U H) (hq : ∀ a : Nat, a < H.size → ¬ A a → H1[a]? = H[a]?) : vx_Zq C n d A U H1 := ⟨va_Zq.kept h.1 hq, vx_L.kept h.2 hq⟩
theorem vx_Zq.narrow {C n d : String} {A B : Nat → Prop} {U : State} {H : Heap} (h : vx_Zq C n d A U H) (hAB : ∀ q, B q → A q) : vx_Zq C n d B U H := ⟨va_Zq.narrow h.1 hAB, vx_L.narrow h.2 hAB⟩
theorem vx_Zqof {args : Array Value} {s : State} {C n d : String} {A : Nat → Prop} (hl : (Cond.laysStatic C n d).before args s = true) (hini : (Cond.initialized C).before args s = true) (h : (Cond.isRef (.static C n d)).before args s = true) (hA : ∀ a : Nat, a < s.heap.size → ¬ A a) : vx_Zq C n d A s s.heap := by
  refine ⟨va_Zqof hl hini h hA, ?_⟩
  obtain ⟨c, k, i, f, a, cell, h1, h2, h3, h4, h5, h6, h7, h8, h9⟩ := Cond.laysStatic_spec hl
  exact ⟨c, k, i, f, a, cell, h1, h2, h3, h4, h5, h6, h7, h8, h9, hA a (Array.getElem?_eq_some_iff.mp h5).1⟩
theorem vx_isRef {C n d : String} {v : Value} {A : Nat → Prop} {s : State} {args : Array Value} (h : va_Z C n d v A s s.heap) (hv : v.isRef = true) : (Cond.isRef (.static C n d)).before args s = true := by
  obtain ⟨cf, kf, fi, f, a, cell, h1, h2, h3, h4, h5, h6, h7, -⟩ := h
  have he : (Term.static C n d).eval args s none [] s = some v := by
    simp [Term.eval, State.fieldNamed?, h1, h2, h4, h5, h6, h7]
  simp only [Cond.before, Cond.holds, Cond.value, he]
  cases v <;> simp_all [Value.isRef]
theorem vx_isRefq {C n d : String} {A : Nat → Prop} {s : State} {args : Array Value} (h : va_Zq C n d A s s.heap) : (Cond.isRef (.static C n d)).before args s = true := by
  rcases h with h | ⟨t, h⟩
  · exact vx_isRef h rfl
  · exact vx_isRef h rfl
/-- the same frame, seen from here: as if the method were called anew in this heap -/
theorem vx_rebase {T : State} (X : Stand p l e R s m args below meth c T locs cells slots) {R' : Room} (hf : R'.frames ≤ R.frames) (hl : R'.locals ≤ R.locals) (hc : cells + R'.cells ≤ R.cells) (hs : slots + R'.slots ≤ R.slots) :
    Stand p l e R' ((T.setVm s.vm).setFrames (.invoking m args :: below)) m args below meth c T [] 0 0 := by
  have htop : (T.setVm s.vm).topJava?.isSome := X.here.top
  have hF : ((T.setVm s.vm).setFrames (.invoking m args :: below)).frames = .invoking m args :: below := State.frames_setFrames _ (State.cur_lt_of_top htop)
  obtain ⟨g₀, hg0⟩ := Option.isSome_iff_exists.mp htop
  obtain ⟨r, hr⟩ := State.topJava?_eq_some.mp hg0
  have hl9 : e.platform.stackLimits (T.setVm s.vm).me = e.platform.stackLimits s.me := X.limits
  have hb9 : (T.setVm s.vm).me.stackBytes = s.me.stackBytes := X.bytes
  refine ⟨X.admits, X.cas, X.clock, hF, ?_, X.hears, X.method, X.code, X.here, X.tail, X.warmed, ?_, ?_, ?_⟩
  · have h := X.room
    have hU : ((T.setVm s.vm).setFrames (.invoking m args :: below)).localsInUse = s.localsInUse := by
      rw [State.localsInUse_invoking hF (meth := meth) (c := c) X.method X.code, State.localsInUse_invoking X.frames X.method X.code]
    simp only [State.hasRoom, Bool.and_eq_true, decide_eq_true_eq] at h ⊢
    obtain ⟨⟨⟨⟨h1, h2, h3, h4, h5, h6⟩, h7⟩, h8⟩, h9⟩ := h
    rw [X.frames, List.length_cons] at h2 h3
    have q1 := X.heapSize
    have q2 := X.used
    simp only [hF, hU, List.length_cons, State.stackLimits_setFrames, State.stackBytes_setFrames, hl9, hb9]
    refine ⟨⟨⟨⟨by omega, by omega, by omega, by omega, by omega, h6⟩, ?_⟩, ?_⟩, X.book⟩
    · show T.heap.size + R'.cells ≤ e.platform.maxCells
      omega
    · show T.slotsUsed + R'.slots ≤ e.platform.maxSlots
      omega
  · rw [State.stackLimits_setFrames]; rfl
  · rw [State.stackBytes_setFrames]; rfl
  · refine ⟨?_, Nat.le_refl _, Nat.le_refl _, ?_, ?_, fun a c9 h9 => ⟨c9, h9, rfl, rfl, fun _ _ => rfl⟩⟩
    · obtain ⟨t, ht, -⟩ := State.frames_cons hr
      show T.setVm s.vm = { ((T.setVm s.vm).setFrames (.invoking m args :: below)).setFrames (T.setVm s.vm).frames with heap := T.heap, slotsUsed := T.slotsUsed }
      rw [State.setFrames_setFrames, State.setFrames_self ht]
      rfl
    · show T.slotsUsed = T.slotsUsed + ((T.heap.toList.drop T.heap.size).map (·.slots.size)).sum
      rw [List.drop_eq_nil_of_le (Nat.le_of_eq Array.length_toList)]
      rfl
    · show ((T.heap.toList.drop T.heap.size).map (·.slots.size)).sum ≤ 0
      rw [List.drop_eq_nil_of_le (Nat.le_of_eq Array.length_toList)]
      exact Nat.le_refl _
/-- 'throw new E()': new; dup; invokespecial; athrow -/
theorem vx_throw0 {cc : ByteArray} {pc : Nat} (hexec : p.tables.exec = Jvm.exec) (hb : c.code = cc) (hl : l.stackTraces = false) {own cls : String} {names : List String} {ik ic mc ms : Nat} {A : Nat → Prop}
    (hown : s.vm.findClass own = some m.cls) (hcls : Bundle.fit cls = true) (hnames : ∀ n ∈ names, Bundle.fit n = true)
    (hk : (Cond.classLink own ik cls).before args s = true) (hini : (Cond.initialized cls).before args s = true) (hat : ∀ w ∈ vx_at0 own ic cls names, w.before args s = true)
    (hgood : ∀ w ∈ Cond.classLink own ik cls :: Cond.initialized cls :: vx_at0 own ic cls names, vx_ot w = true)
    (hU : vx_Zq Bundle.tN "UNASSIGNED_STACK" Bundle.steD A s s.heap) (hN : vx_Zq Bundle.tN "SUPPRESSED_SENTINEL" Bundle.listD A s s.heap) (hS : va_S A s.heap H locs) (hsize : ls.size = c.maxLocals)
    (d0 : decode cc pc = .ok (.new ik, 3)) (d3 : decode cc (pc + 3) = .ok (.dup, 1)) (d4 : decode cc (pc + 4) = .ok (.invokespecial ic, 3)) (d7 : decode cc (pc + 7) = .ok (.athrow, 1))
    (hout : ∀ x ∈ c.exceptionTable.toList, covers x (pc + 7) = false)
    (hRframes : names.length + 3 < R.frames) (hRlocals : (rest.map fun v => v.category).sum + (13 * (names.length + 1) + 42) ≤ R.locals) (hRcells : cells + 1 ≤ R.cells) (hRslots : slots + 6 ≤ R.slots) (hlocks : meth.locks = false)
    (hx : ∀ t : State, s.vm.Alike t.vm → H.size ≤ t.heap.size → (∀ q : Nat, q < H.size → t.heap[q]? = H[q]?) → XC cls s t)
    (hf : ∀ z ∈ locs, free z.base) (hc : cells + 1 ≤ mc) (hs : slots + 6 ≤ ms) :
    W p l e R s m args below meth c H locs cells slots (vx_MQ below Qc XC args s mc ms free) (F0 m pc ls rest) := by
  intro T hT X
  have htr : e.platform.stackTraces = false := (show e.platform.stackTraces = l.stackTraces by rw [X.admits.platform]).trans hl
  have Y := vx_rebase X (R' := { frames := R.frames, locals := R.locals, cells := 1, slots := 6 }) (Nat.le_refl _) (Nat.le_refl _) hRcells hRslots
  obtain ⟨s', hA⟩ : ∃ z, z = (T.setVm s.vm).setFrames (.invoking m args :: below) := ⟨_, rfl⟩
  rw [← hA] at Y
  have hvm : s'.vm = s.vm := by rw [hA]; rfl
  have hhp : s'.heap = H := by rw [hA]; exact hT
  have hW0 : s.WarmedH s'.vm := by rw [hvm]; exact State.WarmedH.refl s
  have hat' : ∀ w ∈ vx_at0 own ic cls names, w.before args s' = true := fun w hw => vx_ot_at hW0 hvm.symm (hgood w (List.mem_cons_of_mem _ (List.mem_cons_of_mem _ hw))) (hat w hw)
  have hk' : (Cond.classLink own ik cls).before args s' = true := vx_ot_at hW0 hvm.symm (hgood _ List.mem_cons_self) hk
  have hini' : (Cond.initialized cls).before args s' = true := vx_ot_at hW0 hvm.symm (hgood _ (List.mem_cons_of_mem _ List.mem_cons_self)) hini
  have hU' : vx_Zq Bundle.tN "UNASSIGNED_STACK" Bundle.steD A s' s'.heap := by rw [hhp]; exact vx_Zq.moved hW0.alike (hU.kept hS.2.1)
  have hN' : vx_Zq Bundle.tN "SUPPRESSED_SENTINEL" Bundle.listD A s' s'.heap := by rw [hhp]; exact vx_Zq.moved hW0.alike (hN.kept hS.2.1)
  have h : ∀ w ∈ Bundle.ownAtoms0 own ic cls names, w.before args s' = true := vx_own hat' (vx_isRefq hU'.1) (vx_isRefq hN'.1) hU'.2.word hN'.2.word
  have hown' : s'.vm.findClass own = some m.cls := by rw [hvm]; exact hown
  have hins : (Cond.instantiable cls 6).before args s' = true := h _ (by simp [Bundle.ownAtoms0])
  obtain ⟨vm₁, cX, kX, hfX, hkX, -, -, X₁, st1⟩ := Y.newCold hexec (own := own) (C := cls) (index := ik) (n := 6) hown' hk' hins hini'
    (g := F0 m pc ls rest) rfl (by rw [hb]; exact d0) (Nat.le_refl _) (Nat.le_refl _)
  generalize hT1 : (T.setVm vm₁).pushCell { cls := cX, slots := kX.instanceTypes.map defaultValue, vm := .none } = T1 at X₁ st1
  have hcat : (Value.ref T.heap.size).category = 1 := rfl
  have hcellA : T1.heap[T.heap.size]? = some (freshCell cX kX) := by rw [← hT1]; exact State.heap_pushCell_size _ _
  have d3' : decode c.code (pc + 3) = .ok (.dup, 1) := by rw [hb]; exact d3
  obtain ⟨U, hsteps, hrun, hend, hW, hsame, ce, hce, hO⟩ := X₁.ctorThrow0 hexec htr (own := own) (cls := cls) (names := names) (ic := ic) hown' hcls hnames h (fun x hx => nomatch hx) hfX hkX hcellA (by rw [hhp, hT]; exact Nat.le_refl _)
    (g := { method := m, pc := pc + 4, locals := ls, stack := .ref T.heap.size :: .ref T.heap.size :: rest, locked := none }) rfl hsize rfl rfl (rest := rest) rfl
    (by rw [hb]; exact d4) (by rw [hb]; exact d7) hout hRframes (by simp only [List.map_cons, List.sum_cons, hcat]; omega) hlocks
  obtain ⟨f1, f2⟩ := vx_frame hsame
  rw [hhp] at f1 f2
  have hWs : s.WarmedH U.vm := State.WarmedH.trans hW0 hW
  have hcl : s.vm.findClass cls = some ce.cls := by
    have h9 := hO.cls
    rw [hvm] at h9
    exact h9
  have hall : s.sameButNew ({ U with vm := s.vm } : State) locs mc ms := by
    subst hA
    obtain ⟨e1, e2⟩ := hsame
    rw [State.setFrames_setFrames] at e1
    have h2 : (T.setVm s.vm).sameButNew ({ U with vm := s.vm } : State) [] (0 + 1) (0 + 6) := ⟨e1, e2⟩
    have h3 := X.same.trans h2
    rw [List.append_nil] at h3
    exact h3.mono hc hs
  refine ⟨U, ?_, .threw T.heap.size, hrun, hend, Or.inr ⟨T.heap.size, rfl, cls, ce, locs, hx U hWs.alike f1 (fun q hq => f2 q hq (fun z hz => nomatch hz)), hce, hO.vm, hcl, hWs, hall, hf⟩⟩
  refine st1 _ ?_
  show Steps p.tables e below (T1.setTop { method := m, pc := pc + 3, locals := ls, stack := .ref T.heap.size :: rest, locked := none }) _
  jvm_step X₁.here [X₁.here.top, hexec, d3', Value.category]
  exact hsteps
/-- 'throw new E("text")': new; dup; ldc; invokespecial; athrow -/
theorem vx_throwS {cc : ByteArray} {pc : Nat} (hexec : p.tables.exec = Jvm.exec) (hb : c.code = cc) (hl : l.stackTraces = false) {own cls text : String} {names : List String} {ik is ic mc ms sa : Nat} {A : Nat → Prop}
    (hown : s.vm.findClass own = some m.cls) (hcls : Bundle.fit cls = true) (hnames : ∀ n ∈ names, Bundle.fit n = true)
    (hk : (Cond.classLink own ik cls).before args s = true) (hini : (Cond.initialized cls).before args s = true) (hstr : vk_R own is text sa s) (hat : ∀ w ∈ vx_atS own ic cls names, w.before args s = true)
    (hgood : ∀ w ∈ Cond.classLink own ik cls :: Cond.initialized cls :: vx_atS own ic cls names, vx_ot w = true)
    (hU : vx_Zq Bundle.tN "UNASSIGNED_STACK" Bundle.steD A s s.heap) (hN : vx_Zq Bundle.tN "SUPPRESSED_SENTINEL" Bundle.listD A s s.heap) (hS : va_S A s.heap H locs) (hsize : ls.size = c.maxLocals)
    (d0 : decode cc pc = .ok (.new ik, 3)) (d3 : decode cc (pc + 3) = .ok (.dup, 1)) (d4 : decode cc (pc + 4) = .ok (.ldc is, 2)) (d6 : decode cc (pc + 6) = .ok (.invokespecial ic, 3)) (d9 : decode cc (pc + 9) = .ok (.athrow, 1))
    (hout : ∀ x ∈ c.exceptionTable.toList, covers x (pc + 9) = false)
    (hRframes : names.length + 3 < R.frames) (hRlocals : (rest.map fun v => v.category).sum + (13 * (names.length + 1) + 43) ≤ R.locals) (hRcells : cells + 1 ≤ R.cells) (hRslots : slots + 6 ≤ R.slots) (hlocks : meth.locks = false)
    (hx : ∀ t : State, s.vm.Alike t.vm → H.size ≤ t.heap.size → (∀ q : Nat, q < H.size → t.heap[q]? = H[q]?) → XC cls s t)
    (hf : ∀ z ∈ locs, free z.base) (hc : cells + 1 ≤ mc) (hs : slots + 6 ≤ ms) :
    W p l e R s m args below meth c H locs cells slots (vx_MQ below Qc XC args s mc ms free) (F0 m pc ls rest) := by
  intro T hT X
  have htr : e.platform.stackTraces = false := (show e.platform.stackTraces = l.stackTraces by rw [X.admits.platform]).trans hl
  have Y := vx_rebase X (R' := { frames := R.frames, locals := R.locals, cells := 1, slots := 6 }) (Nat.le_refl _) (Nat.le_refl _) hRcells hRslots
  obtain ⟨s', hA⟩ : ∃ z, z = (T.setVm s.vm).setFrames (.invoking m args :: below) := ⟨_, rfl⟩
  rw [← hA] at Y
  have hvm : s'.vm = s.vm := by rw [hA]; rfl
  have hhp : s'.heap = H := by rw [hA]; exact hT
  have hW0 : s.WarmedH s'.vm := by rw [hvm]; exact State.WarmedH.refl s
  have hat' : ∀ w ∈ vx_atS own ic cls names, w.before args s' = true := fun w hw => vx_ot_at hW0 hvm.symm (hgood w (List.mem_cons_of_mem _ (List.mem_cons_of_mem _ hw))) (hat w hw)
  have hk' : (Cond.classLink own ik cls).before args s' = true := vx_ot_at hW0 hvm.symm (hgood _ List.mem_cons_self) hk
  have hini' : (Cond.initialized cls).before args s' = true := vx_ot_at hW0 hvm.symm (hgood _ (List.mem_cons_of_mem _ List.mem_cons_self)) hini
  have hU' : vx_Zq Bundle.tN "UNASSIGNED_STACK" Bundle.steD A s' s'.heap := by rw [hhp]; exact vx_Zq.moved hW0.alike (hU.kept hS.2.1)
  have hN' : vx_Zq Bundle.tN "SUPPRESSED_SENTINEL" Bundle.listD A s' s'.heap := by rw [hhp]; exact vx_Zq.moved hW0.alike (hN.kept hS.2.1)
  have h : ∀ w ∈ Bundle.ownAtoms own ic cls names, w.before args s' = true := vx_own hat' (vx_isRefq hU'.1) (vx_isRefq hN'.1) hU'.2.word hN'.2.word
  have hown' : s'.vm.findClass own = some m.cls := by rw [hvm]; exact hown
  have hins : (Cond.instantiable cls 6).before args s' = true := h _ (by simp [Bundle.ownAtoms])
  obtain ⟨vm₁, cX, kX, hfX, hkX, -, -, X₁, st1⟩ := Y.newCold hexec (own := own) (C := cls) (index := ik) (n := 6) hown' hk' hins hini'
    (g := F0 m pc ls rest) rfl (by rw [hb]; exact d0) (Nat.le_refl _) (Nat.le_refl _)
  generalize hT1 : (T.setVm vm₁).pushCell { cls := cX, slots := kX.instanceTypes.map defaultValue, vm := .none } = T1 at X₁ st1
  have hcat : (Value.ref T.heap.size).category = 1 := rfl
  have hcellA : T1.heap[T.heap.size]? = some (freshCell cX kX) := by rw [← hT1]; exact State.heap_pushCell_size _ _
  have d3' : decode c.code (pc + 3) = .ok (.dup, 1) := by rw [hb]; exact d3
  have d4' : decode c.code (pc + 4) = .ok (.ldc is, 2) := by rw [hb]; exact d4
  have hstr' : vk_R own is text sa s' := vk_R.warm hW0 hstr
  obtain ⟨U, hsteps, hrun, hend, hW, hsame, ce, hce, hO⟩ := X₁.ctorThrowS hexec htr (own := own) (cls := cls) (names := names) (ic := ic) hown' hcls hnames h (fun x hx => nomatch hx) hfX hkX hcellA (by rw [hhp, hT]; exact Nat.le_refl _) (msg := .ref sa) rfl
    (g := { method := m, pc := pc + 6, locals := ls, stack := .ref sa :: .ref T.heap.size :: .ref T.heap.size :: rest, locked := none }) rfl hsize rfl rfl (rest := rest) rfl
    (by rw [hb]; exact d6) (by rw [hb]; exact d9) hout hRframes (by simp only [List.map_cons, List.sum_cons, hcat]; omega) hlocks
  obtain ⟨f1, f2⟩ := vx_frame hsame
  rw [hhp] at f1 f2
  have hWs : s.WarmedH U.vm := State.WarmedH.trans hW0 hW
  have hcl : s.vm.findClass cls = some ce.cls := by
    have h9 := hO.cls
    rw [hvm] at h9
    exact h9
  have hall : s.sameButNew ({ U with vm := s.vm } : State) locs mc ms := by
    subst hA
    obtain ⟨e1, e2⟩ := hsame
    rw [State.setFrames_setFrames] at e1
    have h2 : (T.setVm s.vm).sameButNew ({ U with vm := s.vm } : State) [] (0 + 1) (0 + 6) := ⟨e1, e2⟩
    have h3 := X.same.trans h2
    rw [List.append_nil] at h3
    exact h3.mono hc hs
  refine ⟨U, ?_, .threw T.heap.size, hrun, hend, Or.inr ⟨T.heap.size, rfl, cls, ce, locs, hx U hWs.alike f1 (fun q hq => f2 q hq (fun z hz => nomatch hz)), hce, hO.vm, hcl, hWs, hall, hf⟩⟩
  refine st1 _ ?_
  show Steps p.tables e below (T1.setTop { method := m, pc := pc + 3, locals := ls, stack := .ref T.heap.size :: rest, locked := none }) _
  jvm_step X₁.here [X₁.here.top, hexec, d3', Value.category]
  exact X₁.ldcString hexec (own := own) (text := text) (index := is) (a := sa) hown' hstr'.1 hstr'.2
    (g := { method := m, pc := pc + 4, locals := ls, stack := .ref T.heap.size :: .ref T.heap.size :: rest, locked := none }) rfl d4' _ hsteps
/-- 'throw new E("text")', the text by a wide index -/
theorem vx_throwSW {cc : ByteArray} {pc : Nat} (hexec : p.tables.exec = Jvm.exec) (hb : c.code = cc) (hl : l.stackTraces = false) {own cls text : String} {names : List String} {ik is ic mc ms sa : Nat} {A : Nat → Prop}
    (hown : s.vm.findClass own = some m.cls) (hcls : Bundle.fit cls = true) (hnames : ∀ n ∈ names, Bundle.fit n = true)
    (hk : (Cond.classLink own ik cls).before args s = true) (hini : (Cond.initialized cls).before args s = true) (hstr : vk_R own is text sa s) (hat : ∀ w ∈ vx_atS own ic cls names, w.before args s = true)
    (hgood : ∀ w ∈ Cond.classLink own ik cls :: Cond.initialized cls :: vx_atS own ic cls names, vx_ot w = true)
    (hU : vx_Zq Bundle.tN "UNASSIGNED_STACK" Bundle.steD A s s.heap) (hN : vx_Zq Bundle.tN "SUPPRESSED_SENTINEL" Bundle.listD A s s.heap) (hS : va_S A s.heap H locs) (hsize : ls.size = c.maxLocals)
    (d0 : decode cc pc = .ok (.new ik, 3)) (d3 : decode cc (pc + 3) = .ok (.dup, 1)) (d4 : decode cc (pc + 4) = .ok (.ldc_w is, 3)) (d7 : decode cc (pc + 7) = .ok (.invokespecial ic, 3)) (d10 : decode cc (pc + 10) = .ok (.athrow, 1))
    (hout : ∀ x ∈ c.exceptionTable.toList, covers x (pc + 10) = false)
    (hRframes : names.length + 3 < R.frames) (hRlocals : (rest.map fun v => v.category).sum + (13 * (names.length + 1) + 43) ≤ R.locals) (hRcells : cells + 1 ≤ R.cells) (hRslots : slots + 6 ≤ R.slots) (hlocks : meth.locks = false)
    (hx : ∀ t : State, s.vm.Alike t.vm → H.size ≤ t.heap.size → (∀ q : Nat, q < H.size → t.heap[q]? = H[q]?) → XC cls s t)
    (hf : ∀ z ∈ locs, free z.base) (hc : cells + 1 ≤ mc) (hs : slots + 6 ≤ ms) :
    W p l e R s m args below meth c H locs cells slots (vx_MQ below Qc XC args s mc ms free) (F0 m pc ls rest) := by
  intro T hT X
  have htr : e.platform.stackTraces = false := (show e.platform.stackTraces = l.stackTraces by rw [X.admits.platform]).trans hl
  have Y := vx_rebase X (R' := { frames := R.frames, locals := R.locals, cells := 1, slots := 6 }) (Nat.le_refl _) (Nat.le_refl _) hRcells hRslots
  obtain ⟨s', hA⟩ : ∃ z, z = (T.setVm s.vm).setFrames (.invoking m args :: below) := ⟨_, rfl⟩
  rw [← hA] at Y
  have hvm : s'.vm = s.vm := by rw [hA]; rfl
  have hhp : s'.heap = H := by rw [hA]; exact hT
  have hW0 : s.WarmedH s'.vm := by rw [hvm]; exact State.WarmedH.refl s
  have hat' : ∀ w ∈ vx_atS own ic cls names, w.before args s' = true := fun w hw => vx_ot_at hW0 hvm.symm (hgood w (List.mem_cons_of_mem _ (List.mem_cons_of_mem _ hw))) (hat w hw)
  have hk' : (Cond.classLink own ik cls).before args s' = true := vx_ot_at hW0 hvm.symm (hgood _ List.mem_cons_self) hk
  have hini' : (Cond.initialized cls).before args s' = true := vx_ot_at hW0 hvm.symm (hgood _ (List.mem_cons_of_mem _ List.mem_cons_self)) hini
  have hU' : vx_Zq Bundle.tN "UNASSIGNED_STACK" Bundle.steD A s' s'.heap := by rw [hhp]; exact vx_Zq.moved hW0.alike (hU.kept hS.2.1)
  have hN' : vx_Zq Bundle.tN "SUPPRESSED_SENTINEL" Bundle.listD A s' s'.heap := by rw [hhp]; exact vx_Zq.moved hW0.alike (hN.kept hS.2.1)
  have h : ∀ w ∈ Bundle.ownAtoms own ic cls names, w.before args s' = true := vx_own hat' (vx_isRefq hU'.1) (vx_isRefq hN'.1) hU'.2.word hN'.2.word
  have hown' : s'.vm.findClass own = some m.cls := by rw [hvm]; exact hown
  have hins : (Cond.instantiable cls 6).before args s' = true := h _ (by simp [Bundle.ownAtoms])
  obtain ⟨vm₁, cX, kX, hfX, hkX, -, -, X₁, st1⟩ := Y.newCold hexec (own := own) (C := cls) (index := ik) (n := 6) hown' hk' hins hini'
    (g := F0 m pc ls rest) rfl (by rw [hb]; exact d0) (Nat.le_refl _) (Nat.le_refl _)
  generalize hT1 : (T.setVm vm₁).pushCell { cls := cX, slots := kX.instanceTypes.map defaultValue, vm := .none } = T1 at X₁ st1
  have hcat : (Value.ref T.heap.size).category = 1 := rfl
  have hcellA : T1.heap[T.heap.size]? = some (freshCell cX kX) := by rw [← hT1]; exact State.heap_pushCell_size _ _
  have d3' : decode c.code (pc + 3) = .ok (.dup, 1) := by rw [hb]; exact d3
  have d4' : decode c.code (pc + 4) = .ok (.ldc_w is, 3) := by rw [hb]; exact d4
  have hstr' : vk_R own is text sa s' := vk_R.warm hW0 hstr
  obtain ⟨U, hsteps, hrun, hend, hW, hsame, ce, hce, hO⟩ := X₁.ctorThrowS hexec htr (own := own) (cls := cls) (names := names) (ic := ic) hown' hcls hnames h (fun x hx => nomatch hx) hfX hkX hcellA (by rw [hhp, hT]; exact Nat.le_refl _) (msg := .ref sa) rfl
    (g := { method := m, pc := pc + 7, locals := ls, stack := .ref sa :: .ref T.heap.size :: .ref T.heap.size :: rest, locked := none }) rfl hsize rfl rfl (rest := rest) rfl
    (by rw [hb]; exact d7) (by rw [hb]; exact d10) hout hRframes (by simp only [List.map_cons, List.sum_cons, hcat]; omega) hlocks
  obtain ⟨f1, f2⟩ := vx_frame hsame
  rw [hhp] at f1 f2
  have hWs : s.WarmedH U.vm := State.WarmedH.trans hW0 hW
  have hcl : s.vm.findClass cls = some ce.cls := by
    have h9 := hO.cls
    rw [hvm] at h9
    exact h9
  have hall : s.sameButNew ({ U with vm := s.vm } : State) locs mc ms := by
    subst hA
    obtain ⟨e1, e2⟩ := hsame
    rw [State.setFrames_setFrames] at e1
    have h2 : (T.setVm s.vm).sameButNew ({ U with vm := s.vm } : State) [] (0 + 1) (0 + 6) := ⟨e1, e2⟩
    have h3 := X.same.trans h2
    rw [List.append_nil] at h3
    exact h3.mono hc hs
  refine ⟨U, ?_, .threw T.heap.size, hrun, hend, Or.inr ⟨T.heap.size, rfl, cls, ce, locs, hx U hWs.alike f1 (fun q hq => f2 q hq (fun z hz => nomatch hz)), hce, hO.vm, hcl, hWs, hall, hf⟩⟩
  refine st1 _ ?_
  show Steps p.tables e below (T1.setTop { method := m, pc := pc + 3, locals := ls, stack := .ref T.heap.size :: rest, locked := none }) _
  jvm_step X₁.here [X₁.here.top, hexec, d3', Value.category]
  exact X₁.ldcStringW hexec (own := own) (text := text) (index := is) (a := sa) hown' hstr'.1 hstr'.2
    (g := { method := m, pc := pc + 4, locals := ls, stack := .ref T.heap.size :: .ref T.heap.size :: rest, locked := none }) rfl d4' _ hsteps
end Ends
section Bodies
variable {l : Launch}
theorem vx_ofW {y : MethodName} {ws ws' : List Cond} {rm : Room} {Pc : Array Value → State → Prop} {Qc : Array Value → State → Outcome → State → Prop} {XC : String → State → State → Prop} {mc ms : Nat} {free : Addr → Prop} {cc : ByteArray} {maxL : Nat} {ret : Option FieldType}
    (hy : plainName y.cls = true) (hw : ws = Cond.code y cc maxL ret :: ws')
    (body : ∀ p e s m args below meth c s₁, BodyLoose p l y (headSpec ws rm) cc maxL ret e s m args below meth c s₁ → c.maxLocals = maxL → (∀ x ∈ c.exceptionTable.toList, False) → Pc args s →
      W p l e (headSpec ws rm).room s m args below meth c s.heap [] 0 0 (vx_MQ below Qc XC args s mc ms free) (entryFrame m args maxL)) : vx_Met l y ws rm Pc Qc XC mc ms free := by
  refine MetFree.of_bodyS (code := cc) (maxLocals := maxL) (ret := ret) hy ?_ ?_
  · intro args s m h hn
    obtain ⟨meth, c, h1, h2, h3, h4, h5, h6, -, -⟩ := Cond.code_spec hn (atoms_spec (ws := ws) h _ (by rw [hw]; exact List.mem_cons_self))
    exact ⟨meth, c, h1, h2, h3, h4, h5, h6⟩
  · intro p e s m args below meth c s₁ B hml hP _
    have hh0 : s₁.heap = s.heap := by rw [B.state]; rfl
    have ht : ∀ x ∈ c.exceptionTable.toList, False := by
      obtain ⟨meth9, c9, h1, h2, -, -, -, -, h7, -⟩ := Cond.code_spec B.named (atoms_spec (ws := ws) B.pre _ (by rw [hw]; exact List.mem_cons_self))
      cases Option.some.inj (h1.symm.trans B.method)
      cases Option.some.inj (h2.symm.trans (Stand.of_body B).code)
      intro x hx
      rw [Array.isEmpty_iff.mp h7] at hx
      cases hx
    obtain ⟨t, a1, o, b1, b2, b3⟩ := body p e s m args below meth c s₁ B hml ht hP s₁ hh0 (Stand.of_body B)
    exact ⟨t, o, a1, b1, b2, b3⟩
/-- the table of a body with handlers -/
theorem vx_table {p : Program} {x y : MethodName} {S : Spec} {cc bytes : ByteArray} {maxL maxL' : Nat} {ret ret' : Option FieldType} {e : Env} {s s₁ : State} {m : MethodId} {args : Array Value} {below : List Frame} {meth : Method} {c : Code} {hh : List (Nat × Nat × Nat × Nat)}
    (B : BodyLoose p l y S cc maxL ret e s m args below meth c s₁) (h : (Cond.codeWith y bytes maxL' ret' hh).before args s = true) : c.exceptionTable.toList = tableOf hh := by
  obtain ⟨m9, meth9, c9, hn9, h1, h2, -, -, h6, -⟩ := Cond.codeWith_spec h
  cases Option.some.inj (hn9.symm.trans B.named)
  cases Option.some.inj (h1.symm.trans B.method)
  cases Option.some.inj (h2.symm.trans (Stand.of_body B).code)
  rw [← h6, table_eq]
end Bodies
end VXA
/-! ===== END ===== -/
/-! ===== BEGIN a static call of a method with an exception table ===== -/
section VXS
variable {p : Program} {l : Launch} {e : Env} {R : Room} {s : State} {m : MethodId} {args : Array Value} {below : List Frame} {meth : Method} {c : Code} {T : State} {H : Heap} {locs : List Loc} {cells slots : Nat}
abbrev vx_CSW (R : Room) (s : State) (args : Array Value) (own : String) (index : Nat) (y : MethodName) (bytes : ByteArray) (maxL : Nat) (ret : Option FieldType) (hh : List (Nat × Nat × Nat × Nat)) (ws : List Cond) (rm : Room) (mc ms n : Nat) : Prop :=
  (rm.cells = mc ∧ rm.slots = ms ∧ rm.frames + 1 ≤ R.frames ∧ 8 + (maxL + 11) + rm.locals ≤ R.locals ∧ (∀ w ∈ ws, ∀ (a' : Array Value) (U : State), s.WarmedH U.vm → w.before a' U = true) ∧ Cond.codeWith y bytes maxL ret hh ∈ ws) ∧
  (Cond.codeWith y bytes maxL ret hh).before args s = true ∧ (Cond.initialized y.cls).before args s = true ∧ (y.cls ≠ "java/lang/invoke/MethodHandle" ∧ y.cls ≠ "java/lang/invoke/VarHandle") ∧
  (∀ sig, parseMethodDescriptor y.desc = some sig → n = sig.parameters.length) ∧ (Cond.methodLink own index y).before args s = true ∧ (Cond.static y).before args s = true
theorem vx_cwSW {own : String} {index maxL mc ms : Nat} {y : MethodName} {bytes : ByteArray} {ret : Option FieldType} {hh : List (Nat × Nat × Nat × Nat)} {Ts ws ws' : List Cond} {rm : Room} (n : Nat) (ht : ∀ w ∈ Ts, w.before args s = true) (hT : GoodIn Ts (va_wsS own index y ws)) (hw : ws = Cond.codeWith y bytes maxL ret hh :: ws') (hrc : rm.cells = mc) (hrs : rm.slots = ms)
    (hd : y.cls ≠ "java/lang/invoke/MethodHandle" ∧ y.cls ≠ "java/lang/invoke/VarHandle" ∧ (parseMethodDescriptor y.desc).map (fun d => d.parameters.length) = some n) (hR : rm.frames + 1 ≤ R.frames ∧ 8 + (maxL + 11) + rm.locals ≤ R.locals) :
    vx_CSW R s args own index y bytes maxL ret hh ws rm mc ms n := by
  have ok : ∀ w ∈ va_wsS own index y ws, w.before args s = true := fun w h => ht w (hT w h).1
  have hG : GoodIn Ts ws := fun w h => hT w (by unfold va_wsS; exact List.mem_append_right _ h)
  have hc : Cond.codeWith y bytes maxL ret hh ∈ ws := by rw [hw]; exact List.mem_cons_self
  refine ⟨⟨hrc, hrs, hR.1, hR.2, pay_in ht hG, hc⟩, ht _ (hG _ hc).1, ok _ (by simp [va_wsS]), ⟨hd.1, hd.2.1⟩, fun sig h => ?_, ok _ (by simp [va_wsS]), ok _ (by simp [va_wsS])⟩
  have h2 := hd.2.2
  rw [h] at h2
  exact (Option.some.inj h2).symm
theorem vx_callSW (X : Stand p l e R s m args below meth c T locs cells slots) (hexec : p.tables.exec = Jvm.exec) {own : String} {index : Nat} {y : MethodName} {bytes : ByteArray} {maxL : Nat} {ret : Option FieldType} {hh : List (Nat × Nat × Nat × Nat)}
    (hown : s.vm.findClass own = some m.cls) (hlink : (Cond.methodLink own index y).before args s = true) (hstat : (Cond.static y).before args s = true) (hinit : (Cond.initialized y.cls).before args s = true)
    (hcode : (Cond.codeWith y bytes maxL ret hh).before args s = true) (hy : y.cls ≠ "java/lang/invoke/MethodHandle" ∧ y.cls ≠ "java/lang/invoke/VarHandle")
    {W9 : Nat} {Pre : Pt → Array Value → Prop} {Post : Pt → Array Value → Option Value → Pt → Prop} (hK : Back l R p e below s args y 3 W9 Pre Post)
    {g : JFrame} (hg : g.method = m) (hsize : g.locals.size = c.maxLocals) {argsL rest : List Value} (hlen : ∀ sig, parseMethodDescriptor y.desc = some sig → argsL.length = sig.parameters.length)
    (hstack : g.stack = argsL.reverse ++ rest) (hW : 2 * g.monitorRoom + (rest.map fun v => v.category).sum ≤ W9) (hdg : decode c.code g.pc = .ok (.invokestatic index, 3))
    (hpre : ∀ vm₁, s.WarmedH vm₁ → Pre ⟨T.setVm vm₁, locs, cells, slots⟩ argsL.toArray) :
    ∃ (v : Option Value) (vm₁ : Vm) (B : Pt), s.WarmedH vm₁ ∧ Stand p l e R s m args below meth c B.U B.locs B.cells B.slots ∧ Post ⟨T.setVm vm₁, locs, cells, slots⟩ argsL.toArray v B ∧
      ∀ target, Steps p.tables e below (B.U.setTop { g with pc := g.pc + 3, stack := v.toList ++ rest }) target → Steps p.tables e below (T.setTop g) target := by
  obtain ⟨mk, methM, cM, hnamed, hmethM, -, -, -, -, -, -, hsigM⟩ := Cond.codeWith_spec hcode
  have hstatic : methM.isStatic = true := Cond.static_spec hnamed hmethM hstat
  obtain ⟨kP, hkP, -⟩ := className_of_methodNamed hnamed
  have hinitP : kP.init = .initialized := Cond.initialized_spec (findClass_of_methodNamed hnamed) hkP hinit
  obtain ⟨vm₁, X₁, hstep₁⟩ := X.invokestatic hexec hown hlink hnamed hmethM hstatic hkP hinitP hy (g := g) hg (argsL := argsL) (rest := rest) (hlen _ hsigM) hstack hdg
  obtain ⟨v, B, X', hpost, hsteps⟩ := hK m meth c ⟨T.setVm vm₁, locs, cells, slots⟩ { g with stack := rest } (.invokestatic index) mk argsL.toArray X₁ hg hsize hdg hW (X₁.named hnamed) (hpre vm₁ X₁.warmed)
  exact ⟨v, vm₁, B, X₁.warmed, X', hpost, fun target h => hstep₁ _ fun acts => by rw [doInvoke_state]; exact hsteps.trans h⟩
theorem vx_runSW {y : MethodName} {bytes cc : ByteArray} {maxL nL mc ms n index : Nat} {ret : Option FieldType} {hh : List (Nat × Nat × Nat × Nat)} {ws : List Cond} {rm : Room} {Pc : Array Value → State → Prop} {Qc : Array Value → State → Outcome → State → Prop} {free : Addr → Prop} {Ts : List Cond} {own : String} {As rest : List Value} {g : JFrame}
    (S : CallFix p m c cc nL s args Ts own) (hM : Met l y ws rm Pc Qc mc ms free) (cw : vx_CSW R s args own index y bytes maxL ret hh ws rm mc ms n) (hp : PreS s H Pc As)
    (hg : g.method = m) (hn : As.length = n) (hsize : g.locals.size = nL) (hstack : g.stack = As.reverse ++ rest) (hW : 2 * g.monitorRoom + (rest.map fun v => v.category).sum ≤ 8) (hdg : decode cc g.pc = .ok (.invokestatic index, 3)) (hf : cells + mc ≤ R.cells ∧ slots + ms ≤ R.slots) :
    va_Run p l e R s m args below meth c H locs cells slots mc ms g rest (Qc As.toArray) (free) := by
  obtain ⟨⟨hrc, hrs, hfr, hlo, hws, hcw⟩, hcode, hini, hy, hlen, hl, hstt⟩ := cw
  have hK : Back l R p e below s args y 3 8 (PreOf R mc ms Pc) (PostOf Qc mc ms free) := va_backW (hh := hh) (bytes := bytes) (maxL := maxL) (ret := ret) hM hp.1 hrc hrs hfr hlo hws hcw (fun a' U hW => word_at hW (Or.inl (by first | rfl | simp [Cond.onTables, Cond.keeps, Cond.steady])) hini)
  obtain ⟨hx, hb, hml, ho, -⟩ := S
  intro T hT X
  obtain ⟨v, vm₁, ⟨U', l2, c2, s2⟩, hW₁, X', ⟨g', mk, t, L, e1, e2, hq, h1, hL, h2, h3⟩, st⟩ := vx_callSW X hx (hh := hh) (bytes := bytes) (maxL := maxL) (ret := ret) ho hl hstt hini hcode hy hK hg (hsize.trans hml.symm) (argsL := As) (rest := rest) (fun sig h => hn.trans (hlen sig h)) hstack hW (by rw [hb]; exact hdg)
    (fun vm₁ hW₁ => ⟨hf.1, hf.2, hp.2 (T.setVm vm₁) hT hW₁⟩)
  dsimp only [Pt.U, Pt.locs, Pt.cells, Pt.slots] at X' e1 e2 h1 h2 h3 st
  subst h1; subst h2; subst h3
  exact ⟨v, (T.setVm vm₁).calling g' mk As.toArray, t, U', L, hT, X', hL, e1, e2, hq, st⟩
/-- not caught here, past rows that name other classes: it goes on to the caller -/
theorem vx_outP {p : Program} {l : Launch} {e : Env} {R : Room} {s : State} {m : MethodId} {args : Array Value} {below : List Frame} {meth : Method} {c : Code} {H : Heap} {locs : List Loc} {cells slots : Nat} {free : Addr → Prop} {ls : Array Slot} {rest : List Value} {Qc : Array Value → State → Outcome → State → Prop} {XC : String → State → State → Prop}
    {pc : Nat} {own E : String} {ce : Cell} {q : Addr} {mc ms : Nat} (hown : s.vm.findClass own = some m.cls) (hlocks : meth.locks = false)
    (hpass : ∀ z ∈ c.exceptionTable.toList, covers z pc = false ∨ (z.catchType ≠ 0 ∧ ∃ nm : String, (Cond.classLink own z.catchType nm).before args s = true ∧ va_Nc E nm s)) (hcell : H[q]? = some ce) (hv : ce.vm = .none) (hcl : s.vm.findClass E = some ce.cls)
    (hx : ∀ t : State, t.heap = H → s.vm.Alike t.vm → XC E s t) (hf : ∀ z ∈ locs, free z.base) (hc : cells ≤ mc) (hs : slots ≤ ms) :
    vx_W p l e R s m args below meth c H locs cells slots (vx_MQ below Qc XC args s mc ms free) (F0 m pc ls rest) q := by
  intro T hT X
  have hpl : e.platform.magicAccessors = ({} : Platform).magicAccessors := by rw [X.admits.platform]
  obtain ⟨vm', hW', X', st⟩ := X.outThrough hlocks q (g := F0 m pc ls rest) rfl rfl rfl (cell := ce) (by rw [hT]; exact hcell) (by rw [hv]; rfl)
    (by obtain ⟨k9, h9, -⟩ := Vm.findClass_spec hcl; exact ⟨k9, h9⟩) (fun z hz => by
      rcases hpass z hz with h | ⟨hz0, nm, hl1, hn1⟩
      · exact Or.inl h
      · obtain ⟨c6, hc6, hcl6⟩ := Cond.classLink_spec hown hl1 e.platform hpl
        obtain ⟨a8, b8, h1, h2, h3⟩ := hn1
        cases Option.some.inj (h1.symm.trans hcl)
        cases Option.some.inj (h2.symm.trans hc6)
        exact Or.inr ⟨hz0, _, hcl6, h3⟩)
  obtain ⟨g₀, hfr⟩ := X'.frames_eq
  have hcell9 : ((T.setVm vm').setFrames (.throwing q :: below)).heap[q]? = some ce := by
    show T.heap[q]? = some ce
    rw [hT]; exact hcell
  have hend : Ended ((T.setVm vm').setFrames (.throwing q :: below)) below (.threw q) := State.frames_setFrames _ (State.cur_lt_of_frames hfr)
  refine ⟨(T.setVm vm').setFrames (.throwing q :: below), ?_, .threw q, X'.here.running, hend, Or.inr ⟨q, rfl, E, ce, locs, hx _ hT (X'.ends _).1.alike, hcell9, hv, hcl, (X'.ends _).1, (X'.ends _).2.mono hc hs, hf⟩⟩
  rw [X.pushThrowing_eq]
  exact st
/-- a thing of a world lies in the heap -/
theorem vx_lt {D : va_G} {cl : List vw_C} {ws : va_W} {H1 : Heap} (h : va_P D cl ws H1) {k : Nat} {q : Nat × va_E} (hk : ws[k]? = some q) : q.1 < H1.size := (h k q hk).lt
end VXS
/-! ===== END ===== -/
/-! ===== BEGIN methods with a table of their own: called by a name, returning or throwing ===== -/
section VXH
/-! vx_backW, vx_callVX, vx_callSX, vx_callVW, vx_runVW, vx_runVX, vx_runSX, vx_ofWH follow the same proofs as their sisters above (Free/Laws.lean, Shelf42/LK1.lean); vx_outP calls Shelf42/NT130.lean (outThrough). -/
section
variable {l : Launch} {R : Room} {p : Program} {e : Env} {below : List Frame} {s : State} {sargs : Array Value} {y : MethodName} {len W9 : Nat}
theorem vx_backW {ws : List Cond} {rm : Room} {Pc : Array Value → State → Prop} {Qc : Array Value → State → Outcome → State → Prop} {XC : String → State → State → Prop} {mc ms : Nat} {free : Addr → Prop} {bytes : ByteArray} {maxL : Nat} {ret : Option FieldType} {hh : List (Nat × Nat × Nat × Nat)}
    (hM : vx_Met l y ws rm Pc Qc XC mc ms free) (hblind : FrameBlind Pc) (hrc : rm.cells = mc) (hrs : rm.slots = ms)
    (hframes : rm.frames + 1 ≤ R.frames) (hlocals : W9 + (maxL + 11) + rm.locals ≤ R.locals)
    (hws : ∀ w ∈ ws, ∀ a' U, s.WarmedH U.vm → w.before a' U = true) (hcode : Cond.codeWith y bytes maxL ret hh ∈ ws) (hinit : ∀ a' U, s.WarmedH U.vm → (Cond.initialized y.cls).before a' U = true) :
    vx_Back l R p e below s sargs y len W9 (PreOf R mc ms Pc) (PostOf Qc mc ms free) (vx_Post XC mc ms free) := by
  intro m meth c A g ig mk a X hg hsize hdg hW hn hp
  have h1 : (headSpec ws rm).pre.before a A.U = true := atoms_intro fun w hw => hws w hw _ _ X.warmed
  have h2 : (Cond.codeWith y bytes maxL ret hh).before a A.U = true := hws _ hcode _ _ X.warmed
  have h3 : (Cond.initialized y.cls).before a A.U = true := hinit _ _ X.warmed
  have h4 : A.cells + (headSpec ws rm).room.cells ≤ R.cells := by rw [show (headSpec ws rm).room.cells = mc from hrc]; exact hp.1
  have h5 : A.slots + (headSpec ws rm).room.slots ≤ R.slots := by rw [show (headSpec ws rm).room.slots = ms from hrs]; exact hp.2.1
  have hPc : Pc a (A.U.calling g mk a) := hblind _ _ _ _ hp.2.2
  obtain ⟨U, Ls, c0, s0⟩ := A
  dsimp only [Pt.U, Pt.locs, Pt.cells, Pt.slots] at h1 h2 h3 h4 h5 X hn hPc ⊢
  obtain ⟨m9, methY, cY, hn9, hmY, hcY, -, hlY, -⟩ := Cond.codeWith_spec h2
  cases Option.some.inj (hn9.symm.trans hn)
  obtain ⟨kY, hkY, -⟩ := className_of_methodNamed hn
  have hinitY : kY.init = .initialized := Cond.initialized_spec (findClass_of_methodNamed hn) hkY h3
  have h : At U g.method c below := by rw [hg]; exact X.here
  have hlocals9 : W9 + (maxL + 11) + (headSpec ws rm).room.locals ≤ R.locals := hlocals
  have happ : (headSpec ws rm).appliesLoose y e.platform (U.calling g mk a) = true :=
    Spec.appliesLoose_calling (g := g) h hdg hn hkY hinitY
      (X.room_calling (g := g) (R' := (headSpec ws rm).room) hsize hmY hcY hframes (by rw [hlY]; omega) h4 h5) h1
  obtain ⟨mid, hmid⟩ := h.above
  have hfr : (U.setTop g).frames = (.java g :: mid) ++ below := by rw [State.frames_setTop' g h.top, hmid]; rfl
  obtain ⟨o, s₂, hsteps, -, hend, hq⟩ := Steps.callFree hM p X.admits X.cas X.clock (acts := []) hfr happ hPc trivial
  have hq' : vx_Q Qc XC mc ms free a (U.calling g mk a) o s₂ := hq
  rw [State.frames_setTop' g h.top] at hend
  obtain ⟨g₀, hg0⟩ := Option.isSome_iff_exists.mp h.top
  obtain ⟨r, hr⟩ := State.topJava?_eq_some.mp hg0
  have hr' : (({ U with heap := s₂.heap, slotsUsed := s₂.slotsUsed } : State).setVm s₂.vm).frames = .java g₀ :: r := hr
  rcases hq' with ⟨hqc, L, hfe, hL⟩ | ⟨q, rfl, E, ce, L, hx, hce, hcv, hcl, hW₂, hsm, hL⟩
  · obtain ⟨⟨v, rfl⟩, hW₂, e2, q2, q3, q4, q5, q6⟩ := id hfe
    have e3 : s₂ = ({ (U.calling g mk a).setFrames s₂.frames with heap := s₂.heap, slotsUsed := s₂.slotsUsed } : State).setVm s₂.vm := by
      have : s₂ = ({ s₂ with vm := (U.calling g mk a).vm } : State).setVm s₂.vm := rfl
      rw [e2] at this
      exact this
    obtain ⟨c₂, i₂, len₂, hc₂, hd₂, hf₂⟩ := hend
    have hW' : U.WarmedH s₂.vm := hW₂
    have hcc : c₂ = c := by
      have h1 : s₂.code? g.method = U.code? g.method := by
        rw [State.code?_eq, State.code?_eq, hW'.alike.method?]
      exact Option.some.inj (hc₂.symm.trans (h1.trans h.code))
    subst hcc
    have hlen : len₂ = len := by rw [hdg] at hd₂; cases hd₂; rfl
    subst hlen
    have hs₂ : s₂ = (({ U with heap := s₂.heap, slotsUsed := s₂.slotsUsed } : State).setVm s₂.vm).setTop { g with pc := g.pc + len₂, stack := v.toList ++ g.stack } := by
      refine e3.trans ?_
      rw [hf₂, State.calling_eq h.top, State.setFrames_setFrames, State.setTop_of_frames _ hr', hr]
      rfl
    have hsame : U.sameButNew ({ U with heap := s₂.heap, slotsUsed := s₂.slotsUsed } : State) L mc ms := by
      refine ⟨?_, q2, q3, q4, q5, q6⟩
      obtain ⟨t, ht, -⟩ := State.frames_cons hr
      show ({ U with heap := s₂.heap, slotsUsed := s₂.slotsUsed } : State) = { U.setFrames U.frames with heap := s₂.heap, slotsUsed := s₂.slotsUsed }
      rw [State.setFrames_self ht]
    subst hg
    refine Or.inl ⟨v, ⟨(({ U with heap := s₂.heap, slotsUsed := s₂.slotsUsed } : State).setVm s₂.vm), Ls ++ L, c0 + mc, s0 + ms⟩,
      ⟨X.admits, X.cas, X.clock, X.frames, X.room, X.hears, X.method, X.code, (X.here.setHeapUsed s₂.heap s₂.slotsUsed).setVm hW'.alike, X.tail, State.WarmedH.trans X.warmed hW', X.limits, X.bytes, X.same.trans (hsame.setVm s.vm)⟩,
      ⟨g, mk, s₂, L, rfl, rfl, hqc, rfl, hL, rfl, rfl⟩, ?_⟩
    show Steps p.tables e below _ ((({ U with heap := s₂.heap, slotsUsed := s₂.slotsUsed } : State).setVm s₂.vm).setTop { g with pc := g.pc + len₂, stack := v.toList ++ g.stack })
    rw [← hs₂]
    exact hsteps
  · obtain ⟨e2, q2, q3, q4, q5, q6⟩ := id hsm
    have e3 : s₂ = ({ (U.calling g mk a).setFrames s₂.frames with heap := s₂.heap, slotsUsed := s₂.slotsUsed } : State).setVm s₂.vm := by
      have : s₂ = ({ s₂ with vm := (U.calling g mk a).vm } : State).setVm s₂.vm := rfl
      rw [e2] at this
      exact this
    have hf₂ : s₂.frames = .throwing q :: .java g :: U.frames.tail := hend
    have hW' : U.WarmedH s₂.vm := hW₂
    have hs₂ : s₂ = ((({ U with heap := s₂.heap, slotsUsed := s₂.slotsUsed } : State).setVm s₂.vm).setTop g).pushFrame (.throwing q) := by
      refine e3.trans ?_
      rw [hf₂, State.calling_eq h.top, State.setFrames_setFrames, State.pushFrame, State.frames_setTop _ hr', State.setTop_of_frames _ hr', State.setFrames_setFrames, hr]
      rfl
    have hsame : U.sameButNew ({ U with heap := s₂.heap, slotsUsed := s₂.slotsUsed } : State) L mc ms := by
      refine ⟨?_, q2, q3, q4, q5, q6⟩
      obtain ⟨t, ht, -⟩ := State.frames_cons hr
      show ({ U with heap := s₂.heap, slotsUsed := s₂.slotsUsed } : State) = { U.setFrames U.frames with heap := s₂.heap, slotsUsed := s₂.slotsUsed }
      rw [State.setFrames_self ht]
    subst hg
    refine Or.inr ⟨q, ⟨(({ U with heap := s₂.heap, slotsUsed := s₂.slotsUsed } : State).setVm s₂.vm), Ls ++ L, c0 + mc, s0 + ms⟩,
      ⟨X.admits, X.cas, X.clock, X.frames, X.room, X.hears, X.method, X.code, (X.here.setHeapUsed s₂.heap s₂.slotsUsed).setVm hW'.alike, X.tail, State.WarmedH.trans X.warmed hW', X.limits, X.bytes, X.same.trans (hsame.setVm s.vm)⟩,
      ⟨g, mk, s₂, L, E, ce, rfl, rfl, hx, hce, hcv, hcl, rfl, hL, rfl, rfl⟩, ?_⟩
    show Steps p.tables e below _ (((({ U with heap := s₂.heap, slotsUsed := s₂.slotsUsed } : State).setVm s₂.vm).setTop g).pushFrame (.throwing q))
    rw [← hs₂]
    exact hsteps
end
variable {p : Program} {l : Launch} {e : Env} {R : Room} {s : State} {m : MethodId} {args : Array Value} {below : List Frame} {meth : Method} {c : Code} {T : State} {H : Heap} {locs : List Loc} {cells slots : Nat}
theorem vx_callVX (X : Stand p l e R s m args below meth c T locs cells slots) (hexec : p.tables.exec = Jvm.exec) {own C : String} {index : Nat} {y : MethodName} {bytes : ByteArray} {maxL : Nat} {ret : Option FieldType} {hh : List (Nat × Nat × Nat × Nat)}
    (hown : s.vm.findClass own = some m.cls) (hlink : (Cond.methodLink own index y).before args s = true) (hinst : (Cond.instanceMethod y).before args s = true) (hsel : (Cond.selects C y y).before args s = true)
    (hcode : (Cond.codeWith y bytes maxL ret hh).before args s = true) (hy : y.cls ≠ "java/lang/invoke/MethodHandle" ∧ y.cls ≠ "java/lang/invoke/VarHandle")
    {W9 : Nat} {Pre : Pt → Array Value → Prop} {Post : Pt → Array Value → Option Value → Pt → Prop} {PostX : Pt → Array Value → Addr → Pt → Prop} (hK : vx_Back l R p e below s args y 3 W9 Pre Post PostX)
    {b : Addr} {cellB : Cell} (hcell : T.heap[b]? = some cellB) (hobj : cellB.vm.isStatics = false) (hcls : s.vm.findClass C = some cellB.cls)
    {g : JFrame} (hg : g.method = m) (hsize : g.locals.size = c.maxLocals) {argsL rest : List Value} (hlen : ∀ sig, parseMethodDescriptor y.desc = some sig → argsL.length = sig.parameters.length)
    (hstack : g.stack = argsL.reverse ++ .ref b :: rest) (hW : 2 * g.monitorRoom + (rest.map fun v => v.category).sum ≤ W9) (hdg : decode c.code g.pc = .ok (.invokevirtual index, 3))
    (hpre : ∀ vm₁, s.WarmedH vm₁ → Pre ⟨T.setVm vm₁, locs, cells, slots⟩ (Value.ref b :: argsL).toArray) :
    (∃ (v : Option Value) (vm₁ : Vm) (B : Pt), s.WarmedH vm₁ ∧ Stand p l e R s m args below meth c B.U B.locs B.cells B.slots ∧ Post ⟨T.setVm vm₁, locs, cells, slots⟩ (Value.ref b :: argsL).toArray v B ∧
      ∀ target, Steps p.tables e below (B.U.setTop { g with pc := g.pc + 3, stack := v.toList ++ rest }) target → Steps p.tables e below (T.setTop g) target) ∨
    (∃ (q : Addr) (vm₁ : Vm) (B : Pt), s.WarmedH vm₁ ∧ Stand p l e R s m args below meth c B.U B.locs B.cells B.slots ∧ PostX ⟨T.setVm vm₁, locs, cells, slots⟩ (Value.ref b :: argsL).toArray q B ∧
      Steps p.tables e below (T.setTop g) ((B.U.setTop { g with stack := rest }).pushFrame (.throwing q))) := by
  obtain ⟨mk, methM, hnamed, hmethM, hstM, habM⟩ := Cond.instanceMethod_spec hinst
  obtain ⟨m8, methM', cM, hn8, hmethM', -, -, -, -, -, -, hsigM⟩ := Cond.codeWith_spec hcode
  cases Option.some.inj (hn8.symm.trans hnamed)
  cases hmethM.symm.trans hmethM'
  obtain ⟨c2, r2, m2, q1, q2, q3, q4, kP, hkP, hkPi⟩ := Cond.selects_spec hsel
  cases hcls.symm.trans q1
  cases (State.methodFound?_of_named hnamed hy).symm.trans q2
  cases hnamed.symm.trans q3
  have hselP : selectMethod e.platform s.vm cellB.cls mk = .method mk := by rw [Launch.admits_selectMethod X.admits]; exact q4
  obtain ⟨vm₁, X₁, hstep₁⟩ := X.invokevirtual hexec hown hlink hnamed hmethM hstM hkP hkPi hy (a := b) (cell := cellB) hcell
    (fun z h => by rw [h] at hobj; cases hobj) hselP hmethM habM hkP hkPi (g := g) hg (argsL := argsL) (rest := rest) (hlen _ hsigM) hstack hdg
  rcases hK m meth c ⟨T.setVm vm₁, locs, cells, slots⟩ { g with stack := rest } (.invokevirtual index) mk (Value.ref b :: argsL).toArray X₁ hg hsize hdg hW (X₁.named hnamed) (hpre vm₁ X₁.warmed) with ⟨v, B, X', hpost, hsteps⟩ | ⟨q, B, X', hpost, hsteps⟩
  · exact Or.inl ⟨v, vm₁, B, X₁.warmed, X', hpost, fun target h => hstep₁ _ fun acts => by rw [doInvoke_state]; exact hsteps.trans h⟩
  · exact Or.inr ⟨q, vm₁, B, X₁.warmed, X', hpost, hstep₁ _ fun acts => by rw [doInvoke_state]; exact hsteps⟩
theorem vx_callSX (X : Stand p l e R s m args below meth c T locs cells slots) (hexec : p.tables.exec = Jvm.exec) {own : String} {index : Nat} {y : MethodName} {bytes : ByteArray} {maxL : Nat} {ret : Option FieldType} {hh : List (Nat × Nat × Nat × Nat)}
    (hown : s.vm.findClass own = some m.cls) (hlink : (Cond.methodLink own index y).before args s = true) (hstat : (Cond.static y).before args s = true) (hinit : (Cond.initialized y.cls).before args s = true)
    (hcode : (Cond.codeWith y bytes maxL ret hh).before args s = true) (hy : y.cls ≠ "java/lang/invoke/MethodHandle" ∧ y.cls ≠ "java/lang/invoke/VarHandle")
    {W9 : Nat} {Pre : Pt → Array Value → Prop} {Post : Pt → Array Value → Option Value → Pt → Prop} {PostX : Pt → Array Value → Addr → Pt → Prop} (hK : vx_Back l R p e below s args y 3 W9 Pre Post PostX)
    {g : JFrame} (hg : g.method = m) (hsize : g.locals.size = c.maxLocals) {argsL rest : List Value} (hlen : ∀ sig, parseMethodDescriptor y.desc = some sig → argsL.length = sig.parameters.length)
    (hstack : g.stack = argsL.reverse ++ rest) (hW : 2 * g.monitorRoom + (rest.map fun v => v.category).sum ≤ W9) (hdg : decode c.code g.pc = .ok (.invokestatic index, 3))
    (hpre : ∀ vm₁, s.WarmedH vm₁ → Pre ⟨T.setVm vm₁, locs, cells, slots⟩ argsL.toArray) :
    (∃ (v : Option Value) (vm₁ : Vm) (B : Pt), s.WarmedH vm₁ ∧ Stand p l e R s m args below meth c B.U B.locs B.cells B.slots ∧ Post ⟨T.setVm vm₁, locs, cells, slots⟩ argsL.toArray v B ∧
      ∀ target, Steps p.tables e below (B.U.setTop { g with pc := g.pc + 3, stack := v.toList ++ rest }) target → Steps p.tables e below (T.setTop g) target) ∨
    (∃ (q : Addr) (vm₁ : Vm) (B : Pt), s.WarmedH vm₁ ∧ Stand p l e R s m args below meth c B.U B.locs B.cells B.slots ∧ PostX ⟨T.setVm vm₁, locs, cells, slots⟩ argsL.toArray q B ∧
      Steps p.tables e below (T.setTop g) ((B.U.setTop { g with stack := rest }).pushFrame (.throwing q))) := by
  obtain ⟨mk, methM, cM, hnamed, hmethM, -, -, -, -, -, -, hsigM⟩ := Cond.codeWith_spec hcode
  have hstatic : methM.isStatic = true := Cond.static_spec hnamed hmethM hstat
  obtain ⟨kP, hkP, -⟩ := className_of_methodNamed hnamed
  have hinitP : kP.init = .initialized := Cond.initialized_spec (findClass_of_methodNamed hnamed) hkP hinit
  obtain ⟨vm₁, X₁, hstep₁⟩ := X.invokestatic hexec hown hlink hnamed hmethM hstatic hkP hinitP hy (g := g) hg (argsL := argsL) (rest := rest) (hlen _ hsigM) hstack hdg
  rcases hK m meth c ⟨T.setVm vm₁, locs, cells, slots⟩ { g with stack := rest } (.invokestatic index) mk argsL.toArray X₁ hg hsize hdg hW (X₁.named hnamed) (hpre vm₁ X₁.warmed) with ⟨v, B, X', hpost, hsteps⟩ | ⟨q, B, X', hpost, hsteps⟩
  · exact Or.inl ⟨v, vm₁, B, X₁.warmed, X', hpost, fun target h => hstep₁ _ fun acts => by rw [doInvoke_state]; exact hsteps.trans h⟩
  · exact Or.inr ⟨q, vm₁, B, X₁.warmed, X', hpost, hstep₁ _ fun acts => by rw [doInvoke_state]; exact hsteps⟩
theorem vx_callVW (X : Stand p l e R s m args below meth c T locs cells slots) (hexec : p.tables.exec = Jvm.exec) {own C : String} {index : Nat} {y : MethodName} {bytes : ByteArray} {maxL : Nat} {ret : Option FieldType} {hh : List (Nat × Nat × Nat × Nat)}
    (hown : s.vm.findClass own = some m.cls) (hlink : (Cond.methodLink own index y).before args s = true) (hinst : (Cond.instanceMethod y).before args s = true) (hsel : (Cond.selects C y y).before args s = true)
    (hcode : (Cond.codeWith y bytes maxL ret hh).before args s = true) (hy : y.cls ≠ "java/lang/invoke/MethodHandle" ∧ y.cls ≠ "java/lang/invoke/VarHandle")
    {W9 : Nat} {Pre : Pt → Array Value → Prop} {Post : Pt → Array Value → Option Value → Pt → Prop} (hK : Back l R p e below s args y 3 W9 Pre Post)
    {b : Addr} {cellB : Cell} (hcell : T.heap[b]? = some cellB) (hobj : cellB.vm.isStatics = false) (hcls : s.vm.findClass C = some cellB.cls)
    {g : JFrame} (hg : g.method = m) (hsize : g.locals.size = c.maxLocals) {argsL rest : List Value} (hlen : ∀ sig, parseMethodDescriptor y.desc = some sig → argsL.length = sig.parameters.length)
    (hstack : g.stack = argsL.reverse ++ .ref b :: rest) (hW : 2 * g.monitorRoom + (rest.map fun v => v.category).sum ≤ W9) (hdg : decode c.code g.pc = .ok (.invokevirtual index, 3))
    (hpre : ∀ vm₁, s.WarmedH vm₁ → Pre ⟨T.setVm vm₁, locs, cells, slots⟩ (Value.ref b :: argsL).toArray) :
    ∃ (v : Option Value) (vm₁ : Vm) (B : Pt), s.WarmedH vm₁ ∧ Stand p l e R s m args below meth c B.U B.locs B.cells B.slots ∧ Post ⟨T.setVm vm₁, locs, cells, slots⟩ (Value.ref b :: argsL).toArray v B ∧
      ∀ target, Steps p.tables e below (B.U.setTop { g with pc := g.pc + 3, stack := v.toList ++ rest }) target → Steps p.tables e below (T.setTop g) target := by
  obtain ⟨mk, methM, hnamed, hmethM, hstM, habM⟩ := Cond.instanceMethod_spec hinst
  obtain ⟨m8, methM', cM, hn8, hmethM', -, -, -, -, -, -, hsigM⟩ := Cond.codeWith_spec hcode
  cases Option.some.inj (hn8.symm.trans hnamed)
  cases hmethM.symm.trans hmethM'
  obtain ⟨c2, r2, m2, q1, q2, q3, q4, kP, hkP, hkPi⟩ := Cond.selects_spec hsel
  cases hcls.symm.trans q1
  cases (State.methodFound?_of_named hnamed hy).symm.trans q2
  cases hnamed.symm.trans q3
  have hselP : selectMethod e.platform s.vm cellB.cls mk = .method mk := by rw [Launch.admits_selectMethod X.admits]; exact q4
  obtain ⟨vm₁, X₁, hstep₁⟩ := X.invokevirtual hexec hown hlink hnamed hmethM hstM hkP hkPi hy (a := b) (cell := cellB) hcell
    (fun z h => by rw [h] at hobj; cases hobj) hselP hmethM habM hkP hkPi (g := g) hg (argsL := argsL) (rest := rest) (hlen _ hsigM) hstack hdg
  obtain ⟨v, B, X', hpost, hsteps⟩ := hK m meth c ⟨T.setVm vm₁, locs, cells, slots⟩ { g with stack := rest } (.invokevirtual index) mk (Value.ref b :: argsL).toArray X₁ hg hsize hdg hW (X₁.named hnamed) (hpre vm₁ X₁.warmed)
  exact ⟨v, vm₁, B, X₁.warmed, X', hpost, fun target h => hstep₁ _ fun acts => by rw [doInvoke_state]; exact hsteps.trans h⟩
abbrev vx_CVW (R : Room) (s : State) (args : Array Value) (own C : String) (index : Nat) (y : MethodName) (bytes : ByteArray) (maxL : Nat) (ret : Option FieldType) (hh : List (Nat × Nat × Nat × Nat)) (ws : List Cond) (rm : Room) (mc ms n : Nat) : Prop :=
  (rm.cells = mc ∧ rm.slots = ms ∧ rm.frames + 1 ≤ R.frames ∧ 8 + (maxL + 11) + rm.locals ≤ R.locals ∧ (∀ w ∈ ws, ∀ (a' : Array Value) (U : State), s.WarmedH U.vm → w.before a' U = true) ∧ Cond.codeWith y bytes maxL ret hh ∈ ws) ∧
  (Cond.codeWith y bytes maxL ret hh).before args s = true ∧ (Cond.initialized y.cls).before args s = true ∧ (y.cls ≠ "java/lang/invoke/MethodHandle" ∧ y.cls ≠ "java/lang/invoke/VarHandle") ∧
  (∀ sig, parseMethodDescriptor y.desc = some sig → n = sig.parameters.length) ∧ (Cond.methodLink own index y).before args s = true ∧ (Cond.instanceMethod y).before args s = true ∧ (Cond.selects C y y).before args s = true
theorem vx_cwVW {own C : String} {index maxL mc ms : Nat} {y : MethodName} {bytes : ByteArray} {ret : Option FieldType} {hh : List (Nat × Nat × Nat × Nat)} {Ts ws ws' : List Cond} {rm : Room} (n : Nat) (ht : ∀ w ∈ Ts, w.before args s = true) (hT : GoodIn Ts (wsV own index C y ws)) (hw : ws = Cond.codeWith y bytes maxL ret hh :: ws') (hrc : rm.cells = mc) (hrs : rm.slots = ms)
    (hd : y.cls = C ∧ y.cls ≠ "java/lang/invoke/MethodHandle" ∧ y.cls ≠ "java/lang/invoke/VarHandle" ∧ (parseMethodDescriptor y.desc).map (fun d => d.parameters.length) = some n) (hR : rm.frames + 1 ≤ R.frames ∧ 8 + (maxL + 11) + rm.locals ≤ R.locals) :
    vx_CVW R s args own C index y bytes maxL ret hh ws rm mc ms n := by
  obtain ⟨hC, hd⟩ := hd
  subst hC
  have ok : ∀ w ∈ wsV own index y.cls y ws, w.before args s = true := fun w h => ht w (hT w h).1
  have hG : GoodIn Ts ws := fun w h => hT w (by unfold wsV; exact List.mem_append_right _ h)
  have hc : Cond.codeWith y bytes maxL ret hh ∈ ws := by rw [hw]; exact List.mem_cons_self
  refine ⟨⟨hrc, hrs, hR.1, hR.2, pay_in ht hG, hc⟩, ht _ (hG _ hc).1, ok _ (by simp [wsV]), ⟨hd.1, hd.2.1⟩, fun sig h => ?_, ok _ (by simp [wsV]), ok _ (by simp [wsV]), ok _ (by simp [wsV])⟩
  have h2 := hd.2.2
  rw [h] at h2
  exact (Option.some.inj h2).symm
theorem vx_runVW {y : MethodName} {bytes cc : ByteArray} {maxL nL mc ms n index : Nat} {ret : Option FieldType} {hh : List (Nat × Nat × Nat × Nat)} {ws : List Cond} {rm : Room} {Pc : Array Value → State → Prop} {Qc : Array Value → State → Outcome → State → Prop} {free : Addr → Prop} {Ts : List Cond} {own C : String} {b : Addr} {As rest : List Value} {g : JFrame}
    (S : CallFix p m c cc nL s args Ts own) (hM : Met l y ws rm Pc Qc mc ms free) (cw : vx_CVW R s args own C index y bytes maxL ret hh ws rm mc ms n) (hp : PreV s H C b Pc As)
    (hg : g.method = m) (hn : As.length = n) (hsize : g.locals.size = nL) (hstack : g.stack = As.reverse ++ .ref b :: rest) (hW : 2 * g.monitorRoom + (rest.map fun v => v.category).sum ≤ 8) (hdg : decode cc g.pc = .ok (.invokevirtual index, 3)) (hf : cells + mc ≤ R.cells ∧ slots + ms ≤ R.slots) :
    va_Run p l e R s m args below meth c H locs cells slots mc ms g rest (Qc (Value.ref b :: As).toArray) free := by
  obtain ⟨⟨hrc, hrs, hfr, hlo, hws, hcw⟩, hcode, hini, hy, hlen, hl, hin, hse⟩ := cw
  have hK : Back l R p e below s args y 3 8 (PreOf R mc ms Pc) (PostOf Qc mc ms free) := va_backW (hh := hh) (bytes := bytes) (maxL := maxL) (ret := ret) hM hp.1 hrc hrs hfr hlo hws hcw (fun a' U hW => word_at hW (Or.inl (by first | rfl | simp [Cond.onTables, Cond.keeps, Cond.steady])) hini)
  obtain ⟨hx, hb, hml, ho, -⟩ := S
  obtain ⟨-, ⟨cellB, hcB, hoB, hclB⟩, hPc⟩ := hp
  intro T hT X
  obtain ⟨v, vm₁, ⟨U', l2, c2, s2⟩, hW₁, X', ⟨g', mk, t, L, e1, e2, hq, h1, hL, h2, h3⟩, st⟩ := vx_callVW X hx (C := C) (hh := hh) (bytes := bytes) (maxL := maxL) (ret := ret) ho hl hin hse hcode hy hK (by rw [hT]; exact hcB) hoB hclB hg (hsize.trans hml.symm) (argsL := As) (rest := rest) (fun sig h => hn.trans (hlen sig h)) hstack hW (by rw [hb]; exact hdg)
    (fun vm₁ hW₁ => ⟨hf.1, hf.2, hPc (T.setVm vm₁) hT hW₁⟩)
  dsimp only [Pt.U, Pt.locs, Pt.cells, Pt.slots] at X' e1 e2 h1 h2 h3 st
  subst h1; subst h2; subst h3
  exact ⟨v, (T.setVm vm₁).calling g' mk (Value.ref b :: As).toArray, t, U', L, hT, X', hL, e1, e2, hq, st⟩
section
variable {y : MethodName} {bytes cc : ByteArray} {maxL nL mc ms n index : Nat} {ret : Option FieldType} {ws : List Cond} {rm : Room} {Pc : Array Value → State → Prop} {Qc : Array Value → State → Outcome → State → Prop} {XC : String → State → State → Prop} {free : Addr → Prop} {Ts : List Cond} {own C : String} {b : Addr} {As rest : List Value} {g : JFrame}
theorem vx_runVX {hh : List (Nat × Nat × Nat × Nat)} (S : CallFix p m c cc nL s args Ts own) (hM : vx_Met l y ws rm Pc Qc XC mc ms free) (cw : vx_CVW R s args own C index y bytes maxL ret hh ws rm mc ms n) (hp : PreV s H C b Pc As)
    (hg : g.method = m) (hn : As.length = n) (hsize : g.locals.size = nL) (hstack : g.stack = As.reverse ++ .ref b :: rest) (hW : 2 * g.monitorRoom + (rest.map fun v => v.category).sum ≤ 8) (hdg : decode cc g.pc = .ok (.invokevirtual index, 3)) (hf : cells + mc ≤ R.cells ∧ slots + ms ≤ R.slots) :
    vx_Run p l e R s m args below meth c H locs cells slots mc ms g rest (Qc (Value.ref b :: As).toArray) XC free := by
  obtain ⟨⟨hrc, hrs, hfr, hlo, hws, hcw⟩, hcode, hini, hy, hlen, hl, hin, hse⟩ := cw
  have hK : vx_Back l R p e below s args y 3 8 (PreOf R mc ms Pc) (PostOf Qc mc ms free) (vx_Post XC mc ms free) := vx_backW (hh := hh) (bytes := bytes) (maxL := maxL) (ret := ret) hM hp.1 hrc hrs hfr hlo hws hcw (fun a' U hW => word_at hW (Or.inl (by first | rfl | simp [Cond.onTables, Cond.keeps, Cond.steady])) hini)
  obtain ⟨hx, hb, hml, ho, -⟩ := S
  obtain ⟨-, ⟨cellB, hcB, hoB, hclB⟩, hPc⟩ := hp
  intro T hT X
  rcases vx_callVX X hx (C := C) (hh := hh) (bytes := bytes) (maxL := maxL) (ret := ret) ho hl hin hse hcode hy hK (by rw [hT]; exact hcB) hoB hclB hg (hsize.trans hml.symm) (argsL := As) (rest := rest) (fun sig h => hn.trans (hlen sig h)) hstack hW (by rw [hb]; exact hdg)
    (fun vm₁ hW₁ => ⟨hf.1, hf.2, hPc (T.setVm vm₁) hT hW₁⟩) with ⟨v, vm₁, ⟨U', l2, c2, s2⟩, hW₁, X', ⟨g', mk, t, L, e1, e2, hq, h1, hL, h2, h3⟩, st⟩ | ⟨q, vm₁, ⟨U', l2, c2, s2⟩, hW₁, X', ⟨g', mk, t, L, E, ce, e1, e2, hq, hce, hcv, hcl, h1, hL, h2, h3⟩, st⟩
  · dsimp only [Pt.U, Pt.locs, Pt.cells, Pt.slots] at X' e1 e2 h1 h2 h3 st
    subst h1; subst h2; subst h3
    exact Or.inl ⟨v, (T.setVm vm₁).calling g' mk (Value.ref b :: As).toArray, t, U', L, hT, X', hL, e1, e2, hq, st⟩
  · dsimp only [Pt.U, Pt.locs, Pt.cells, Pt.slots] at X' e1 e2 h1 h2 h3 st hcl
    subst h1; subst h2; subst h3
    exact Or.inr ⟨q, (T.setVm vm₁).calling g' mk (Value.ref b :: As).toArray, t, U', L, E, ce, hT, X', hL, e1, e2, hq, hce, hcv, vx_cls hW₁ hcl, st⟩
theorem vx_runSX {hh : List (Nat × Nat × Nat × Nat)} (S : CallFix p m c cc nL s args Ts own) (hM : vx_Met l y ws rm Pc Qc XC mc ms free) (cw : vx_CSW R s args own index y bytes maxL ret hh ws rm mc ms n) (hp : PreS s H Pc As)
    (hg : g.method = m) (hn : As.length = n) (hsize : g.locals.size = nL) (hstack : g.stack = As.reverse ++ rest) (hW : 2 * g.monitorRoom + (rest.map fun v => v.category).sum ≤ 8) (hdg : decode cc g.pc = .ok (.invokestatic index, 3)) (hf : cells + mc ≤ R.cells ∧ slots + ms ≤ R.slots) :
    vx_Run p l e R s m args below meth c H locs cells slots mc ms g rest (Qc As.toArray) XC free := by
  obtain ⟨⟨hrc, hrs, hfr, hlo, hws, hcw⟩, hcode, hini, hy, hlen, hl, hstt⟩ := cw
  have hK : vx_Back l R p e below s args y 3 8 (PreOf R mc ms Pc) (PostOf Qc mc ms free) (vx_Post XC mc ms free) := vx_backW (hh := hh) (bytes := bytes) (maxL := maxL) (ret := ret) hM hp.1 hrc hrs hfr hlo hws hcw (fun a' U hW => word_at hW (Or.inl (by first | rfl | simp [Cond.onTables, Cond.keeps, Cond.steady])) hini)
  obtain ⟨hx, hb, hml, ho, -⟩ := S
  intro T hT X
  rcases vx_callSX X hx (hh := hh) (bytes := bytes) (maxL := maxL) (ret := ret) ho hl hstt hini hcode hy hK hg (hsize.trans hml.symm) (argsL := As) (rest := rest) (fun sig h => hn.trans (hlen sig h)) hstack hW (by rw [hb]; exact hdg)
    (fun vm₁ hW₁ => ⟨hf.1, hf.2, hp.2 (T.setVm vm₁) hT hW₁⟩) with ⟨v, vm₁, ⟨U', l2, c2, s2⟩, hW₁, X', ⟨g', mk, t, L, e1, e2, hq, h1, hL, h2, h3⟩, st⟩ | ⟨q, vm₁, ⟨U', l2, c2, s2⟩, hW₁, X', ⟨g', mk, t, L, E, ce, e1, e2, hq, hce, hcv, hcl, h1, hL, h2, h3⟩, st⟩
  · dsimp only [Pt.U, Pt.locs, Pt.cells, Pt.slots] at X' e1 e2 h1 h2 h3 st
    subst h1; subst h2; subst h3
    exact Or.inl ⟨v, (T.setVm vm₁).calling g' mk As.toArray, t, U', L, hT, X', hL, e1, e2, hq, st⟩
  · dsimp only [Pt.U, Pt.locs, Pt.cells, Pt.slots] at X' e1 e2 h1 h2 h3 st hcl
    subst h1; subst h2; subst h3
    exact Or.inr ⟨q, (T.setVm vm₁).calling g' mk As.toArray, t, U', L, E, ce, hT, X', hL, e1, e2, hq, hce, hcv, vx_cls hW₁ hcl, st⟩
end
end VXH
theorem vx_ofWH {l : Launch} {y : MethodName} {ws ws' : List Cond} {rm : Room} {Pc : Array Value → State → Prop} {Qc : Array Value → State → Outcome → State → Prop} {XC : String → State → State → Prop} {mc ms : Nat} {free : Addr → Prop} {cc : ByteArray} {maxL : Nat} {ret : Option FieldType} {hh : List (Nat × Nat × Nat × Nat)}
    (hy : plainName y.cls = true) (hw : ws = Cond.codeWith y cc maxL ret hh :: ws')
    (body : ∀ p e s m args below meth c s₁, BodyLoose p l y (headSpec ws rm) cc maxL ret e s m args below meth c s₁ → c.maxLocals = maxL → Pc args s →
      W p l e (headSpec ws rm).room s m args below meth c s.heap [] 0 0 (vx_MQ below Qc XC args s mc ms free) (entryFrame m args maxL)) : vx_Met l y ws rm Pc Qc XC mc ms free := by
  refine MetFree.of_bodyS (code := cc) (maxLocals := maxL) (ret := ret) hy ?_ ?_
  · intro args s m h hn
    obtain ⟨m9, meth, c, hn9, h1, h2, h3, h4, -, h5, h6, -⟩ := Cond.codeWith_spec (atoms_spec (ws := ws) h _ (by rw [hw]; exact List.mem_cons_self))
    cases hn.symm.trans hn9
    exact ⟨meth, c, h1, h2, h3, h4, h5, h6⟩
  · intro p e s m args below meth c s₁ B hml hP _
    have hh0 : s₁.heap = s.heap := by rw [B.state]; rfl
    obtain ⟨t, a1, o, b1, b2, b3⟩ := body p e s m args below meth c s₁ B hml hP s₁ hh0 (Stand.of_body B)
    exact ⟨t, o, a1, b1, b2, b3⟩
/-! ===== END ===== -/
end
section
def RX0 : String := "CourierRelay$Courier"
def TX0 : u_T := fun k => match k with
  | 0 => ("CourierRelay$Courier", "area", "I", false)
  | 1 => ("CourierRelay$Courier", "zone", "I", false)
  | 2 => ("CourierRelay$Courier", "tips", "I", false)
  | 3 => ("CourierRelay$Courier", "doing", "I", false)
  | _ => ("CourierRelay$Courier", "parcel", "I", false)
def tyX0 : Nat → FieldType := fun k => match k with
  | 0 => .int
  | 1 => .int
  | 2 => .int
  | 3 => .int
  | _ => .int
abbrev wsX00 : List Cond := u_ws RX0 TX0 5
theorem nmX0 : ∀ a, a < 5 → ∀ b, b < 5 → a ≠ b → (TX0 a).2.1 ≠ (TX0 b).2.1 := by decide +kernel
theorem tyX0_ok : ∀ k, k < 5 → parseFieldDescriptor (TX0 k).2.2.1 = some (tyX0 k) := by decide +kernel
abbrev cX0_init : ByteArray := prog_2_method_1_code
def yX0_init : MethodName := ⟨RX0, "<init>", "()V"⟩
abbrev cX0_begin : ByteArray := prog_2_method_2_code
def yX0_begin : MethodName := ⟨RX0, "begin", "(II)V"⟩
abbrev cX0_become : ByteArray := prog_2_method_3_code
def yX0_become : MethodName := ⟨RX0, "become", "(LCourierRelay$Courier;)V"⟩
abbrev cX0_setFree : ByteArray := prog_2_method_4_code
def yX0_setFree : MethodName := ⟨RX0, "setFree", "()V"⟩
def RX1 : String := "CourierRelay$Exchange"
def TX1 : u_T := fun k => match k with
  | 0 => ("CourierRelay$Exchange", "time", "I", false)
  | 1 => ("CourierRelay$Exchange", "grace", "I", false)
  | 2 => ("CourierRelay$Exchange", "courierCount", "I", false)
  | 3 => ("CourierRelay$Exchange", "parcelCount", "I", false)
  | 4 => ("CourierRelay$Exchange", "paid", "I", false)
  | 5 => ("CourierRelay$Exchange", "handovers", "I", false)
  | 6 => ("CourierRelay$Exchange", "moves", "I", false)
  | 7 => ("CourierRelay$Exchange", "couriers", "[LCourierRelay$Courier;", true)
  | _ => ("CourierRelay$Exchange", "parcels", "[LCourierRelay$Parcel;", true)
def tyX1 : Nat → FieldType := fun k => match k with
  | 0 => .int
  | 1 => .int
  | 2 => .int
  | 3 => .int
  | 4 => .int
  | 5 => .int
  | 6 => .int
  | 7 => .array (.object "CourierRelay$Courier")
  | _ => .array (.object "CourierRelay$Parcel")
abbrev wsX10 : List Cond := u_ws RX1 TX1 9
theorem nmX1 : ∀ a, a < 9 → ∀ b, b < 9 → a ≠ b → (TX1 a).2.1 ≠ (TX1 b).2.1 := by decide +kernel
theorem tyX1_ok : ∀ k, k < 9 → parseFieldDescriptor (TX1 k).2.2.1 = some (tyX1 k) := by decide +kernel
abbrev cX1_init : ByteArray := prog_3_method_1_code
def yX1_init : MethodName := ⟨RX1, "<init>", "()V"⟩
abbrev cX1_become : ByteArray := prog_3_method_2_code
def yX1_become : MethodName := ⟨RX1, "become", "(LCourierRelay$Exchange;)V"⟩
abbrev cX1_courierAt : ByteArray := prog_3_method_3_code
def yX1_courierAt : MethodName := ⟨RX1, "courierAt", "(I)LCourierRelay$Courier;"⟩
abbrev cX1_parcelAt : ByteArray := prog_3_method_4_code
def yX1_parcelAt : MethodName := ⟨RX1, "parcelAt", "(I)LCourierRelay$Parcel;"⟩
abbrev cX1_join : ByteArray := prog_3_method_5_code
def yX1_join : MethodName := ⟨RX1, "join", "(II)I"⟩
abbrev cX1_accept : ByteArray := prog_3_method_6_code
def yX1_accept : MethodName := ⟨RX1, "accept", "(IIII)I"⟩
abbrev cX1_release : ByteArray := prog_3_method_7_code
def yX1_release : MethodName := ⟨RX1, "release", "(LCourierRelay$Courier;)V"⟩
abbrev cX1_pass : ByteArray := prog_3_method_10_code
def yX1_pass : MethodName := ⟨RX1, "pass", "(I)I"⟩
abbrev cX1_tick : ByteArray := prog_3_method_12_code
def yX1_tick : MethodName := ⟨RX1, "tick", "(Z)Z"⟩
abbrev cX1_carry : ByteArray := prog_3_method_13_code
def yX1_carry : MethodName := ⟨RX1, "carry", "(LCourierRelay$Courier;ILCourierRelay$Parcel;)V"⟩
abbrev cX1_deliver : ByteArray := prog_3_method_14_code
def yX1_deliver : MethodName := ⟨RX1, "deliver", "(LCourierRelay$Parcel;)V"⟩
abbrev cX1_approach : ByteArray := prog_3_method_15_code
def yX1_approach : MethodName := ⟨RX1, "approach", "(LCourierRelay$Courier;LCourierRelay$Parcel;)V"⟩
abbrev cX1_choose : ByteArray := prog_3_method_16_code
def yX1_choose : MethodName := ⟨RX1, "choose", "(LCourierRelay$Courier;)V"⟩
abbrev cX1_isSought : ByteArray := prog_3_method_17_code
def yX1_isSought : MethodName := ⟨RX1, "isSought", "(I)Z"⟩
abbrev cX1_failLateParcels : ByteArray := prog_3_method_18_code
def yX1_failLateParcels : MethodName := ⟨RX1, "failLateParcels", "()V"⟩
abbrev cX1_freeCouriersOf : ByteArray := prog_3_method_19_code
def yX1_freeCouriersOf : MethodName := ⟨RX1, "freeCouriersOf", "(I)V"⟩
abbrev cX1_parcelsIn : ByteArray := prog_3_method_22_code
def yX1_parcelsIn : MethodName := ⟨RX1, "parcelsIn", "(I)I"⟩
abbrev cX1_legsBy : ByteArray := prog_3_method_24_code
def yX1_legsBy : MethodName := ⟨RX1, "legsBy", "(I)I"⟩
abbrev cX1_figure : ByteArray := prog_3_method_25_code
def yX1_figure : MethodName := ⟨RX1, "figure", "(I)I"⟩
abbrev cX1_courierFigure : ByteArray := prog_3_method_26_code
def yX1_courierFigure : MethodName := ⟨RX1, "courierFigure", "(LCourierRelay$Courier;II)I"⟩
def RX2 : String := "CourierRelay$History"
def TX2 : u_T := fun k => match k with
  | 0 => ("CourierRelay$History", "states", "[LCourierRelay$Exchange;", true)
  | 1 => ("CourierRelay$History", "oldest", "I", false)
  | _ => ("CourierRelay$History", "count", "I", false)
def tyX2 : Nat → FieldType := fun k => match k with
  | 0 => .array (.object "CourierRelay$Exchange")
  | 1 => .int
  | _ => .int
abbrev wsX20 : List Cond := u_ws RX2 TX2 3
theorem nmX2 : ∀ a, a < 3 → ∀ b, b < 3 → a ≠ b → (TX2 a).2.1 ≠ (TX2 b).2.1 := by decide +kernel
theorem tyX2_ok : ∀ k, k < 3 → parseFieldDescriptor (TX2 k).2.2.1 = some (tyX2 k) := by decide +kernel
abbrev cX2_init : ByteArray := prog_4_method_1_code
def yX2_init : MethodName := ⟨RX2, "<init>", "()V"⟩
abbrev cX2_stateAt : ByteArray := prog_4_method_2_code
def yX2_stateAt : MethodName := ⟨RX2, "stateAt", "(I)LCourierRelay$Exchange;"⟩
abbrev cX2_save : ByteArray := prog_4_method_3_code
def yX2_save : MethodName := ⟨RX2, "save", "(LCourierRelay$Exchange;)V"⟩
def RX3 : String := "CourierRelay$Parcel"
def TX3 : u_T := fun k => match k with
  | 0 => ("CourierRelay$Parcel", "origin", "I", false)
  | 1 => ("CourierRelay$Parcel", "destination", "I", false)
  | 2 => ("CourierRelay$Parcel", "cutOff", "I", false)
  | 3 => ("CourierRelay$Parcel", "tip", "I", false)
  | 4 => ("CourierRelay$Parcel", "state", "I", false)
  | 5 => ("CourierRelay$Parcel", "zone", "I", false)
  | 6 => ("CourierRelay$Parcel", "deliveredAt", "I", false)
  | 7 => ("CourierRelay$Parcel", "paid", "I", false)
  | 8 => ("CourierRelay$Parcel", "legs", "[I", true)
  | _ => ("CourierRelay$Parcel", "shares", "[I", true)
def tyX3 : Nat → FieldType := fun k => match k with
  | 0 => .int
  | 1 => .int
  | 2 => .int
  | 3 => .int
  | 4 => .int
  | 5 => .int
  | 6 => .int
  | 7 => .int
  | 8 => .array .int
  | _ => .array .int
abbrev wsX30 : List Cond := u_ws RX3 TX3 10
theorem nmX3 : ∀ a, a < 10 → ∀ b, b < 10 → a ≠ b → (TX3 a).2.1 ≠ (TX3 b).2.1 := by decide +kernel
theorem tyX3_ok : ∀ k, k < 10 → parseFieldDescriptor (TX3 k).2.2.1 = some (tyX3 k) := by decide +kernel
abbrev cX3_init : ByteArray := prog_5_method_1_code
def yX3_init : MethodName := ⟨RX3, "<init>", "()V"⟩
abbrev cX3_begin : ByteArray := prog_5_method_2_code
def yX3_begin : MethodName := ⟨RX3, "begin", "(IIII)V"⟩
abbrev cX3_become : ByteArray := prog_5_method_3_code
def yX3_become : MethodName := ⟨RX3, "become", "(LCourierRelay$Parcel;)V"⟩
abbrev cX3_isOpen : ByteArray := prog_5_method_4_code
def yX3_isOpen : MethodName := ⟨RX3, "isOpen", "()Z"⟩
abbrev cX3_suits : ByteArray := prog_5_method_5_code
def yX3_suits : MethodName := ⟨RX3, "suits", "(I)Z"⟩
abbrev cX3_legsOf : ByteArray := prog_5_method_6_code
def yX3_legsOf : MethodName := ⟨RX3, "legsOf", "(I)I"⟩
abbrev cX3_shareOf : ByteArray := prog_5_method_7_code
def yX3_shareOf : MethodName := ⟨RX3, "shareOf", "(I)I"⟩
abbrev cX3_addLeg : ByteArray := prog_5_method_8_code
def yX3_addLeg : MethodName := ⟨RX3, "addLeg", "(I)V"⟩
abbrev cX3_sharePaid : ByteArray := prog_5_method_9_code
def yX3_sharePaid : MethodName := ⟨RX3, "sharePaid", "()V"⟩
abbrev cX3_rankOf : ByteArray := prog_5_method_10_code
def yX3_rankOf : MethodName := ⟨RX3, "rankOf", "(III)I"⟩
abbrev cX3_figure : ByteArray := prog_5_method_11_code
def yX3_figure : MethodName := ⟨RX3, "figure", "(I)I"⟩
def RX4 : String := "CourierRelay$ParcelText"
def TX4 : u_T := fun k => match k with
  | 0 => ("CourierRelay$ParcelText", "bytes", "[I", true)
  | 1 => ("CourierRelay$ParcelText", "numbers", "[I", true)
  | 2 => ("CourierRelay$ParcelText", "length", "I", false)
  | 3 => ("CourierRelay$ParcelText", "items", "I", false)
  | _ => ("CourierRelay$ParcelText", "position", "I", false)
def tyX4 : Nat → FieldType := fun k => match k with
  | 0 => .array .int
  | 1 => .array .int
  | 2 => .int
  | 3 => .int
  | _ => .int
abbrev wsX40 : List Cond := u_ws RX4 TX4 5
theorem nmX4 : ∀ a, a < 5 → ∀ b, b < 5 → a ≠ b → (TX4 a).2.1 ≠ (TX4 b).2.1 := by decide +kernel
theorem tyX4_ok : ∀ k, k < 5 → parseFieldDescriptor (TX4 k).2.2.1 = some (tyX4 k) := by decide +kernel
abbrev cX4_init : ByteArray := prog_6_method_1_code
def yX4_init : MethodName := ⟨RX4, "<init>", "()V"⟩
def RX5 : String := "CourierRelay"
def TX5 : u_T := fun k => match k with
  | 0 => ("CourierRelay", "now", "LCourierRelay$Exchange;", true)
  | 1 => ("CourierRelay", "trial", "LCourierRelay$Exchange;", true)
  | 2 => ("CourierRelay", "history", "LCourierRelay$History;", true)
  | _ => ("CourierRelay", "text", "LCourierRelay$ParcelText;", true)
def tyX5 : Nat → FieldType := fun k => match k with
  | 0 => .object "CourierRelay$Exchange"
  | 1 => .object "CourierRelay$Exchange"
  | 2 => .object "CourierRelay$History"
  | _ => .object "CourierRelay$ParcelText"
abbrev wsX50 : List Cond := u_ws RX5 TX5 4
theorem nmX5 : ∀ a, a < 4 → ∀ b, b < 4 → a ≠ b → (TX5 a).2.1 ≠ (TX5 b).2.1 := by decide +kernel
theorem tyX5_ok : ∀ k, k < 4 → parseFieldDescriptor (TX5 k).2.2.1 = some (tyX5 k) := by decide +kernel
abbrev cX5_init : ByteArray := prog_1_method_1_code
def yX5_init : MethodName := ⟨RX5, "<init>", "()V"⟩
abbrev cX5_addCourier : ByteArray := prog_1_method_2_code
def yX5_addCourier : MethodName := ⟨RX5, "addCourier", "(II)I"⟩
abbrev cX5_setArea : ByteArray := prog_1_method_3_code
def yX5_setArea : MethodName := ⟨RX5, "setArea", "(II)I"⟩
abbrev cX5_give : ByteArray := prog_1_method_4_code
def yX5_give : MethodName := ⟨RX5, "give", "(IIII)I"⟩
abbrev cX5_setGrace : ByteArray := prog_1_method_5_code
def yX5_setGrace : MethodName := ⟨RX5, "setGrace", "(I)I"⟩
abbrev cX5_drop : ByteArray := prog_1_method_6_code
def yX5_drop : MethodName := ⟨RX5, "drop", "(I)I"⟩
abbrev cX5_run : ByteArray := prog_1_method_7_code
def yX5_run : MethodName := ⟨RX5, "run", "(I)I"⟩
abbrev cX5_value : ByteArray := prog_1_method_8_code
def yX5_value : MethodName := ⟨RX5, "value", "(I)I"⟩
abbrev cX5_courier : ByteArray := prog_1_method_9_code
def yX5_courier : MethodName := ⟨RX5, "courier", "(II)I"⟩
abbrev cX5_parcel : ByteArray := prog_1_method_10_code
def yX5_parcel : MethodName := ⟨RX5, "parcel", "(II)I"⟩
abbrev cX5_legs : ByteArray := prog_1_method_11_code
def yX5_legs : MethodName := ⟨RX5, "legs", "(IIZ)I"⟩
abbrev cX5_distance : ByteArray := prog_1_method_12_code
def yX5_distance : MethodName := ⟨RX5, "distance", "(II)I"⟩
abbrev cX5_isZone : ByteArray := prog_1_method_25_code
def yX5_isZone : MethodName := ⟨RX5, "isZone", "(I)Z"⟩
abbrev cX5_isArea : ByteArray := prog_1_method_26_code
def yX5_isArea : MethodName := ⟨RX5, "isArea", "(I)Z"⟩
abbrev cX5_isCutOff : ByteArray := prog_1_method_27_code
def yX5_isCutOff : MethodName := ⟨RX5, "isCutOff", "(I)Z"⟩
abbrev cX5_isTip : ByteArray := prog_1_method_28_code
def yX5_isTip : MethodName := ⟨RX5, "isTip", "(I)Z"⟩
abbrev cX5_isTicks : ByteArray := prog_1_method_29_code
def yX5_isTicks : MethodName := ⟨RX5, "isTicks", "(I)Z"⟩
abbrev cX5_holds : ByteArray := prog_1_method_30_code
def yX5_holds : MethodName := ⟨RX5, "holds", "(II)Z"⟩
abbrev cX5_nextZone : ByteArray := prog_1_method_31_code
def yX5_nextZone : MethodName := ⟨RX5, "nextZone", "(II)I"⟩
abbrev cX5_at : ByteArray := prog_1_method_32_code
def yX5_at : MethodName := ⟨RX5, "at", "([II)I"⟩
abbrev cX5_sum : ByteArray := prog_1_method_33_code
def yX5_sum : MethodName := ⟨RX5, "sum", "([I)I"⟩
abbrev cX5_copyRow : ByteArray := prog_1_method_34_code
def yX5_copyRow : MethodName := ⟨RX5, "copyRow", "([I[I)V"⟩
def RX6 : String := "CourierRelayModel"
def TX6 : u_T := fun k => match k with
  | _ => ("", "", "", false)
def tyX6 : Nat → FieldType := fun k => match k with
  | _ => .int
abbrev wsX60 : List Cond := u_ws RX6 TX6 0
theorem nmX6 : ∀ a, a < 0 → ∀ b, b < 0 → a ≠ b → (TX6 a).2.1 ≠ (TX6 b).2.1 := by decide +kernel
theorem tyX6_ok : ∀ k, k < 0 → parseFieldDescriptor (TX6 k).2.2.1 = some (tyX6 k) := by decide +kernel
def RJ9 : String := "java/lang/Math"
def TJ9 : u_T := fun k => match k with
  | _ => ("", "", "", false)
def tyJ9 : Nat → FieldType := fun k => match k with
  | _ => .int
abbrev wsJ90 : List Cond := u_ws RJ9 TJ9 0
theorem nmJ9 : ∀ a, a < 0 → ∀ b, b < 0 → a ≠ b → (TJ9 a).2.1 ≠ (TJ9 b).2.1 := by decide +kernel
theorem tyJ9_ok : ∀ k, k < 0 → parseFieldDescriptor (TJ9 k).2.2.1 = some (tyJ9 k) := by decide +kernel
abbrev cJ9_abs_0f7a4 : ByteArray := prog_13_method_59_code
def yJ9_abs_0f7a4 : MethodName := ⟨RJ9, "abs", "(I)I"⟩
abbrev cJ9_min_7cf53 : ByteArray := prog_13_method_69_code
def yJ9_min_7cf53 : MethodName := ⟨RJ9, "min", "(II)I"⟩
def RJ10 : String := "java/lang/System"
def TJ10 : u_T := fun k => match k with
  | _ => ("", "", "", false)
def tyJ10 : Nat → FieldType := fun k => match k with
  | _ => .int
abbrev wsJ100 : List Cond := u_ws RJ10 TJ10 0
theorem nmJ10 : ∀ a, a < 0 → ∀ b, b < 0 → a ≠ b → (TJ10 a).2.1 ≠ (TJ10 b).2.1 := by decide +kernel
theorem tyJ10_ok : ∀ k, k < 0 → parseFieldDescriptor (TJ10 k).2.2.1 = some (tyJ10 k) := by decide +kernel
def RL : String := "CourierRelayLaw"
abbrev cL_cell : ByteArray := method_2_code
def yL_cell : MethodName := ⟨RL, "cell", "([II)I"⟩
abbrev cL_low : ByteArray := method_3_code
def yL_low : MethodName := ⟨RL, "low", "(II)I"⟩
abbrev cL_towards : ByteArray := method_4_code
def yL_towards : MethodName := ⟨RL, "towards", "(II)I"⟩
abbrev cL_has : ByteArray := method_5_code
def yL_has : MethodName := ⟨RL, "has", "(II)Z"⟩
abbrev cL_suits : ByteArray := method_6_code
def yL_suits : MethodName := ⟨RL, "suits", "([I[III)Z"⟩
abbrev cL_pays : ByteArray := method_7_code
def yL_pays : MethodName := ⟨RL, "pays", "([I[I[I[I[II)V"⟩
abbrev cL_free : ByteArray := method_8_code
def yL_free : MethodName := ⟨RL, "free", "([II)V"⟩
abbrev cL_does : ByteArray := method_9_code
def yL_does : MethodName := ⟨RL, "does", "([I[I[I[I[II)V"⟩
abbrev cL_ticks : ByteArray := method_10_code
def yL_ticks : MethodName := ⟨RL, "ticks", "([I[I[I[I[II)V"⟩
abbrev cL_drops : ByteArray := method_11_code
def yL_drops : MethodName := ⟨RL, "drops", "([I[II)I"⟩
abbrev cL_delivered : ByteArray := method_12_code
def yL_delivered : MethodName := ⟨RL, "delivered", "([I[I)I"⟩
abbrev cL_area : ByteArray := method_13_code
def yL_area : MethodName := ⟨RL, "area", "(I)I"⟩
abbrev cL_acts : ByteArray := method_14_code
def yL_acts : MethodName := ⟨RL, "acts", "(LCourierRelay;[I[I[I[I[II)Z"⟩
abbrev cL_adds : ByteArray := method_15_code
def yL_adds : MethodName := ⟨RL, "adds", "(LCourierRelay;II)I"⟩
abbrev cL_areas : ByteArray := method_16_code
def yL_areas : MethodName := ⟨RL, "areas", "(LCourierRelay;II)I"⟩
abbrev cL_gives : ByteArray := method_17_code
def yL_gives : MethodName := ⟨RL, "gives", "(LCourierRelay;IIII)I"⟩
abbrev cL_graces : ByteArray := method_18_code
def yL_graces : MethodName := ⟨RL, "graces", "(LCourierRelay;I)I"⟩
abbrev cL_dropsOf : ByteArray := method_19_code
def yL_dropsOf : MethodName := ⟨RL, "dropsOf", "(LCourierRelay;I)I"⟩
abbrev cL_runs : ByteArray := method_20_code
def yL_runs : MethodName := ⟨RL, "runs", "(LCourierRelay;I)I"⟩
abbrev cL_valueOf : ByteArray := method_21_code
def yL_valueOf : MethodName := ⟨RL, "valueOf", "(LCourierRelay;I)I"⟩
abbrev cL_courierOf : ByteArray := method_22_code
def yL_courierOf : MethodName := ⟨RL, "courierOf", "(LCourierRelay;II)I"⟩
abbrev cL_parcelOf : ByteArray := method_23_code
def yL_parcelOf : MethodName := ⟨RL, "parcelOf", "(LCourierRelay;II)I"⟩
abbrev cL_legsOf : ByteArray := method_24_code
def yL_legsOf : MethodName := ⟨RL, "legsOf", "(LCourierRelay;IIZ)I"⟩
abbrev cL_farOf : ByteArray := method_25_code
def yL_farOf : MethodName := ⟨RL, "farOf", "(LCourierRelay;II)I"⟩
abbrev cL_isSo : ByteArray := method_26_code
def yL_isSo : MethodName := ⟨RL, "isSo", "(LCourierRelay;[I[I[I[I[I)Z"⟩
abbrev cL_law : ByteArray := code
def yL_law : MethodName := ⟨RL, "law", "([I)Z"⟩
abbrev vwCl : List vw_C := [(RX0, TX0, 5), (RX1, TX1, 9), (RX2, TX2, 3), (RX3, TX3, 10), (RX4, TX4, 5), (RX5, TX5, 4)]
/-! the words that every method takes: the good ones of the tables -/
def fw_LW : List Cond := lw_tbl.filter goodWord
theorem fw_LW_in {w : Cond} (h : w ∈ fw_LW) : w ∈ lw_tbl := (List.mem_filter.mp h).1
theorem fw_LW_good {w : Cond} (h : w ∈ fw_LW) : goodWord w = true := (List.mem_filter.mp h).2
theorem fw_t1 {w : Cond} (k : Nat) (h : tables_1_1[k]? = some w) (hg : goodWord w = true) : w ∈ fw_LW := List.mem_filter.mpr ⟨List.mem_append_right _ (List.mem_append_left _ (List.mem_of_getElem? h)), hg⟩
theorem fw_t2 {w : Cond} (k : Nat) (h : tables_1_2[k]? = some w) (hg : goodWord w = true) : w ∈ fw_LW := List.mem_filter.mpr ⟨List.mem_append_right _ (List.mem_append_right _ (List.mem_append_left _ (List.mem_of_getElem? h))), hg⟩
theorem fw_t3 {w : Cond} (k : Nat) (h : tables_1_3[k]? = some w) (hg : goodWord w = true) : w ∈ fw_LW := List.mem_filter.mpr ⟨List.mem_append_right _ (List.mem_append_right _ (List.mem_append_right _ (List.mem_of_getElem? h))), hg⟩
theorem fw_tp {w : Cond} (k : Nat) (h : (k2_sels lw_privs)[k]? = some w) (hg : goodWord w = true) : w ∈ fw_LW := List.mem_filter.mpr ⟨List.mem_append_left _ (List.mem_of_getElem? h), hg⟩
theorem fw_tin {w : Cond} (h : w ∈ tables_1) (hg : goodWord w = true) : w ∈ fw_LW := List.mem_filter.mpr ⟨List.mem_append_right _ h, hg⟩
theorem wz_RX5 : Cond.initialized RX5 ∈ fw_LW := fw_t1 1 (by decide +kernel) (by decide +kernel)
theorem wz_RX0 : Cond.initialized RX0 ∈ fw_LW := fw_t1 3 (by decide +kernel) (by decide +kernel)
theorem wz_RX1 : Cond.initialized RX1 ∈ fw_LW := fw_t1 2 (by decide +kernel) (by decide +kernel)
theorem wz_RX2 : Cond.initialized RX2 ∈ fw_LW := fw_t1 5 (by decide +kernel) (by decide +kernel)
theorem wz_RX3 : Cond.initialized RX3 ∈ fw_LW := fw_t1 4 (by decide +kernel) (by decide +kernel)
theorem wz_RX4 : Cond.initialized RX4 ∈ fw_LW := fw_t1 6 (by decide +kernel) (by decide +kernel)
theorem wz_RL : Cond.initialized RL ∈ fw_LW := fw_t1 0 (by decide +kernel) (by decide +kernel)
theorem wz_RJ9 : Cond.initialized RJ9 ∈ fw_LW := fw_t1 12 (by decide +kernel) (by decide +kernel)
theorem wz_RJ10 : Cond.initialized RJ10 ∈ fw_LW := fw_t1 14 (by decide +kernel) (by decide +kernel)
theorem wc_X0_init : Cond.code yX0_init cX0_init 1 ((Option.none : Option Jvm.ClassFile.FieldType)) ∈ fw_LW := fw_t1 36 rfl (by decide +kernel)
theorem wi_X0_init : Cond.instanceMethod yX0_init ∈ fw_LW := fw_t1 35 (by decide +kernel) (by decide +kernel)
theorem wc_X0_begin : Cond.code yX0_begin cX0_begin 3 ((Option.none : Option Jvm.ClassFile.FieldType)) ∈ fw_LW := fw_t2 102 rfl (by decide +kernel)
theorem wi_X0_begin : Cond.instanceMethod yX0_begin ∈ fw_LW := fw_t2 100 (by decide +kernel) (by decide +kernel)
theorem wv_X0_begin : Cond.selects RX0 yX0_begin yX0_begin ∈ fw_LW := fw_t2 101 (by decide +kernel) (by decide +kernel)
theorem wc_X0_become : Cond.code yX0_become cX0_become 2 ((Option.none : Option Jvm.ClassFile.FieldType)) ∈ fw_LW := fw_t2 77 rfl (by decide +kernel)
theorem wi_X0_become : Cond.instanceMethod yX0_become ∈ fw_LW := fw_t2 75 (by decide +kernel) (by decide +kernel)
theorem wv_X0_become : Cond.selects RX0 yX0_become yX0_become ∈ fw_LW := fw_t2 76 (by decide +kernel) (by decide +kernel)
theorem wc_X0_setFree : Cond.code yX0_setFree cX0_setFree 1 ((Option.none : Option Jvm.ClassFile.FieldType)) ∈ fw_LW := fw_t2 106 rfl (by decide +kernel)
theorem wi_X0_setFree : Cond.instanceMethod yX0_setFree ∈ fw_LW := fw_t2 104 (by decide +kernel) (by decide +kernel)
theorem wv_X0_setFree : Cond.selects RX0 yX0_setFree yX0_setFree ∈ fw_LW := fw_t2 105 (by decide +kernel) (by decide +kernel)
theorem wc_X1_init : Cond.code yX1_init cX1_init 2 ((Option.none : Option Jvm.ClassFile.FieldType)) ∈ fw_LW := fw_t1 27 rfl (by decide +kernel)
theorem wi_X1_init : Cond.instanceMethod yX1_init ∈ fw_LW := fw_t1 26 (by decide +kernel) (by decide +kernel)
theorem wc_X1_become : Cond.code yX1_become cX1_become 5 ((Option.none : Option Jvm.ClassFile.FieldType)) ∈ fw_LW := fw_t2 69 rfl (by decide +kernel)
theorem wi_X1_become : Cond.instanceMethod yX1_become ∈ fw_LW := fw_t2 67 (by decide +kernel) (by decide +kernel)
theorem wv_X1_become : Cond.selects RX1 yX1_become yX1_become ∈ fw_LW := fw_t2 68 (by decide +kernel) (by decide +kernel)
theorem wc_X1_courierAt : Cond.code yX1_courierAt cX1_courierAt 2 ((Option.some (Jvm.ClassFile.FieldType.object "CourierRelay$Courier"))) ∈ fw_LW := fw_t2 73 rfl (by decide +kernel)
theorem wi_X1_courierAt : Cond.instanceMethod yX1_courierAt ∈ fw_LW := fw_t2 71 (by decide +kernel) (by decide +kernel)
theorem wv_X1_courierAt : Cond.selects RX1 yX1_courierAt yX1_courierAt ∈ fw_LW := fw_t2 72 (by decide +kernel) (by decide +kernel)
theorem wc_X1_parcelAt : Cond.code yX1_parcelAt cX1_parcelAt 2 ((Option.some (Jvm.ClassFile.FieldType.object "CourierRelay$Parcel"))) ∈ fw_LW := fw_t2 81 rfl (by decide +kernel)
theorem wi_X1_parcelAt : Cond.instanceMethod yX1_parcelAt ∈ fw_LW := fw_t2 79 (by decide +kernel) (by decide +kernel)
theorem wv_X1_parcelAt : Cond.selects RX1 yX1_parcelAt yX1_parcelAt ∈ fw_LW := fw_t2 80 (by decide +kernel) (by decide +kernel)
theorem wc_X1_join : Cond.code yX1_join cX1_join 5 ((Option.some Jvm.ClassFile.FieldType.int)) ∈ fw_LW := fw_t2 98 rfl (by decide +kernel)
theorem wi_X1_join : Cond.instanceMethod yX1_join ∈ fw_LW := fw_t2 96 (by decide +kernel) (by decide +kernel)
theorem wv_X1_join : Cond.selects RX1 yX1_join yX1_join ∈ fw_LW := fw_t2 97 (by decide +kernel) (by decide +kernel)
theorem wc_X1_accept : Cond.code yX1_accept cX1_accept 7 ((Option.some Jvm.ClassFile.FieldType.int)) ∈ fw_LW := fw_t2 153 rfl (by decide +kernel)
theorem wi_X1_accept : Cond.instanceMethod yX1_accept ∈ fw_LW := fw_t2 151 (by decide +kernel) (by decide +kernel)
theorem wv_X1_accept : Cond.selects RX1 yX1_accept yX1_accept ∈ fw_LW := fw_t2 152 (by decide +kernel) (by decide +kernel)
theorem wc_X1_release : Cond.code yX1_release cX1_release 3 ((Option.none : Option Jvm.ClassFile.FieldType)) ∈ fw_LW := fw_t2 175 rfl (by decide +kernel)
theorem wi_X1_release : Cond.instanceMethod yX1_release ∈ fw_LW := fw_t2 173 (by decide +kernel) (by decide +kernel)
theorem wv_X1_release : Cond.selects RX1 yX1_release yX1_release ∈ fw_LW := fw_t2 174 (by decide +kernel) (by decide +kernel)
theorem wc_X1_pass : Cond.code yX1_pass cX1_pass 5 ((Option.some Jvm.ClassFile.FieldType.int)) ∈ fw_LW := fw_t2 197 rfl (by decide +kernel)
theorem wi_X1_pass : Cond.instanceMethod yX1_pass ∈ fw_LW := fw_t2 195 (by decide +kernel) (by decide +kernel)
theorem wv_X1_pass : Cond.selects RX1 yX1_pass yX1_pass ∈ fw_LW := fw_t2 196 (by decide +kernel) (by decide +kernel)
theorem wc_X1_tick : Cond.code yX1_tick cX1_tick 7 ((Option.some Jvm.ClassFile.FieldType.boolean)) ∈ fw_LW := fw_t2 201 rfl (by decide +kernel)
theorem wi_X1_tick : Cond.instanceMethod yX1_tick ∈ fw_LW := fw_t2 199 (by decide +kernel) (by decide +kernel)
theorem wv_X1_tick : Cond.selects RX1 yX1_tick yX1_tick ∈ fw_LW := fw_t2 200 (by decide +kernel) (by decide +kernel)
theorem wc_X1_carry : Cond.code yX1_carry cX1_carry 5 ((Option.none : Option Jvm.ClassFile.FieldType)) ∈ fw_LW := fw_t2 205 rfl (by decide +kernel)
theorem wi_X1_carry : Cond.instanceMethod yX1_carry ∈ fw_LW := fw_t2 203 (by decide +kernel) (by decide +kernel)
theorem wv_X1_carry : Cond.selects RX1 yX1_carry yX1_carry ∈ fw_LW := fw_t2 204 (by decide +kernel) (by decide +kernel)
theorem wc_X1_deliver : Cond.code yX1_deliver cX1_deliver 4 ((Option.none : Option Jvm.ClassFile.FieldType)) ∈ fw_LW := fw_t2 219 rfl (by decide +kernel)
theorem wi_X1_deliver : Cond.instanceMethod yX1_deliver ∈ fw_LW := fw_t2 217 (by decide +kernel) (by decide +kernel)
theorem wv_X1_deliver : Cond.selects RX1 yX1_deliver yX1_deliver ∈ fw_LW := fw_t2 218 (by decide +kernel) (by decide +kernel)
theorem wc_X1_approach : Cond.code yX1_approach cX1_approach 3 ((Option.none : Option Jvm.ClassFile.FieldType)) ∈ fw_LW := fw_t3 1 rfl (by decide +kernel)
theorem wi_X1_approach : Cond.instanceMethod yX1_approach ∈ fw_LW := fw_t2 239 (by decide +kernel) (by decide +kernel)
theorem wv_X1_approach : Cond.selects RX1 yX1_approach yX1_approach ∈ fw_LW := fw_t3 0 (by decide +kernel) (by decide +kernel)
theorem wc_X1_choose : Cond.code yX1_choose cX1_choose 6 ((Option.none : Option Jvm.ClassFile.FieldType)) ∈ fw_LW := fw_t3 5 rfl (by decide +kernel)
theorem wi_X1_choose : Cond.instanceMethod yX1_choose ∈ fw_LW := fw_t3 3 (by decide +kernel) (by decide +kernel)
theorem wv_X1_choose : Cond.selects RX1 yX1_choose yX1_choose ∈ fw_LW := fw_t3 4 (by decide +kernel) (by decide +kernel)
theorem wc_X1_isSought : Cond.code yX1_isSought cX1_isSought 4 ((Option.some Jvm.ClassFile.FieldType.boolean)) ∈ fw_LW := fw_t3 15 rfl (by decide +kernel)
theorem wi_X1_isSought : Cond.instanceMethod yX1_isSought ∈ fw_LW := fw_t3 13 (by decide +kernel) (by decide +kernel)
theorem wv_X1_isSought : Cond.selects RX1 yX1_isSought yX1_isSought ∈ fw_LW := fw_t3 14 (by decide +kernel) (by decide +kernel)
theorem wc_X1_failLateParcels : Cond.code yX1_failLateParcels cX1_failLateParcels 3 ((Option.none : Option Jvm.ClassFile.FieldType)) ∈ fw_LW := fw_t3 19 rfl (by decide +kernel)
theorem wi_X1_failLateParcels : Cond.instanceMethod yX1_failLateParcels ∈ fw_LW := fw_t3 17 (by decide +kernel) (by decide +kernel)
theorem wv_X1_failLateParcels : Cond.selects RX1 yX1_failLateParcels yX1_failLateParcels ∈ fw_LW := fw_t3 18 (by decide +kernel) (by decide +kernel)
theorem wc_X1_freeCouriersOf : Cond.code yX1_freeCouriersOf cX1_freeCouriersOf 4 ((Option.none : Option Jvm.ClassFile.FieldType)) ∈ fw_LW := fw_t3 27 rfl (by decide +kernel)
theorem wi_X1_freeCouriersOf : Cond.instanceMethod yX1_freeCouriersOf ∈ fw_LW := fw_t3 25 (by decide +kernel) (by decide +kernel)
theorem wv_X1_freeCouriersOf : Cond.selects RX1 yX1_freeCouriersOf yX1_freeCouriersOf ∈ fw_LW := fw_t3 26 (by decide +kernel) (by decide +kernel)
theorem wc_X1_parcelsIn : Cond.code yX1_parcelsIn cX1_parcelsIn 5 ((Option.some Jvm.ClassFile.FieldType.int)) ∈ fw_LW := fw_t2 193 rfl (by decide +kernel)
theorem wi_X1_parcelsIn : Cond.instanceMethod yX1_parcelsIn ∈ fw_LW := fw_t2 191 (by decide +kernel) (by decide +kernel)
theorem wv_X1_parcelsIn : Cond.selects RX1 yX1_parcelsIn yX1_parcelsIn ∈ fw_LW := fw_t2 192 (by decide +kernel) (by decide +kernel)
theorem wc_X1_legsBy : Cond.code yX1_legsBy cX1_legsBy 5 ((Option.some Jvm.ClassFile.FieldType.int)) ∈ fw_LW := fw_t3 75 rfl (by decide +kernel)
theorem wi_X1_legsBy : Cond.instanceMethod yX1_legsBy ∈ fw_LW := fw_t3 73 (by decide +kernel) (by decide +kernel)
theorem wv_X1_legsBy : Cond.selects RX1 yX1_legsBy yX1_legsBy ∈ fw_LW := fw_t3 74 (by decide +kernel) (by decide +kernel)
theorem wc_X1_figure : Cond.code yX1_figure cX1_figure 2 ((Option.some Jvm.ClassFile.FieldType.int)) ∈ fw_LW := fw_t3 59 rfl (by decide +kernel)
theorem wi_X1_figure : Cond.instanceMethod yX1_figure ∈ fw_LW := fw_t3 57 (by decide +kernel) (by decide +kernel)
theorem wv_X1_figure : Cond.selects RX1 yX1_figure yX1_figure ∈ fw_LW := fw_t3 58 (by decide +kernel) (by decide +kernel)
theorem wc_X1_courierFigure : Cond.code yX1_courierFigure cX1_courierFigure 4 ((Option.some Jvm.ClassFile.FieldType.int)) ∈ fw_LW := fw_t3 71 rfl (by decide +kernel)
theorem wi_X1_courierFigure : Cond.instanceMethod yX1_courierFigure ∈ fw_LW := fw_t3 69 (by decide +kernel) (by decide +kernel)
theorem wv_X1_courierFigure : Cond.selects RX1 yX1_courierFigure yX1_courierFigure ∈ fw_LW := fw_t3 70 (by decide +kernel) (by decide +kernel)
theorem wc_X2_init : Cond.code yX2_init cX2_init 2 ((Option.none : Option Jvm.ClassFile.FieldType)) ∈ fw_LW := fw_t1 141 rfl (by decide +kernel)
theorem wi_X2_init : Cond.instanceMethod yX2_init ∈ fw_LW := fw_t1 140 (by decide +kernel) (by decide +kernel)
theorem wc_X2_stateAt : Cond.code yX2_stateAt cX2_stateAt 3 ((Option.some (Jvm.ClassFile.FieldType.object "CourierRelay$Exchange"))) ∈ fw_LW := fw_t2 65 rfl (by decide +kernel)
theorem wi_X2_stateAt : Cond.instanceMethod yX2_stateAt ∈ fw_LW := fw_t2 63 (by decide +kernel) (by decide +kernel)
theorem wv_X2_stateAt : Cond.selects RX2 yX2_stateAt yX2_stateAt ∈ fw_LW := fw_t2 64 (by decide +kernel) (by decide +kernel)
theorem wc_X2_save : Cond.code yX2_save cX2_save 3 ((Option.none : Option Jvm.ClassFile.FieldType)) ∈ fw_LW := fw_t2 61 rfl (by decide +kernel)
theorem wi_X2_save : Cond.instanceMethod yX2_save ∈ fw_LW := fw_t2 59 (by decide +kernel) (by decide +kernel)
theorem wv_X2_save : Cond.selects RX2 yX2_save yX2_save ∈ fw_LW := fw_t2 60 (by decide +kernel) (by decide +kernel)
theorem wc_X3_init : Cond.code yX3_init cX3_init 1 ((Option.none : Option Jvm.ClassFile.FieldType)) ∈ fw_LW := fw_t1 64 rfl (by decide +kernel)
theorem wi_X3_init : Cond.instanceMethod yX3_init ∈ fw_LW := fw_t1 63 (by decide +kernel) (by decide +kernel)
theorem wc_X3_begin : Cond.code yX3_begin cX3_begin 6 ((Option.none : Option Jvm.ClassFile.FieldType)) ∈ fw_LW := fw_t2 157 rfl (by decide +kernel)
theorem wi_X3_begin : Cond.instanceMethod yX3_begin ∈ fw_LW := fw_t2 155 (by decide +kernel) (by decide +kernel)
theorem wv_X3_begin : Cond.selects RX3 yX3_begin yX3_begin ∈ fw_LW := fw_t2 156 (by decide +kernel) (by decide +kernel)
theorem wc_X3_become : Cond.code yX3_become cX3_become 2 ((Option.none : Option Jvm.ClassFile.FieldType)) ∈ fw_LW := fw_t2 85 rfl (by decide +kernel)
theorem wi_X3_become : Cond.instanceMethod yX3_become ∈ fw_LW := fw_t2 83 (by decide +kernel) (by decide +kernel)
theorem wv_X3_become : Cond.selects RX3 yX3_become yX3_become ∈ fw_LW := fw_t2 84 (by decide +kernel) (by decide +kernel)
theorem wc_X3_isOpen : Cond.code yX3_isOpen cX3_isOpen 1 ((Option.some Jvm.ClassFile.FieldType.boolean)) ∈ fw_LW := fw_t3 23 rfl (by decide +kernel)
theorem wi_X3_isOpen : Cond.instanceMethod yX3_isOpen ∈ fw_LW := fw_t3 21 (by decide +kernel) (by decide +kernel)
theorem wv_X3_isOpen : Cond.selects RX3 yX3_isOpen yX3_isOpen ∈ fw_LW := fw_t3 22 (by decide +kernel) (by decide +kernel)
theorem wc_X3_suits : Cond.code yX3_suits cX3_suits 2 ((Option.some Jvm.ClassFile.FieldType.boolean)) ∈ fw_LW := fw_t3 9 rfl (by decide +kernel)
theorem wi_X3_suits : Cond.instanceMethod yX3_suits ∈ fw_LW := fw_t3 7 (by decide +kernel) (by decide +kernel)
theorem wv_X3_suits : Cond.selects RX3 yX3_suits yX3_suits ∈ fw_LW := fw_t3 8 (by decide +kernel) (by decide +kernel)
theorem wc_X3_legsOf : Cond.code yX3_legsOf cX3_legsOf 2 ((Option.some Jvm.ClassFile.FieldType.int)) ∈ fw_LW := fw_t3 79 rfl (by decide +kernel)
theorem wi_X3_legsOf : Cond.instanceMethod yX3_legsOf ∈ fw_LW := fw_t3 77 (by decide +kernel) (by decide +kernel)
theorem wv_X3_legsOf : Cond.selects RX3 yX3_legsOf yX3_legsOf ∈ fw_LW := fw_t3 78 (by decide +kernel) (by decide +kernel)
theorem wc_X3_shareOf : Cond.code yX3_shareOf cX3_shareOf 2 ((Option.some Jvm.ClassFile.FieldType.int)) ∈ fw_LW := fw_t2 234 rfl (by decide +kernel)
theorem wi_X3_shareOf : Cond.instanceMethod yX3_shareOf ∈ fw_LW := fw_t2 232 (by decide +kernel) (by decide +kernel)
theorem wv_X3_shareOf : Cond.selects RX3 yX3_shareOf yX3_shareOf ∈ fw_LW := fw_t2 233 (by decide +kernel) (by decide +kernel)
theorem wc_X3_addLeg : Cond.code yX3_addLeg cX3_addLeg 2 ((Option.none : Option Jvm.ClassFile.FieldType)) ∈ fw_LW := fw_t2 215 rfl (by decide +kernel)
theorem wi_X3_addLeg : Cond.instanceMethod yX3_addLeg ∈ fw_LW := fw_t2 213 (by decide +kernel) (by decide +kernel)
theorem wv_X3_addLeg : Cond.selects RX3 yX3_addLeg yX3_addLeg ∈ fw_LW := fw_t2 214 (by decide +kernel) (by decide +kernel)
theorem wc_X3_sharePaid : Cond.code yX3_sharePaid cX3_sharePaid 4 ((Option.none : Option Jvm.ClassFile.FieldType)) ∈ fw_LW := fw_t2 223 rfl (by decide +kernel)
theorem wi_X3_sharePaid : Cond.instanceMethod yX3_sharePaid ∈ fw_LW := fw_t2 221 (by decide +kernel) (by decide +kernel)
theorem wv_X3_sharePaid : Cond.selects RX3 yX3_sharePaid yX3_sharePaid ∈ fw_LW := fw_t2 222 (by decide +kernel) (by decide +kernel)
theorem wc_X3_rankOf : Cond.code yX3_rankOf cX3_rankOf 7 ((Option.some Jvm.ClassFile.FieldType.int)) ∈ fw_LW := fw_t2 230 rfl (by decide +kernel)
theorem wi_X3_rankOf : Cond.instanceMethod yX3_rankOf ∈ fw_LW := fw_t2 228 (by decide +kernel) (by decide +kernel)
theorem wv_X3_rankOf : Cond.selects RX3 yX3_rankOf yX3_rankOf ∈ fw_LW := fw_t2 229 (by decide +kernel) (by decide +kernel)
theorem wc_X3_figure : Cond.code yX3_figure cX3_figure 2 ((Option.some Jvm.ClassFile.FieldType.int)) ∈ fw_LW := fw_t3 91 rfl (by decide +kernel)
theorem wi_X3_figure : Cond.instanceMethod yX3_figure ∈ fw_LW := fw_t3 89 (by decide +kernel) (by decide +kernel)
theorem wv_X3_figure : Cond.selects RX3 yX3_figure yX3_figure ∈ fw_LW := fw_t3 90 (by decide +kernel) (by decide +kernel)
theorem wc_X4_init : Cond.code yX4_init cX4_init 1 ((Option.none : Option Jvm.ClassFile.FieldType)) ∈ fw_LW := fw_t1 160 rfl (by decide +kernel)
theorem wi_X4_init : Cond.instanceMethod yX4_init ∈ fw_LW := fw_t1 159 (by decide +kernel) (by decide +kernel)
theorem wc_X5_init : Cond.code yX5_init cX5_init 1 ((Option.none : Option Jvm.ClassFile.FieldType)) ∈ fw_LW := fw_t1 19 rfl (by decide +kernel)
theorem wi_X5_init : Cond.instanceMethod yX5_init ∈ fw_LW := fw_t1 18 (by decide +kernel) (by decide +kernel)
theorem wc_X5_addCourier : Cond.code yX5_addCourier cX5_addCourier 3 ((Option.some Jvm.ClassFile.FieldType.int)) ∈ fw_LW := fw_t1 212 rfl (by decide +kernel)
theorem wi_X5_addCourier : Cond.instanceMethod yX5_addCourier ∈ fw_LW := fw_t1 210 (by decide +kernel) (by decide +kernel)
theorem wv_X5_addCourier : Cond.selects RX5 yX5_addCourier yX5_addCourier ∈ fw_LW := fw_t1 211 (by decide +kernel) (by decide +kernel)
theorem wc_X5_setArea : Cond.code yX5_setArea cX5_setArea 5 ((Option.some Jvm.ClassFile.FieldType.int)) ∈ fw_LW := fw_t2 119 rfl (by decide +kernel)
theorem wi_X5_setArea : Cond.instanceMethod yX5_setArea ∈ fw_LW := fw_t2 117 (by decide +kernel) (by decide +kernel)
theorem wv_X5_setArea : Cond.selects RX5 yX5_setArea yX5_setArea ∈ fw_LW := fw_t2 118 (by decide +kernel) (by decide +kernel)
theorem wc_X5_give : Cond.code yX5_give cX5_give 5 ((Option.some Jvm.ClassFile.FieldType.int)) ∈ fw_LW := fw_t2 143 rfl (by decide +kernel)
theorem wi_X5_give : Cond.instanceMethod yX5_give ∈ fw_LW := fw_t2 141 (by decide +kernel) (by decide +kernel)
theorem wv_X5_give : Cond.selects RX5 yX5_give yX5_give ∈ fw_LW := fw_t2 142 (by decide +kernel) (by decide +kernel)
theorem wc_X5_setGrace : Cond.code yX5_setGrace cX5_setGrace 3 ((Option.some Jvm.ClassFile.FieldType.int)) ∈ fw_LW := fw_t2 164 rfl (by decide +kernel)
theorem wi_X5_setGrace : Cond.instanceMethod yX5_setGrace ∈ fw_LW := fw_t2 162 (by decide +kernel) (by decide +kernel)
theorem wv_X5_setGrace : Cond.selects RX5 yX5_setGrace yX5_setGrace ∈ fw_LW := fw_t2 163 (by decide +kernel) (by decide +kernel)
theorem wc_X5_drop : Cond.code yX5_drop cX5_drop 4 ((Option.some Jvm.ClassFile.FieldType.int)) ∈ fw_LW := fw_t2 171 rfl (by decide +kernel)
theorem wi_X5_drop : Cond.instanceMethod yX5_drop ∈ fw_LW := fw_t2 169 (by decide +kernel) (by decide +kernel)
theorem wv_X5_drop : Cond.selects RX5 yX5_drop yX5_drop ∈ fw_LW := fw_t2 170 (by decide +kernel) (by decide +kernel)
theorem wc_X5_run : Cond.code yX5_run cX5_run 3 ((Option.some Jvm.ClassFile.FieldType.int)) ∈ fw_LW := fw_t2 186 rfl (by decide +kernel)
theorem wi_X5_run : Cond.instanceMethod yX5_run ∈ fw_LW := fw_t2 184 (by decide +kernel) (by decide +kernel)
theorem wv_X5_run : Cond.selects RX5 yX5_run yX5_run ∈ fw_LW := fw_t2 185 (by decide +kernel) (by decide +kernel)
theorem wc_X5_value : Cond.code yX5_value cX5_value 2 ((Option.some Jvm.ClassFile.FieldType.int)) ∈ fw_LW := fw_t3 55 rfl (by decide +kernel)
theorem wi_X5_value : Cond.instanceMethod yX5_value ∈ fw_LW := fw_t3 53 (by decide +kernel) (by decide +kernel)
theorem wv_X5_value : Cond.selects RX5 yX5_value yX5_value ∈ fw_LW := fw_t3 54 (by decide +kernel) (by decide +kernel)
theorem wc_X5_courier : Cond.code yX5_courier cX5_courier 4 ((Option.some Jvm.ClassFile.FieldType.int)) ∈ fw_LW := fw_t3 67 rfl (by decide +kernel)
theorem wi_X5_courier : Cond.instanceMethod yX5_courier ∈ fw_LW := fw_t3 65 (by decide +kernel) (by decide +kernel)
theorem wv_X5_courier : Cond.selects RX5 yX5_courier yX5_courier ∈ fw_LW := fw_t3 66 (by decide +kernel) (by decide +kernel)
theorem wc_X5_parcel : Cond.code yX5_parcel cX5_parcel 4 ((Option.some Jvm.ClassFile.FieldType.int)) ∈ fw_LW := fw_t3 86 rfl (by decide +kernel)
theorem wi_X5_parcel : Cond.instanceMethod yX5_parcel ∈ fw_LW := fw_t3 84 (by decide +kernel) (by decide +kernel)
theorem wv_X5_parcel : Cond.selects RX5 yX5_parcel yX5_parcel ∈ fw_LW := fw_t3 85 (by decide +kernel) (by decide +kernel)
theorem wc_X5_legs : Cond.code yX5_legs cX5_legs 5 ((Option.some Jvm.ClassFile.FieldType.int)) ∈ fw_LW := fw_t3 101 rfl (by decide +kernel)
theorem wi_X5_legs : Cond.instanceMethod yX5_legs ∈ fw_LW := fw_t3 99 (by decide +kernel) (by decide +kernel)
theorem wv_X5_legs : Cond.selects RX5 yX5_legs yX5_legs ∈ fw_LW := fw_t3 100 (by decide +kernel) (by decide +kernel)
theorem wc_X5_distance : Cond.code yX5_distance cX5_distance 3 ((Option.some Jvm.ClassFile.FieldType.int)) ∈ fw_LW := fw_t3 110 rfl (by decide +kernel)
theorem wi_X5_distance : Cond.instanceMethod yX5_distance ∈ fw_LW := fw_t3 108 (by decide +kernel) (by decide +kernel)
theorem wv_X5_distance : Cond.selects RX5 yX5_distance yX5_distance ∈ fw_LW := fw_t3 109 (by decide +kernel) (by decide +kernel)
theorem wc_X5_isZone : Cond.code yX5_isZone cX5_isZone 1 ((Option.some Jvm.ClassFile.FieldType.boolean)) ∈ fw_LW := fw_t1 219 rfl (by decide +kernel)
theorem ws_X5_isZone : Cond.static yX5_isZone ∈ fw_LW := fw_t1 218 (by decide +kernel) (by decide +kernel)
theorem wc_X5_isArea : Cond.code yX5_isArea cX5_isArea 1 ((Option.some Jvm.ClassFile.FieldType.boolean)) ∈ fw_LW := fw_t1 215 rfl (by decide +kernel)
theorem ws_X5_isArea : Cond.static yX5_isArea ∈ fw_LW := fw_t1 214 (by decide +kernel) (by decide +kernel)
theorem wc_X5_isCutOff : Cond.code yX5_isCutOff cX5_isCutOff 1 ((Option.some Jvm.ClassFile.FieldType.boolean)) ∈ fw_LW := fw_t2 146 rfl (by decide +kernel)
theorem ws_X5_isCutOff : Cond.static yX5_isCutOff ∈ fw_LW := fw_t2 145 (by decide +kernel) (by decide +kernel)
theorem wc_X5_isTip : Cond.code yX5_isTip cX5_isTip 1 ((Option.some Jvm.ClassFile.FieldType.boolean)) ∈ fw_LW := fw_t2 149 rfl (by decide +kernel)
theorem ws_X5_isTip : Cond.static yX5_isTip ∈ fw_LW := fw_t2 148 (by decide +kernel) (by decide +kernel)
theorem wc_X5_isTicks : Cond.code yX5_isTicks cX5_isTicks 1 ((Option.some Jvm.ClassFile.FieldType.boolean)) ∈ fw_LW := fw_t2 189 rfl (by decide +kernel)
theorem ws_X5_isTicks : Cond.static yX5_isTicks ∈ fw_LW := fw_t2 188 (by decide +kernel) (by decide +kernel)
theorem wc_X5_holds : Cond.code yX5_holds cX5_holds 2 ((Option.some Jvm.ClassFile.FieldType.boolean)) ∈ fw_LW := fw_t2 211 rfl (by decide +kernel)
theorem ws_X5_holds : Cond.static yX5_holds ∈ fw_LW := fw_t2 210 (by decide +kernel) (by decide +kernel)
theorem wc_X5_nextZone : Cond.code yX5_nextZone cX5_nextZone 4 ((Option.some Jvm.ClassFile.FieldType.int)) ∈ fw_LW := fw_t2 208 rfl (by decide +kernel)
theorem ws_X5_nextZone : Cond.static yX5_nextZone ∈ fw_LW := fw_t2 207 (by decide +kernel) (by decide +kernel)
theorem wc_X5_at : Cond.code yX5_at cX5_at 2 ((Option.some Jvm.ClassFile.FieldType.int)) ∈ fw_LW := fw_t2 237 rfl (by decide +kernel)
theorem ws_X5_at : Cond.static yX5_at ∈ fw_LW := fw_t2 236 (by decide +kernel) (by decide +kernel)
theorem wc_X5_sum : Cond.code yX5_sum cX5_sum 3 ((Option.some Jvm.ClassFile.FieldType.int)) ∈ fw_LW := fw_t2 226 rfl (by decide +kernel)
theorem ws_X5_sum : Cond.static yX5_sum ∈ fw_LW := fw_t2 225 (by decide +kernel) (by decide +kernel)
theorem wc_X5_copyRow : Cond.code yX5_copyRow cX5_copyRow 2 ((Option.none : Option Jvm.ClassFile.FieldType)) ∈ fw_LW := fw_t2 88 rfl (by decide +kernel)
theorem ws_X5_copyRow : Cond.static yX5_copyRow ∈ fw_LW := fw_t2 87 (by decide +kernel) (by decide +kernel)
theorem wc_J9_abs_0f7a4 : Cond.code yJ9_abs_0f7a4 cJ9_abs_0f7a4 1 ((Option.some Jvm.ClassFile.FieldType.int)) ∈ fw_LW := fw_t3 113 rfl (by decide +kernel)
theorem ws_J9_abs_0f7a4 : Cond.static yJ9_abs_0f7a4 ∈ fw_LW := fw_t3 112 (by decide +kernel) (by decide +kernel)
theorem wc_J9_min_7cf53 : Cond.code yJ9_min_7cf53 cJ9_min_7cf53 2 ((Option.some Jvm.ClassFile.FieldType.int)) ∈ fw_LW := fw_t2 91 rfl (by decide +kernel)
theorem ws_J9_min_7cf53 : Cond.static yJ9_min_7cf53 ∈ fw_LW := fw_t2 90 (by decide +kernel) (by decide +kernel)
theorem wc_L_cell : Cond.code yL_cell cL_cell 2 ((Option.some Jvm.ClassFile.FieldType.int)) ∈ fw_LW := fw_t1 190 rfl (by decide +kernel)
theorem ws_L_cell : Cond.static yL_cell ∈ fw_LW := fw_t1 189 (by decide +kernel) (by decide +kernel)
theorem wc_L_low : Cond.code yL_low cL_low 2 ((Option.some Jvm.ClassFile.FieldType.int)) ∈ fw_LW := fw_t1 194 rfl (by decide +kernel)
theorem ws_L_low : Cond.static yL_low ∈ fw_LW := fw_t1 193 (by decide +kernel) (by decide +kernel)
theorem wc_L_towards : Cond.code yL_towards cL_towards 4 ((Option.some Jvm.ClassFile.FieldType.int)) ∈ fw_LW := fw_t3 39 rfl (by decide +kernel)
theorem ws_L_towards : Cond.static yL_towards ∈ fw_LW := fw_t3 38 (by decide +kernel) (by decide +kernel)
theorem wc_L_has : Cond.code yL_has cL_has 2 ((Option.some Jvm.ClassFile.FieldType.boolean)) ∈ fw_LW := fw_t3 42 rfl (by decide +kernel)
theorem ws_L_has : Cond.static yL_has ∈ fw_LW := fw_t3 41 (by decide +kernel) (by decide +kernel)
theorem wc_L_suits : Cond.code yL_suits cL_suits 4 ((Option.some Jvm.ClassFile.FieldType.boolean)) ∈ fw_LW := fw_t3 48 rfl (by decide +kernel)
theorem ws_L_suits : Cond.static yL_suits ∈ fw_LW := fw_t3 47 (by decide +kernel) (by decide +kernel)
theorem wc_L_pays : Cond.code yL_pays cL_pays 14 ((Option.none : Option Jvm.ClassFile.FieldType)) ∈ fw_LW := fw_t3 45 rfl (by decide +kernel)
theorem ws_L_pays : Cond.static yL_pays ∈ fw_LW := fw_t3 44 (by decide +kernel) (by decide +kernel)
theorem wc_L_free : Cond.code yL_free cL_free 2 ((Option.none : Option Jvm.ClassFile.FieldType)) ∈ fw_LW := fw_t2 111 rfl (by decide +kernel)
theorem ws_L_free : Cond.static yL_free ∈ fw_LW := fw_t2 110 (by decide +kernel) (by decide +kernel)
theorem wc_L_does : Cond.code yL_does cL_does 12 ((Option.none : Option Jvm.ClassFile.FieldType)) ∈ fw_LW := fw_t3 36 rfl (by decide +kernel)
theorem ws_L_does : Cond.static yL_does ∈ fw_LW := fw_t3 35 (by decide +kernel) (by decide +kernel)
theorem wc_L_ticks : Cond.code yL_ticks cL_ticks 10 ((Option.none : Option Jvm.ClassFile.FieldType)) ∈ fw_LW := fw_t3 33 rfl (by decide +kernel)
theorem ws_L_ticks : Cond.static yL_ticks ∈ fw_LW := fw_t3 32 (by decide +kernel) (by decide +kernel)
theorem wc_L_drops : Cond.code yL_drops cL_drops 4 ((Option.some Jvm.ClassFile.FieldType.int)) ∈ fw_LW := fw_t2 179 rfl (by decide +kernel)
theorem ws_L_drops : Cond.static yL_drops ∈ fw_LW := fw_t2 178 (by decide +kernel) (by decide +kernel)
theorem wc_L_delivered : Cond.code yL_delivered cL_delivered 4 ((Option.some Jvm.ClassFile.FieldType.int)) ∈ fw_LW := fw_t3 30 rfl (by decide +kernel)
theorem ws_L_delivered : Cond.static yL_delivered ∈ fw_LW := fw_t3 29 (by decide +kernel) (by decide +kernel)
theorem wc_L_area : Cond.code yL_area cL_area 3 ((Option.some Jvm.ClassFile.FieldType.int)) ∈ fw_LW := fw_t1 202 rfl (by decide +kernel)
theorem ws_L_area : Cond.static yL_area ∈ fw_LW := fw_t1 201 (by decide +kernel) (by decide +kernel)
theorem wc_L_acts : Cond.code yL_acts cL_acts 16 ((Option.some Jvm.ClassFile.FieldType.boolean)) ∈ fw_LW := fw_t1 198 rfl (by decide +kernel)
theorem ws_L_acts : Cond.static yL_acts ∈ fw_LW := fw_t1 197 (by decide +kernel) (by decide +kernel)
theorem ws_L_adds : Cond.static yL_adds ∈ fw_LW := fw_t1 205 (by decide +kernel) (by decide +kernel)
theorem ws_L_areas : Cond.static yL_areas ∈ fw_LW := fw_t2 113 (by decide +kernel) (by decide +kernel)
theorem ws_L_gives : Cond.static yL_gives ∈ fw_LW := fw_t2 138 (by decide +kernel) (by decide +kernel)
theorem ws_L_graces : Cond.static yL_graces ∈ fw_LW := fw_t2 159 (by decide +kernel) (by decide +kernel)
theorem ws_L_dropsOf : Cond.static yL_dropsOf ∈ fw_LW := fw_t2 166 (by decide +kernel) (by decide +kernel)
theorem ws_L_runs : Cond.static yL_runs ∈ fw_LW := fw_t2 181 (by decide +kernel) (by decide +kernel)
theorem ws_L_valueOf : Cond.static yL_valueOf ∈ fw_LW := fw_t3 50 (by decide +kernel) (by decide +kernel)
theorem ws_L_courierOf : Cond.static yL_courierOf ∈ fw_LW := fw_t3 62 (by decide +kernel) (by decide +kernel)
theorem ws_L_parcelOf : Cond.static yL_parcelOf ∈ fw_LW := fw_t3 81 (by decide +kernel) (by decide +kernel)
theorem ws_L_legsOf : Cond.static yL_legsOf ∈ fw_LW := fw_t3 96 (by decide +kernel) (by decide +kernel)
theorem ws_L_farOf : Cond.static yL_farOf ∈ fw_LW := fw_t3 105 (by decide +kernel) (by decide +kernel)
theorem wc_L_isSo : Cond.code yL_isSo cL_isSo 16 ((Option.some Jvm.ClassFile.FieldType.boolean)) ∈ fw_LW := fw_t3 94 rfl (by decide +kernel)
theorem ws_L_isSo : Cond.static yL_isSo ∈ fw_LW := fw_t3 93 (by decide +kernel) (by decide +kernel)
theorem wl_X5_9 : Cond.methodLink RX5 9 yX1_init ∈ fw_LW := fw_t1 25 (by decide +kernel) (by decide +kernel)
theorem wl_X5_21 : Cond.methodLink RX5 21 yX2_init ∈ fw_LW := fw_t1 139 (by decide +kernel) (by decide +kernel)
theorem wl_X5_33 : Cond.methodLink RX5 33 yX5_isArea ∈ fw_LW := fw_t1 213 (by decide +kernel) (by decide +kernel)
theorem wl_X5_37 : Cond.methodLink RX5 37 yX5_isZone ∈ fw_LW := fw_t1 217 (by decide +kernel) (by decide +kernel)
theorem wl_X5_50 : Cond.methodLink RX5 50 yX2_save ∈ fw_LW := fw_t2 58 (by decide +kernel) (by decide +kernel)
theorem wl_X5_54 : Cond.methodLink RX5 54 yX1_join ∈ fw_LW := fw_t2 95 (by decide +kernel) (by decide +kernel)
theorem wl_X5_58 : Cond.methodLink RX5 58 yX1_courierAt ∈ fw_LW := fw_t2 120 (by decide +kernel) (by decide +kernel)
theorem wl_X5_70 : Cond.methodLink RX5 70 yX5_isCutOff ∈ fw_LW := fw_t2 144 (by decide +kernel) (by decide +kernel)
theorem wl_X5_73 : Cond.methodLink RX5 73 yX5_isTip ∈ fw_LW := fw_t2 147 (by decide +kernel) (by decide +kernel)
theorem wl_X5_79 : Cond.methodLink RX5 79 yX1_accept ∈ fw_LW := fw_t2 150 (by decide +kernel) (by decide +kernel)
theorem wl_X5_89 : Cond.methodLink RX5 89 yX1_release ∈ fw_LW := fw_t2 172 (by decide +kernel) (by decide +kernel)
theorem wl_X5_93 : Cond.methodLink RX5 93 yX5_isTicks ∈ fw_LW := fw_t2 187 (by decide +kernel) (by decide +kernel)
theorem wl_X5_99 : Cond.methodLink RX5 99 yX1_parcelsIn ∈ fw_LW := fw_t2 190 (by decide +kernel) (by decide +kernel)
theorem wl_X5_103 : Cond.methodLink RX5 103 yX1_pass ∈ fw_LW := fw_t2 194 (by decide +kernel) (by decide +kernel)
theorem wl_X5_106 : Cond.methodLink RX5 106 yX1_figure ∈ fw_LW := fw_t3 56 (by decide +kernel) (by decide +kernel)
theorem wl_X5_109 : Cond.methodLink RX5 109 yX1_courierFigure ∈ fw_LW := fw_t3 68 (by decide +kernel) (by decide +kernel)
theorem wl_X5_113 : Cond.methodLink RX5 113 yX1_parcelAt ∈ fw_LW := fw_t3 87 (by decide +kernel) (by decide +kernel)
theorem wl_X5_117 : Cond.methodLink RX5 117 yX3_figure ∈ fw_LW := fw_t3 88 (by decide +kernel) (by decide +kernel)
theorem wl_X5_120 : Cond.methodLink RX5 120 yX3_shareOf ∈ fw_LW := fw_t3 102 (by decide +kernel) (by decide +kernel)
theorem wl_X5_123 : Cond.methodLink RX5 123 yX3_legsOf ∈ fw_LW := fw_t3 103 (by decide +kernel) (by decide +kernel)
theorem wl_X5_126 : Cond.methodLink RX5 126 yJ9_abs_0f7a4 ∈ fw_LW := fw_t3 111 (by decide +kernel) (by decide +kernel)
theorem wl_X5_208 : Cond.methodLink RX5 208 yJ9_min_7cf53 ∈ fw_LW := fw_t2 89 (by decide +kernel) (by decide +kernel)
theorem wl_X0_24 : Cond.methodLink RX0 24 yX0_setFree ∈ fw_LW := fw_t2 103 (by decide +kernel) (by decide +kernel)
theorem wl_X1_27 : Cond.methodLink RX1 27 yX0_init ∈ fw_LW := fw_t1 34 (by decide +kernel) (by decide +kernel)
theorem wl_X1_47 : Cond.methodLink RX1 47 yX1_courierAt ∈ fw_LW := fw_t2 70 (by decide +kernel) (by decide +kernel)
theorem wl_X1_51 : Cond.methodLink RX1 51 yX0_become ∈ fw_LW := fw_t2 74 (by decide +kernel) (by decide +kernel)
theorem wl_X1_55 : Cond.methodLink RX1 55 yX1_parcelAt ∈ fw_LW := fw_t2 78 (by decide +kernel) (by decide +kernel)
theorem wl_X1_59 : Cond.methodLink RX1 59 yX3_become ∈ fw_LW := fw_t2 82 (by decide +kernel) (by decide +kernel)
theorem wl_X1_62 : Cond.methodLink RX1 62 yX0_begin ∈ fw_LW := fw_t2 99 (by decide +kernel) (by decide +kernel)
theorem wl_X1_66 : Cond.methodLink RX1 66 yX3_begin ∈ fw_LW := fw_t2 154 (by decide +kernel) (by decide +kernel)
theorem wl_X1_75 : Cond.methodLink RX1 75 yX0_setFree ∈ fw_LW := fw_t2 176 (by decide +kernel) (by decide +kernel)
theorem wl_X1_84 : Cond.methodLink RX1 84 yX1_tick ∈ fw_LW := fw_t2 198 (by decide +kernel) (by decide +kernel)
theorem wl_X1_88 : Cond.methodLink RX1 88 yX1_parcelsIn ∈ fw_LW := fw_t3 60 (by decide +kernel) (by decide +kernel)
theorem wl_X1_95 : Cond.methodLink RX1 95 yX1_carry ∈ fw_LW := fw_t2 202 (by decide +kernel) (by decide +kernel)
theorem wl_X1_99 : Cond.methodLink RX1 99 yX1_approach ∈ fw_LW := fw_t2 238 (by decide +kernel) (by decide +kernel)
theorem wl_X1_103 : Cond.methodLink RX1 103 yX1_choose ∈ fw_LW := fw_t3 2 (by decide +kernel) (by decide +kernel)
theorem wl_X1_106 : Cond.methodLink RX1 106 yX1_failLateParcels ∈ fw_LW := fw_t3 16 (by decide +kernel) (by decide +kernel)
theorem wl_X1_124 : Cond.methodLink RX1 124 yX3_addLeg ∈ fw_LW := fw_t2 212 (by decide +kernel) (by decide +kernel)
theorem wl_X1_128 : Cond.methodLink RX1 128 yX1_deliver ∈ fw_LW := fw_t2 216 (by decide +kernel) (by decide +kernel)
theorem wl_X1_141 : Cond.methodLink RX1 141 yX3_sharePaid ∈ fw_LW := fw_t2 220 (by decide +kernel) (by decide +kernel)
theorem wl_X1_147 : Cond.methodLink RX1 147 yX3_shareOf ∈ fw_LW := fw_t2 231 (by decide +kernel) (by decide +kernel)
theorem wl_X1_150 : Cond.methodLink RX1 150 yX3_suits ∈ fw_LW := fw_t3 6 (by decide +kernel) (by decide +kernel)
theorem wl_X1_154 : Cond.methodLink RX1 154 yX1_isSought ∈ fw_LW := fw_t3 12 (by decide +kernel) (by decide +kernel)
theorem wl_X1_157 : Cond.methodLink RX1 157 yX3_isOpen ∈ fw_LW := fw_t3 20 (by decide +kernel) (by decide +kernel)
theorem wl_X1_161 : Cond.methodLink RX1 161 yX1_freeCouriersOf ∈ fw_LW := fw_t3 24 (by decide +kernel) (by decide +kernel)
theorem wl_X1_167 : Cond.methodLink RX1 167 yX3_legsOf ∈ fw_LW := fw_t3 76 (by decide +kernel) (by decide +kernel)
theorem wl_X1_170 : Cond.methodLink RX1 170 yX1_legsBy ∈ fw_LW := fw_t3 72 (by decide +kernel) (by decide +kernel)
theorem wl_X2_17 : Cond.methodLink RX2 17 yX1_init ∈ fw_LW := fw_t1 145 (by decide +kernel) (by decide +kernel)
theorem wl_X2_25 : Cond.methodLink RX2 25 yX2_stateAt ∈ fw_LW := fw_t2 62 (by decide +kernel) (by decide +kernel)
theorem wl_X2_29 : Cond.methodLink RX2 29 yX1_become ∈ fw_LW := fw_t2 66 (by decide +kernel) (by decide +kernel)
theorem wl_X3_63 : Cond.methodLink RX3 63 yX3_rankOf ∈ fw_LW := fw_t2 227 (by decide +kernel) (by decide +kernel)
theorem wl_L_9 : Cond.methodLink RL 9 yL_has ∈ fw_LW := fw_t3 40 (by decide +kernel) (by decide +kernel)
theorem wl_L_15 : Cond.methodLink RL 15 yL_towards ∈ fw_LW := fw_t3 37 (by decide +kernel) (by decide +kernel)
theorem wl_L_19 : Cond.methodLink RL 19 yL_free ∈ fw_LW := fw_t2 109 (by decide +kernel) (by decide +kernel)
theorem wl_L_23 : Cond.methodLink RL 23 yL_pays ∈ fw_LW := fw_t3 43 (by decide +kernel) (by decide +kernel)
theorem wl_L_27 : Cond.methodLink RL 27 yL_suits ∈ fw_LW := fw_t3 46 (by decide +kernel) (by decide +kernel)
theorem wl_L_31 : Cond.methodLink RL 31 yL_does ∈ fw_LW := fw_t3 34 (by decide +kernel) (by decide +kernel)
theorem wl_L_36 : Cond.methodLink RL 36 yL_low ∈ fw_LW := fw_t1 192 (by decide +kernel) (by decide +kernel)
theorem wl_L_39 : Cond.methodLink RL 39 yL_area ∈ fw_LW := fw_t1 200 (by decide +kernel) (by decide +kernel)
theorem wl_L_43 : Cond.methodLink RL 43 yL_adds ∈ fw_LW := fw_t1 204 (by decide +kernel) (by decide +kernel)
theorem wl_L_48 : Cond.methodLink RL 48 yL_areas ∈ fw_LW := fw_t2 112 (by decide +kernel) (by decide +kernel)
theorem wl_L_52 : Cond.methodLink RL 52 yL_gives ∈ fw_LW := fw_t2 137 (by decide +kernel) (by decide +kernel)
theorem wl_L_57 : Cond.methodLink RL 57 yL_graces ∈ fw_LW := fw_t2 158 (by decide +kernel) (by decide +kernel)
theorem wl_L_61 : Cond.methodLink RL 61 yL_dropsOf ∈ fw_LW := fw_t2 165 (by decide +kernel) (by decide +kernel)
theorem wl_L_64 : Cond.methodLink RL 64 yL_drops ∈ fw_LW := fw_t2 177 (by decide +kernel) (by decide +kernel)
theorem wl_L_68 : Cond.methodLink RL 68 yL_runs ∈ fw_LW := fw_t2 180 (by decide +kernel) (by decide +kernel)
theorem wl_L_71 : Cond.methodLink RL 71 yL_delivered ∈ fw_LW := fw_t3 28 (by decide +kernel) (by decide +kernel)
theorem wl_L_75 : Cond.methodLink RL 75 yL_ticks ∈ fw_LW := fw_t3 31 (by decide +kernel) (by decide +kernel)
theorem wl_L_78 : Cond.methodLink RL 78 yX5_addCourier ∈ fw_LW := fw_t1 209 (by decide +kernel) (by decide +kernel)
theorem wl_L_87 : Cond.methodLink RL 87 yX5_setArea ∈ fw_LW := fw_t2 116 (by decide +kernel) (by decide +kernel)
theorem wl_L_92 : Cond.methodLink RL 92 yX5_give ∈ fw_LW := fw_t2 140 (by decide +kernel) (by decide +kernel)
theorem wl_L_96 : Cond.methodLink RL 96 yX5_setGrace ∈ fw_LW := fw_t2 161 (by decide +kernel) (by decide +kernel)
theorem wl_L_99 : Cond.methodLink RL 99 yX5_drop ∈ fw_LW := fw_t2 168 (by decide +kernel) (by decide +kernel)
theorem wl_L_102 : Cond.methodLink RL 102 yX5_run ∈ fw_LW := fw_t2 183 (by decide +kernel) (by decide +kernel)
theorem wl_L_105 : Cond.methodLink RL 105 yX5_value ∈ fw_LW := fw_t3 52 (by decide +kernel) (by decide +kernel)
theorem wl_L_108 : Cond.methodLink RL 108 yX5_courier ∈ fw_LW := fw_t3 64 (by decide +kernel) (by decide +kernel)
theorem wl_L_111 : Cond.methodLink RL 111 yX5_parcel ∈ fw_LW := fw_t3 83 (by decide +kernel) (by decide +kernel)
theorem wl_L_114 : Cond.methodLink RL 114 yX5_legs ∈ fw_LW := fw_t3 98 (by decide +kernel) (by decide +kernel)
theorem wl_L_118 : Cond.methodLink RL 118 yX5_distance ∈ fw_LW := fw_t3 107 (by decide +kernel) (by decide +kernel)
theorem wl_L_121 : Cond.methodLink RL 121 yL_valueOf ∈ fw_LW := fw_t3 49 (by decide +kernel) (by decide +kernel)
theorem wl_L_124 : Cond.methodLink RL 124 yL_courierOf ∈ fw_LW := fw_t3 61 (by decide +kernel) (by decide +kernel)
theorem wl_L_127 : Cond.methodLink RL 127 yL_parcelOf ∈ fw_LW := fw_t3 80 (by decide +kernel) (by decide +kernel)
theorem wl_L_130 : Cond.methodLink RL 130 yL_legsOf ∈ fw_LW := fw_t3 95 (by decide +kernel) (by decide +kernel)
theorem wl_L_134 : Cond.methodLink RL 134 yL_farOf ∈ fw_LW := fw_t3 104 (by decide +kernel) (by decide +kernel)
theorem wl_L_137 : Cond.methodLink RL 137 yX5_init ∈ fw_LW := fw_t1 17 (by decide +kernel) (by decide +kernel)
theorem wl_L_138 : Cond.methodLink RL 138 yL_isSo ∈ fw_LW := fw_t3 92 (by decide +kernel) (by decide +kernel)
theorem wl_L_142 : Cond.methodLink RL 142 yL_cell ∈ fw_LW := fw_t1 188 (by decide +kernel) (by decide +kernel)
theorem wl_L_146 : Cond.methodLink RL 146 yL_acts ∈ fw_LW := fw_t1 196 (by decide +kernel) (by decide +kernel)
theorem wf_X5_10 : Cond.fieldLink RX5 10 "CourierRelay" "now" "LCourierRelay$Exchange;" ∈ fw_LW := fw_t1 175 (by decide +kernel) (by decide +kernel)
theorem wf_X5_16 : Cond.fieldLink RX5 16 "CourierRelay" "trial" "LCourierRelay$Exchange;" ∈ fw_LW := fw_t1 176 (by decide +kernel) (by decide +kernel)
theorem wf_X5_22 : Cond.fieldLink RX5 22 "CourierRelay" "history" "LCourierRelay$History;" ∈ fw_LW := fw_t1 177 (by decide +kernel) (by decide +kernel)
theorem wf_X5_29 : Cond.fieldLink RX5 29 "CourierRelay" "text" "LCourierRelay$ParcelText;" ∈ fw_LW := fw_t1 178 (by decide +kernel) (by decide +kernel)
theorem wf_X5_43 : Cond.fieldLink RX5 43 "CourierRelay$Exchange" "courierCount" "I" ∈ fw_LW := fw_t1 110 (by decide +kernel) (by decide +kernel)
theorem wf_X5_65 : Cond.fieldLink RX5 65 "CourierRelay$Courier" "area" "I" ∈ fw_LW := fw_t1 39 (by decide +kernel) (by decide +kernel)
theorem wf_X5_76 : Cond.fieldLink RX5 76 "CourierRelay$Exchange" "parcelCount" "I" ∈ fw_LW := fw_t1 112 (by decide +kernel) (by decide +kernel)
theorem wf_X5_83 : Cond.fieldLink RX5 83 "CourierRelay$Exchange" "grace" "I" ∈ fw_LW := fw_t1 108 (by decide +kernel) (by decide +kernel)
theorem wf_X5_86 : Cond.fieldLink RX5 86 "CourierRelay$Courier" "parcel" "I" ∈ fw_LW := fw_t1 48 (by decide +kernel) (by decide +kernel)
theorem wf_X5_96 : Cond.fieldLink RX5 96 "CourierRelay$Exchange" "time" "I" ∈ fw_LW := fw_t1 106 (by decide +kernel) (by decide +kernel)
theorem wf_X0_9 : Cond.fieldLink RX0 9 "CourierRelay$Courier" "parcel" "I" ∈ fw_LW := fw_t1 47 (by decide +kernel) (by decide +kernel)
theorem wf_X0_15 : Cond.fieldLink RX0 15 "CourierRelay$Courier" "area" "I" ∈ fw_LW := fw_t1 38 (by decide +kernel) (by decide +kernel)
theorem wf_X0_18 : Cond.fieldLink RX0 18 "CourierRelay$Courier" "zone" "I" ∈ fw_LW := fw_t1 41 (by decide +kernel) (by decide +kernel)
theorem wf_X0_21 : Cond.fieldLink RX0 21 "CourierRelay$Courier" "tips" "I" ∈ fw_LW := fw_t1 43 (by decide +kernel) (by decide +kernel)
theorem wf_X0_27 : Cond.fieldLink RX0 27 "CourierRelay$Courier" "doing" "I" ∈ fw_LW := fw_t1 45 (by decide +kernel) (by decide +kernel)
theorem wf_X1_11 : Cond.fieldLink RX1 11 "CourierRelay$Exchange" "couriers" "[LCourierRelay$Courier;" ∈ fw_LW := fw_t1 116 (by decide +kernel) (by decide +kernel)
theorem wf_X1_19 : Cond.fieldLink RX1 19 "CourierRelay$Exchange" "parcels" "[LCourierRelay$Parcel;" ∈ fw_LW := fw_t1 117 (by decide +kernel) (by decide +kernel)
theorem wf_X1_23 : Cond.fieldLink RX1 23 "CourierRelay$Exchange" "grace" "I" ∈ fw_LW := fw_t1 107 (by decide +kernel) (by decide +kernel)
theorem wf_X1_29 : Cond.fieldLink RX1 29 "CourierRelay$Exchange" "time" "I" ∈ fw_LW := fw_t1 105 (by decide +kernel) (by decide +kernel)
theorem wf_X1_32 : Cond.fieldLink RX1 32 "CourierRelay$Exchange" "courierCount" "I" ∈ fw_LW := fw_t1 109 (by decide +kernel) (by decide +kernel)
theorem wf_X1_35 : Cond.fieldLink RX1 35 "CourierRelay$Exchange" "parcelCount" "I" ∈ fw_LW := fw_t1 111 (by decide +kernel) (by decide +kernel)
theorem wf_X1_38 : Cond.fieldLink RX1 38 "CourierRelay$Exchange" "paid" "I" ∈ fw_LW := fw_t1 113 (by decide +kernel) (by decide +kernel)
theorem wf_X1_41 : Cond.fieldLink RX1 41 "CourierRelay$Exchange" "handovers" "I" ∈ fw_LW := fw_t1 114 (by decide +kernel) (by decide +kernel)
theorem wf_X1_44 : Cond.fieldLink RX1 44 "CourierRelay$Exchange" "moves" "I" ∈ fw_LW := fw_t1 115 (by decide +kernel) (by decide +kernel)
theorem wf_X1_69 : Cond.fieldLink RX1 69 "CourierRelay$Courier" "parcel" "I" ∈ fw_LW := fw_t1 49 (by decide +kernel) (by decide +kernel)
theorem wf_X1_72 : Cond.fieldLink RX1 72 "CourierRelay$Parcel" "state" "I" ∈ fw_LW := fw_t1 74 (by decide +kernel) (by decide +kernel)
theorem wf_X1_78 : Cond.fieldLink RX1 78 "CourierRelay$Courier" "area" "I" ∈ fw_LW := fw_t1 40 (by decide +kernel) (by decide +kernel)
theorem wf_X1_92 : Cond.fieldLink RX1 92 "CourierRelay$Courier" "doing" "I" ∈ fw_LW := fw_t1 46 (by decide +kernel) (by decide +kernel)
theorem wf_X1_109 : Cond.fieldLink RX1 109 "CourierRelay$Courier" "zone" "I" ∈ fw_LW := fw_t1 42 (by decide +kernel) (by decide +kernel)
theorem wf_X1_112 : Cond.fieldLink RX1 112 "CourierRelay$Parcel" "destination" "I" ∈ fw_LW := fw_t1 68 (by decide +kernel) (by decide +kernel)
theorem wf_X1_123 : Cond.fieldLink RX1 123 "CourierRelay$Parcel" "zone" "I" ∈ fw_LW := fw_t1 76 (by decide +kernel) (by decide +kernel)
theorem wf_X1_131 : Cond.fieldLink RX1 131 "CourierRelay$Parcel" "deliveredAt" "I" ∈ fw_LW := fw_t1 78 (by decide +kernel) (by decide +kernel)
theorem wf_X1_134 : Cond.fieldLink RX1 134 "CourierRelay$Parcel" "cutOff" "I" ∈ fw_LW := fw_t1 70 (by decide +kernel) (by decide +kernel)
theorem wf_X1_137 : Cond.fieldLink RX1 137 "CourierRelay$Parcel" "tip" "I" ∈ fw_LW := fw_t1 72 (by decide +kernel) (by decide +kernel)
theorem wf_X1_140 : Cond.fieldLink RX1 140 "CourierRelay$Parcel" "paid" "I" ∈ fw_LW := fw_t1 80 (by decide +kernel) (by decide +kernel)
theorem wf_X1_144 : Cond.fieldLink RX1 144 "CourierRelay$Courier" "tips" "I" ∈ fw_LW := fw_t1 44 (by decide +kernel) (by decide +kernel)
theorem wf_X2_11 : Cond.fieldLink RX2 11 "CourierRelay$History" "states" "[LCourierRelay$Exchange;" ∈ fw_LW := fw_t1 146 (by decide +kernel) (by decide +kernel)
theorem wf_X2_18 : Cond.fieldLink RX2 18 "CourierRelay$History" "oldest" "I" ∈ fw_LW := fw_t1 147 (by decide +kernel) (by decide +kernel)
theorem wf_X2_22 : Cond.fieldLink RX2 22 "CourierRelay$History" "count" "I" ∈ fw_LW := fw_t1 148 (by decide +kernel) (by decide +kernel)
theorem wf_X3_9 : Cond.fieldLink RX3 9 "CourierRelay$Parcel" "legs" "[I" ∈ fw_LW := fw_t1 81 (by decide +kernel) (by decide +kernel)
theorem wf_X3_15 : Cond.fieldLink RX3 15 "CourierRelay$Parcel" "shares" "[I" ∈ fw_LW := fw_t1 82 (by decide +kernel) (by decide +kernel)
theorem wf_X3_18 : Cond.fieldLink RX3 18 "CourierRelay$Parcel" "origin" "I" ∈ fw_LW := fw_t1 66 (by decide +kernel) (by decide +kernel)
theorem wf_X3_22 : Cond.fieldLink RX3 22 "CourierRelay$Parcel" "destination" "I" ∈ fw_LW := fw_t1 67 (by decide +kernel) (by decide +kernel)
theorem wf_X3_25 : Cond.fieldLink RX3 25 "CourierRelay$Parcel" "cutOff" "I" ∈ fw_LW := fw_t1 69 (by decide +kernel) (by decide +kernel)
theorem wf_X3_28 : Cond.fieldLink RX3 28 "CourierRelay$Parcel" "tip" "I" ∈ fw_LW := fw_t1 71 (by decide +kernel) (by decide +kernel)
theorem wf_X3_31 : Cond.fieldLink RX3 31 "CourierRelay$Parcel" "state" "I" ∈ fw_LW := fw_t1 73 (by decide +kernel) (by decide +kernel)
theorem wf_X3_34 : Cond.fieldLink RX3 34 "CourierRelay$Parcel" "zone" "I" ∈ fw_LW := fw_t1 75 (by decide +kernel) (by decide +kernel)
theorem wf_X3_37 : Cond.fieldLink RX3 37 "CourierRelay$Parcel" "deliveredAt" "I" ∈ fw_LW := fw_t1 77 (by decide +kernel) (by decide +kernel)
theorem wf_X3_40 : Cond.fieldLink RX3 40 "CourierRelay$Parcel" "paid" "I" ∈ fw_LW := fw_t1 79 (by decide +kernel) (by decide +kernel)
theorem wf_X4_9 : Cond.fieldLink RX4 9 "CourierRelay$ParcelText" "bytes" "[I" ∈ fw_LW := fw_t1 162 (by decide +kernel) (by decide +kernel)
theorem wf_X4_15 : Cond.fieldLink RX4 15 "CourierRelay$ParcelText" "numbers" "[I" ∈ fw_LW := fw_t1 163 (by decide +kernel) (by decide +kernel)
theorem wk_X5_207 : Cond.constant RX5 207 (65535 : Int32) ∈ fw_LW := fw_t1 216 (by decide +kernel) (by decide +kernel)
theorem wk_L_7 : Cond.constant RL 7 (40503 : Int32) ∈ fw_LW := fw_t1 191 (by decide +kernel) (by decide +kernel)
theorem wk_L_8 : Cond.constant RL 8 (2147483647 : Int32) ∈ fw_LW := fw_t1 195 (by decide +kernel) (by decide +kernel)
theorem wk_L_34 : Cond.constant RL 34 (65535 : Int32) ∈ fw_LW := fw_t1 203 (by decide +kernel) (by decide +kernel)
theorem wk_L_35 : Cond.constant RL 35 (100000 : Int32) ∈ fw_LW := fw_t1 199 (by decide +kernel) (by decide +kernel)
theorem wk_L_47 : Cond.constant RL 47 (-100003 : Int32) ∈ fw_LW := fw_t2 108 (by decide +kernel) (by decide +kernel)
theorem wk_L_51 : Cond.constant RL 51 (-100001 : Int32) ∈ fw_LW := fw_t2 136 (by decide +kernel) (by decide +kernel)
theorem wk_L_56 : Cond.constant RL 56 (-100002 : Int32) ∈ fw_LW := fw_t2 107 (by decide +kernel) (by decide +kernel)
theorem wq_X5_7 : Cond.classLink RX5 7 "CourierRelay$Exchange" ∈ fw_LW := fw_t1 23 (by decide +kernel) (by decide +kernel)
theorem wq_X5_19 : Cond.classLink RX5 19 "CourierRelay$History" ∈ fw_LW := fw_t1 137 (by decide +kernel) (by decide +kernel)
theorem wq_X5_26 : Cond.classLink RX5 26 "CourierRelay$ParcelText" ∈ fw_LW := fw_t1 156 (by decide +kernel) (by decide +kernel)
theorem wq_X5_40 : Cond.classLink RX5 40 "java/lang/IllegalArgumentException" ∈ fw_LW := fw_t1 220 (by decide +kernel) (by decide +kernel)
theorem wq_X5_47 : Cond.classLink RX5 47 "java/lang/IllegalStateException" ∈ fw_LW := fw_t2 43 (by decide +kernel) (by decide +kernel)
theorem wq_X5_62 : Cond.classLink RX5 62 "java/lang/IndexOutOfBoundsException" ∈ fw_LW := fw_t2 121 (by decide +kernel) (by decide +kernel)
theorem wq_X1_9 : Cond.classLink RX1 9 "CourierRelay$Courier" ∈ fw_LW := fw_t1 29 (by decide +kernel) (by decide +kernel)
theorem wq_X1_17 : Cond.classLink RX1 17 "CourierRelay$Parcel" ∈ fw_LW := fw_t1 31 (by decide +kernel) (by decide +kernel)
theorem wq_X2_9 : Cond.classLink RX2 9 "CourierRelay$Exchange" ∈ fw_LW := fw_t1 143 (by decide +kernel) (by decide +kernel)
theorem wq_L_79 : Cond.classLink RL 79 "CourierRelay" ∈ fw_LW := fw_t1 15 (by decide +kernel) (by decide +kernel)
theorem wq_L_83 : Cond.classLink RL 83 "java/lang/IllegalArgumentException" ∈ fw_LW := fw_t1 207 (by decide +kernel) (by decide +kernel)
theorem wq_L_85 : Cond.classLink RL 85 "java/lang/IllegalStateException" ∈ fw_LW := fw_t1 208 (by decide +kernel) (by decide +kernel)
theorem wq_L_90 : Cond.classLink RL 90 "java/lang/IndexOutOfBoundsException" ∈ fw_LW := fw_t2 115 (by decide +kernel) (by decide +kernel)
theorem wz_IllegalArgumentException : Cond.initialized "java/lang/IllegalArgumentException" ∈ fw_LW := fw_t1 10 (by decide +kernel) (by decide +kernel)
theorem wz_IllegalStateException : Cond.initialized "java/lang/IllegalStateException" ∈ fw_LW := fw_t1 13 (by decide +kernel) (by decide +kernel)
theorem wz_IndexOutOfBoundsException : Cond.initialized "java/lang/IndexOutOfBoundsException" ∈ fw_LW := fw_t1 11 (by decide +kernel) (by decide +kernel)
theorem wz_Math : Cond.initialized "java/lang/Math" ∈ fw_LW := fw_t1 12 (by decide +kernel) (by decide +kernel)
theorem wz_System : Cond.initialized "java/lang/System" ∈ fw_LW := fw_t1 14 (by decide +kernel) (by decide +kernel)
theorem wb_RX0 : Cond.instantiable RX0 5 ∈ fw_LW := fw_t1 33 (by decide +kernel) (by decide +kernel)
theorem wb_RX1 : Cond.instantiable RX1 9 ∈ fw_LW := fw_t1 24 (by decide +kernel) (by decide +kernel)
theorem wb_RX2 : Cond.instantiable RX2 3 ∈ fw_LW := fw_t1 138 (by decide +kernel) (by decide +kernel)
theorem wb_RX3 : Cond.instantiable RX3 10 ∈ fw_LW := fw_t1 61 (by decide +kernel) (by decide +kernel)
theorem wb_RX4 : Cond.instantiable RX4 5 ∈ fw_LW := fw_t1 157 (by decide +kernel) (by decide +kernel)
theorem wb_RX5 : Cond.instantiable RX5 4 ∈ fw_LW := fw_t1 16 (by decide +kernel) (by decide +kernel)
theorem wu_0 : ∀ w ∈ u_ws RX0 TX0 5, w ∈ fw_LW := by
  have h : (u_ws RX0 TX0 5).all (fun w => decide (w ∈ tables_1) && goodWord w) = true := by decide +kernel
  intro w hw
  have h1 := List.all_eq_true.mp h w hw
  simp only [Bool.and_eq_true, decide_eq_true_eq] at h1
  exact fw_tin h1.1 h1.2
theorem wu_1 : ∀ w ∈ u_ws RX1 TX1 9, w ∈ fw_LW := by
  have h : (u_ws RX1 TX1 9).all (fun w => decide (w ∈ tables_1) && goodWord w) = true := by decide +kernel
  intro w hw
  have h1 := List.all_eq_true.mp h w hw
  simp only [Bool.and_eq_true, decide_eq_true_eq] at h1
  exact fw_tin h1.1 h1.2
theorem wu_2 : ∀ w ∈ u_ws RX2 TX2 3, w ∈ fw_LW := by
  have h : (u_ws RX2 TX2 3).all (fun w => decide (w ∈ tables_1) && goodWord w) = true := by decide +kernel
  intro w hw
  have h1 := List.all_eq_true.mp h w hw
  simp only [Bool.and_eq_true, decide_eq_true_eq] at h1
  exact fw_tin h1.1 h1.2
theorem wu_3 : ∀ w ∈ u_ws RX3 TX3 10, w ∈ fw_LW := by
  have h : (u_ws RX3 TX3 10).all (fun w => decide (w ∈ tables_1) && goodWord w) = true := by decide +kernel
  intro w hw
  have h1 := List.all_eq_true.mp h w hw
  simp only [Bool.and_eq_true, decide_eq_true_eq] at h1
  exact fw_tin h1.1 h1.2
theorem wu_4 : ∀ w ∈ u_ws RX4 TX4 5, w ∈ fw_LW := by
  have h : (u_ws RX4 TX4 5).all (fun w => decide (w ∈ tables_1) && goodWord w) = true := by decide +kernel
  intro w hw
  have h1 := List.all_eq_true.mp h w hw
  simp only [Bool.and_eq_true, decide_eq_true_eq] at h1
  exact fw_tin h1.1 h1.2
theorem wu_5 : ∀ w ∈ u_ws RX5 TX5 4, w ∈ fw_LW := by
  have h : (u_ws RX5 TX5 4).all (fun w => decide (w ∈ tables_1) && goodWord w) = true := by decide +kernel
  intro w hw
  have h1 := List.all_eq_true.mp h w hw
  simp only [Bool.and_eq_true, decide_eq_true_eq] at h1
  exact fw_tin h1.1 h1.2
/-- the links between nest mates -/
def fw_nest : List (String × Nat × MethodName × String) := [(RX5, 28, yX4_init, "CourierRelay"), (RX1, 28, yX3_init, "CourierRelay"), (RX1, 115, yX5_nextZone, "CourierRelay"), (RX1, 119, yX5_holds, "CourierRelay"), (RX3, 43, yX5_copyRow, "CourierRelay"), (RX3, 47, yX5_holds, "CourierRelay"), (RX3, 51, yX5_nextZone, "CourierRelay"), (RX3, 55, yX5_at, "CourierRelay"), (RX3, 59, yX5_sum, "CourierRelay")]
theorem fw_nest_in : ∀ q ∈ fw_nest, Cond.methodLinkNest q.1 q.2.1 q.2.2.1 q.2.2.2 ∈ lw_tbl := by
  have h : (fw_nest.map fun q => Cond.methodLinkNest q.1 q.2.1 q.2.2.1 q.2.2.2).all (fun w => decide (w ∈ tables_1)) = true := by decide +kernel
  intro q hq
  have h1 := List.all_eq_true.mp h _ (List.mem_map_of_mem hq)
  exact List.mem_append_right _ (of_decide_eq_true h1)
end
section
/-! THE FRAME: a memory of ints by address and slot, a walker over decoded code, and what it is worth over the machine -/
section FW
/-- ints by address and slot; longs by a number of their own (0: the field h, 1: the row of the law); how many cells came since the law's loop began -/
abbrev fw_M : Type := (Nat → Nat → Int32) × (Nat → Int64) × Nat
def fw_up (V : Nat → Nat → Int32) (a k : Nat) (x : Int32) : Nat → Nat → Int32 := fun b => if b = a then upd (V a) k x else V b
def fw_st (M : fw_M) (a k : Nat) (x : Int32) : fw_M := (fw_up M.1 a k x, M.2.1, M.2.2)
def fw_stl (M : fw_M) (j : Nat) (x : Int64) : fw_M := (M.1, vp_updL M.2.1 j x, M.2.2)
def fw_row (M : fw_M) (a : Nat) (f : Nat → Int32) : fw_M := (fun b => if b = a then f else M.1 b, M.2.1, M.2.2)
theorem fw_up_same {V : Nat → Nat → Int32} {a k : Nat} {x : Int32} : fw_up V a k x a = upd (V a) k x := if_pos rfl
theorem fw_up_ne {V : Nat → Nat → Int32} {a b k : Nat} {x : Int32} (h : b ≠ a) : fw_up V a k x b = V b := if_neg h
/-! where things lie: an exchange takes 81 cells (itself, its row of couriers, its row of parcels, six couriers, and for each of 24 parcels itself, its legs, its shares) -/
def fw_kx (r : Nat) : Nat := if r = 0 then 1 else if r = 1 then 8 else if r = 2 then 10 else if r < 9 then 0 else if (r - 9) % 3 = 0 then 3 else 7
def fw_ko (o : Nat) : Nat := if o = 0 then 5 else if o < 163 then fw_kx ((o - 1) % 81) else if o = 163 then 2 else if o = 164 then 9 else if o < 489 then fw_kx ((o - 165) % 81) else if o = 489 then 4 else if o < 497 then 7 else 12
def fw_kd (B a : Nat) : Nat := if a < B then 12 else fw_ko (a - B)
def fw_lo (o : Nat) : Nat := if o < 489 then 6 else if o = 490 then 150 else if o = 491 then 96 else if o = 492 then 7 else if o = 493 then 30 else if o = 494 then 64 else 48
def fw_len (B a : Nat) : Nat := fw_lo (a - B)
/-- what a field holds: 0 an int, 1 the long, n + 2 the thing n cells behind -/
def fw_fc : Nat → Nat → Nat
  | 1, 7 => 3
  | 1, 8 => 4
  | 2, 0 => 3
  | 3, 8 => 3
  | 3, 9 => 4
  | 4, 0 => 3
  | 4, 1 => 4
  | 5, 0 => 3
  | 5, 1 => 84
  | 5, 2 => 165
  | 5, 3 => 491
  | _, _ => 0
def fw_fw (n a k : Nat) (M : fw_M) : Value := match n with
  | 0 => .int (M.1 a k)
  | 1 => .long (M.2.1 0)
  | n + 2 => .ref (a + n)
def fw_fv (ci k a : Nat) (M : fw_M) : Value := fw_fw (fw_fc ci k) a k M
def fw_nf : Nat → Nat
  | 0 => 5
  | 1 => 9
  | 2 => 3
  | 3 => 10
  | 4 => 5
  | _ => 4
def fw_cl : Nat → vw_C
  | 0 => (RX0, TX0, 5)
  | 1 => (RX1, TX1, 9)
  | 2 => (RX2, TX2, 3)
  | 3 => (RX3, TX3, 10)
  | 4 => (RX4, TX4, 5)
  | _ => (RX5, TX5, 4)
/-- the classes, the rows' classes, and where one more row of the law lies (0: none; n + 1: n cells behind its other rows) -/
abbrev fw_G : Type := va_G × ((Nat → ClassId) × Nat)
def fw_tys (g : fw_G) : List (ClassId × FieldType) := [(g.2.1 0, .int), (g.2.1 1, .object RX0), (g.2.1 2, .object RX1), (g.2.1 3, .object RX3)]
def fw_fs (ci a : Nat) (M : fw_M) : List Value := (List.range (fw_nf ci)).map (fun k => fw_fv ci k a M)
def fw_el (k a j : Nat) : Nat := if k = 8 then a + 2 + j else if k = 9 then a + 1 + 81 * j else a + 7 + 3 * j
def fw_al (k : Nat) : Nat := if k = 8 then 6 else if k = 9 then 4 else 24
def fw_ct (g : fw_G) (B : Nat) (M : fw_M) (o : Nat) : va_E :=
  if fw_ko o < 6 then .inr (fw_ko o, fw_fs (fw_ko o) (B + o) M)
  else if fw_ko o = 7 then .inl (g.2.1 0, fw_lo o, .inl (M.1 (B + o)))
  else if fw_ko o = 8 then .inl (g.2.1 1, 6, .inr (.inr (.inr (.inr (fun j => some (fw_el 8 (B + o) j))))))
  else if fw_ko o = 9 then .inl (g.2.1 2, 4, .inr (.inr (.inr (.inr (fun j => some (fw_el 9 (B + o) j))))))
  else if fw_ko o = 10 then .inl (g.2.1 3, 24, .inr (.inr (.inr (.inr (fun j => some (fw_el 10 (B + o) j))))))
  else .inl (g.2.1 0, 0, .inl (fun _ => 0))
/-- the row beside -/
def fw_xr (g : fw_G) (B : Nat) (M : fw_M) : va_W := match g.2.2 with
  | 0 => []
  | n + 1 => [(B + 497 + n, .inl (g.2.1 0, 4, .inl (M.1 (B + 497 + n))))]
def fw_W0 (g : fw_G) (B : Nat) (M : fw_M) : va_W := (List.range 497).map (fun o => (B + o, fw_ct g B M o))
def fw_WL (g : fw_G) (B : Nat) (M : fw_M) : va_W := fw_W0 g B M ++ fw_xr g B M
theorem fw_W0_len {g : fw_G} {B : Nat} {M : fw_M} : (fw_W0 g B M).length = 497 := by simp [fw_W0]
theorem fw_ko_lt {o : Nat} (h : fw_ko o < 12) : o < 497 := by
  rcases Nat.lt_or_ge o 497 with q | q
  · exact q
  · exfalso
    unfold fw_ko at h
    rw [if_neg (by omega), if_neg (by omega), if_neg (by omega), if_neg (by omega), if_neg (by omega), if_neg (by omega), if_neg (by omega)] at h
    omega
theorem fw_kd_at {B a k : Nat} (h : fw_kd B a = k) (hk : k < 12) : ∃ o, o < 497 ∧ a = B + o ∧ fw_ko o = k := by
  unfold fw_kd at h
  by_cases hB : a < B
  · rw [if_pos hB] at h
    omega
  · rw [if_neg hB] at h
    exact ⟨a - B, fw_ko_lt (by omega), by omega, h⟩
theorem fw_W0_get {g : fw_G} {B : Nat} {M : fw_M} {o : Nat} (h : o < 497) : (fw_W0 g B M)[o]? = some (B + o, fw_ct g B M o) := by
  unfold fw_W0
  rw [List.getElem?_map, List.getElem?_range h]
  rfl
theorem fw_WL_get {g : fw_G} {B : Nat} {M : fw_M} {o : Nat} (h : o < 497) : (fw_WL g B M)[o]? = some (B + o, fw_ct g B M o) := by
  unfold fw_WL
  rw [List.getElem?_append_left (by rw [fw_W0_len]; exact h)]
  exact fw_W0_get h
theorem fw_WL_get' {g : fw_G} {B : Nat} {M : fw_M} {k : Nat} {q : Nat × va_E} (h : (fw_WL g B M)[k]? = some q) : (k < 497 ∧ q = (B + k, fw_ct g B M k)) ∨ (k = 497 ∧ B + 497 ≤ q.1 ∧ fw_xr g B M = [q]) := by
  rcases Nat.lt_or_ge k 497 with hk | hk
  · rw [fw_WL_get hk] at h
    exact Or.inl ⟨hk, (Option.some.inj h).symm⟩
  · refine Or.inr ?_
    unfold fw_WL at h
    rw [List.getElem?_append_right (by rw [fw_W0_len]; exact hk), fw_W0_len] at h
    unfold fw_xr at h ⊢
    split at h
    · cases h
    · rename_i n hn
      have hz : k - 497 < 1 := (List.getElem?_eq_some_iff.mp h).1
      have hz : k = 497 := by omega
      subst hz
      have h := Option.some.inj h
      subst h
      exact ⟨rfl, by show B + 497 ≤ B + 497 + n; omega, rfl⟩
theorem fw_WL_D {g : fw_G} {B : Nat} {M : fw_M} : va_D (fun q => B ≤ q) (fw_WL g B M) := by
  refine ⟨fun i j p q hi hj he => ?_, fun k q hk => ?_⟩
  · rcases fw_WL_get' hi with ⟨h1, rfl⟩ | ⟨rfl, h2, -⟩
    · rcases fw_WL_get' hj with ⟨h3, rfl⟩ | ⟨rfl, h4, -⟩
      · simp only at he
        omega
      · simp only at he
        omega
    · rcases fw_WL_get' hj with ⟨h3, rfl⟩ | ⟨rfl, h4, -⟩
      · simp only at he
        omega
      · rfl
  · rcases fw_WL_get' hk with ⟨-, rfl⟩ | ⟨-, h2, -⟩
    · exact Nat.le_add_right B k
    · exact Nat.le_trans (Nat.le_add_right B 497) h2
theorem fw_xr_cg {g : fw_G} {B : Nat} {M M' : fw_M} (h : ∀ a, B + 497 ≤ a → M'.1 a = M.1 a) : fw_xr g B M' = fw_xr g B M := by
  unfold fw_xr
  split
  · rfl
  · rw [h _ (Nat.le_add_right _ _)]
theorem fw_WL_set {g : fw_G} {B : Nat} {M M' : fw_M} {o : Nat} {e : va_E} (h : o < 497) (he : fw_ct g B M' o = e) (hn : ∀ o', o' < 497 → o' ≠ o → fw_ct g B M' o' = fw_ct g B M o') (hx : ∀ a, B + 497 ≤ a → M'.1 a = M.1 a) : (fw_WL g B M).set o (B + o, e) = fw_WL g B M' := by
  subst he
  unfold fw_WL
  rw [List.set_append_left _ _ (by rw [fw_W0_len]; exact h), fw_xr_cg hx]
  congr 1
  apply List.ext_getElem?
  intro k
  rw [List.getElem?_set]
  by_cases hk : o = k
  · subst hk
    rw [if_pos rfl, fw_W0_get h, if_pos (by rw [fw_W0_len]; exact h)]
  · rw [if_neg hk]
    rcases Nat.lt_or_ge k 497 with q | q
    · rw [fw_W0_get q, fw_W0_get q, hn k q (fun z => hk z.symm)]
    · rw [List.getElem?_eq_none (by rw [fw_W0_len]; exact q), List.getElem?_eq_none (by rw [fw_W0_len]; exact q)]
theorem fw_fv_st {M : fw_M} {a b k : Nat} {x : Int32} (h : b ≠ a) (ci j : Nat) : fw_fv ci j b (fw_st M a k x) = fw_fv ci j b M := by
  unfold fw_fv fw_fw
  cases fw_fc ci j with
  | zero => simp only [fw_st, fw_up_ne h]
  | succ n => cases n <;> rfl
theorem fw_ct_st {g : fw_G} {B : Nat} {M : fw_M} {o o' k : Nat} {x : Int32} (h : o' ≠ o) : fw_ct g B (fw_st M (B + o) k x) o' = fw_ct g B M o' := by
  have hb : B + o' ≠ B + o := by omega
  unfold fw_ct fw_fs
  simp only [fw_fv_st hb]
  rw [show (fw_st M (B + o) k x).1 (B + o') = M.1 (B + o') from fw_up_ne hb]
theorem fw_fs_get {ci a k : Nat} {M : fw_M} (h : k < fw_nf ci) : (fw_fs ci a M)[k]? = some (fw_fv ci k a M) := by
  unfold fw_fs
  rw [List.getElem?_map, List.getElem?_range h]
  rfl
theorem fw_fs_len {ci a : Nat} {M : fw_M} : (fw_fs ci a M).length = fw_nf ci := by simp [fw_fs]
theorem fw_fs_set {ci a k : Nat} {M M' : fw_M} {v : Value} (h : k < fw_nf ci) (hv : fw_fv ci k a M' = v) (hn : ∀ j, j ≠ k → fw_fv ci j a M' = fw_fv ci j a M) : (fw_fs ci a M).set k v = fw_fs ci a M' := by
  subst hv
  apply List.ext_getElem?
  intro j
  rw [List.getElem?_set]
  by_cases hk : k = j
  · subst hk
    rw [if_pos rfl, fw_fs_get h, if_pos (by rw [fw_fs_len]; exact h)]
  · rw [if_neg hk]
    rcases Nat.lt_or_ge j (fw_nf ci) with q | q
    · rw [fw_fs_get q, fw_fs_get q, hn j (fun z => hk z.symm)]
    · rw [List.getElem?_eq_none (by rw [fw_fs_len]; exact q), List.getElem?_eq_none (by rw [fw_fs_len]; exact q)]
theorem fw_ct_obj {g : fw_G} {B o ci : Nat} {M : fw_M} (h : fw_ko o = ci) (hc : ci < 6) : fw_ct g B M o = .inr (ci, fw_fs ci (B + o) M) := by
  subst h
  unfold fw_ct
  rw [if_pos hc]
theorem fw_ct_7 {g : fw_G} {B o : Nat} {M : fw_M} (h : fw_ko o = 7) : fw_ct g B M o = .inl (g.2.1 0, fw_lo o, .inl (M.1 (B + o))) := by
  unfold fw_ct
  rw [if_neg (by omega), if_pos h]
theorem fw_ct_8 {g : fw_G} {B o : Nat} {M : fw_M} (h : fw_ko o = 8) : fw_ct g B M o = .inl (g.2.1 1, 6, .inr (.inr (.inr (.inr (fun j => some (fw_el 8 (B + o) j)))))) := by
  unfold fw_ct
  rw [if_neg (by omega), if_neg (by omega), if_pos h]
theorem fw_ct_9 {g : fw_G} {B o : Nat} {M : fw_M} (h : fw_ko o = 9) : fw_ct g B M o = .inl (g.2.1 2, 4, .inr (.inr (.inr (.inr (fun j => some (fw_el 9 (B + o) j)))))) := by
  unfold fw_ct
  rw [if_neg (by omega), if_neg (by omega), if_neg (by omega), if_pos h]
theorem fw_ct_10 {g : fw_G} {B o : Nat} {M : fw_M} (h : fw_ko o = 10) : fw_ct g B M o = .inl (g.2.1 3, 24, .inr (.inr (.inr (.inr (fun j => some (fw_el 10 (B + o) j)))))) := by
  unfold fw_ct
  rw [if_neg (by omega), if_neg (by omega), if_neg (by omega), if_neg (by omega), if_pos h]
theorem fw_fv_put {M : fw_M} {ci k a : Nat} {x : Int32} (h : fw_fc ci k = 0) : fw_fv ci k a (fw_st M a k x) = .int x := by
  unfold fw_fv
  rw [h]
  show Value.int (fw_up M.1 a k x a k) = _
  rw [fw_up_same]
  simp [upd]
theorem fw_fv_putn {M : fw_M} {ci k a j : Nat} {x : Int32} (h : j ≠ k) : fw_fv ci j a (fw_st M a k x) = fw_fv ci j a M := by
  unfold fw_fv fw_fw
  cases fw_fc ci j with
  | zero =>
    show Value.int (fw_up M.1 a k x a j) = _
    rw [fw_up_same]
    simp [upd, h]
  | succ n => cases n <;> rfl
/-- a field is written -/
theorem fw_put {g : fw_G} {B o ci k : Nat} {M : fw_M} {x : Int32} (ho : o < 497) (h : fw_ko o = ci) (hc : ci < 6) (hk : k < fw_nf ci) (hf : fw_fc ci k = 0) :
    (fw_WL g B M).set o (B + o, .inr (ci, (fw_fs ci (B + o) M).set k (.int x))) = fw_WL g B (fw_st M (B + o) k x) := by
  refine fw_WL_set ho ?_ (fun o' _ hn => fw_ct_st hn) (fun a ha => fw_up_ne (by omega))
  rw [fw_ct_obj h hc, fw_fs_set hk (fw_fv_put hf) (fun j hj => fw_fv_putn hj)]
/-- a place of a row of ints is written -/
theorem fw_ast {g : fw_G} {B o k : Nat} {M : fw_M} {x : Int32} (ho : o < 497) (h : fw_ko o = 7) :
    (fw_WL g B M).set o (B + o, .inl (g.2.1 0, fw_lo o, .inl (upd (M.1 (B + o)) k x))) = fw_WL g B (fw_st M (B + o) k x) := by
  refine fw_WL_set ho ?_ (fun o' _ hn => fw_ct_st hn) (fun a ha => fw_up_ne (by omega))
  rw [fw_ct_7 h, show (fw_st M (B + o) k x).1 (B + o) = upd (M.1 (B + o)) k x from fw_up_same]
/-- the row beside is written -/
theorem fw_ct_x {g : fw_G} {B a k o : Nat} {M : fw_M} {x : Int32} (ha : B + 497 ≤ a) (ho : o < 497) : fw_ct g B (fw_st M a k x) o = fw_ct g B M o := by
  have hb : B + o ≠ a := by omega
  unfold fw_ct fw_fs
  simp only [fw_fv_st hb]
  rw [show (fw_st M a k x).1 (B + o) = M.1 (B + o) from fw_up_ne hb]
theorem fw_WL_x {g : fw_G} {B n : Nat} {M : fw_M} (hg : g.2.2 = n + 1) : (fw_WL g B M)[497]? = some (B + 497 + n, .inl (g.2.1 0, 4, .inl (M.1 (B + 497 + n)))) := by
  unfold fw_WL
  rw [List.getElem?_append_right (by rw [fw_W0_len]; exact Nat.le_refl _), fw_W0_len]
  unfold fw_xr
  rw [hg]
  rfl
theorem fw_xast {g : fw_G} {B n k : Nat} {M : fw_M} {x : Int32} (hg : g.2.2 = n + 1) :
    (fw_WL g B M).set 497 (B + 497 + n, .inl (g.2.1 0, 4, .inl (upd (M.1 (B + 497 + n)) k x))) = fw_WL g B (fw_st M (B + 497 + n) k x) := by
  have e0 : fw_W0 g B (fw_st M (B + 497 + n) k x) = fw_W0 g B M := by
    unfold fw_W0
    refine List.map_congr_left (fun o ho => ?_)
    rw [fw_ct_x (by omega) (List.mem_range.mp ho)]
  unfold fw_WL
  rw [List.set_append_right _ _ (by rw [fw_W0_len]; exact Nat.le_refl _), fw_W0_len, e0]
  congr 1
  unfold fw_xr
  rw [hg]
  show [_] = [_]
  rw [show (fw_st M (B + 497 + n) k x).1 (B + 497 + n) = upd (M.1 (B + 497 + n)) k x from fw_up_same]
end FW
end
section
/-! THE WALKER: what must hold before a stretch of code so that it ends as asked; a number a decoded instruction, no machine in it -/
section WK
abbrev fw_L : Type := List (Option Value)
/-- pc, length, instruction, its number, its target -/
abbrev fw_Ent : Type := Nat × Nat × Instr × Int32 × Nat
/-- what a callee does: from its arguments and the memory to what must hold behind it -/
abbrev fw_CT : Type := List Value → fw_M → (Option Value → fw_M → Prop) → Prop
/-- index; kind (0 virtual, 1 static), the receiver's kind, how many arguments, how many cells come, what it does -/
abbrev fw_Cal : Type := Nat × Nat × Nat × Nat × Nat × fw_CT
abbrev fw_K : Type := Nat → Option (List Bool × (fw_L → List Value → fw_M → Prop))
/-- a side condition, kept whole -/
def fw_sd (P : Prop) : Prop := P ∨ False
theorem fw_sd_e {P : Prop} (h : fw_sd P) : P := h.elim id False.elim
theorem fw_sd_i {P : Prop} (h : P) : fw_sd P := Or.inl h
def fw_lg : fw_L → Nat → Option Value
  | [], _ => none
  | o :: _, 0 => o
  | _ :: t, i + 1 => fw_lg t i
def fw_c2 : Option Value → Bool
  | some (.long _) => true
  | some (.double _) => true
  | _ => false
def fw_s1 : fw_L → Nat → Value → fw_L
  | [], _, _ => []
  | _ :: t, 0, v => some v :: t
  | o :: t, 1, v => (bif fw_c2 o then none else o) :: fw_s1 t 0 v
  | o :: t, i + 2, v => o :: fw_s1 t (i + 1) v
def fw_s2 : fw_L → Nat → Value → fw_L
  | [], _, _ => []
  | [_], 0, _ => []
  | _ :: _ :: t, 0, v => some v :: none :: t
  | o :: t, 1, v => (bif fw_c2 o then none else o) :: fw_s2 t 0 v
  | o :: t, i + 2, v => o :: fw_s2 t (i + 1) v
def fw_find {α : Type} (i : Nat) : List (Nat × α) → Option α
  | [] => none
  | q :: t => bif Nat.beq q.1 i then some q.2 else fw_find i t
def fw_findC (i : Nat) : List fw_Cal → Option (Nat × Nat × Nat × Nat × fw_CT)
  | [] => none
  | q :: t => bif Nat.beq q.1 i then some q.2 else fw_findC i t
def fw_seek (t : Nat) : List fw_Ent → List fw_Ent
  | [] => []
  | e :: r => bif Nat.beq e.1 t then e :: r else fw_seek t r
def fw_mk : List Bool → fw_L → fw_L
  | b :: bs, o :: ls => (bif b then o else none) :: fw_mk bs ls
  | _, _ => []
/-! shapes of the stack -/
def fw_i (st : List Value) (f : Int32 → List Value → Prop) : Prop := match st with
  | .int x :: r => f x r
  | _ => False
def fw_ii (st : List Value) (f : Int32 → Int32 → List Value → Prop) : Prop := match st with
  | .int y :: .int x :: r => f x y r
  | _ => False
def fw_r (st : List Value) (f : Nat → List Value → Prop) : Prop := match st with
  | .ref a :: r => f a r
  | _ => False
def fw_ri (st : List Value) (f : Nat → Int32 → List Value → Prop) : Prop := match st with
  | .int i :: .ref a :: r => f a i r
  | _ => False
def fw_rii (st : List Value) (f : Nat → Int32 → Int32 → List Value → Prop) : Prop := match st with
  | .int x :: .int i :: .ref a :: r => f a i x r
  | _ => False
def fw_ril (st : List Value) (f : Nat → Int32 → Int64 → List Value → Prop) : Prop := match st with
  | .long x :: .int i :: .ref a :: r => f a i x r
  | _ => False
def fw_l (st : List Value) (f : Int64 → List Value → Prop) : Prop := match st with
  | .long x :: r => f x r
  | _ => False
def fw_ll (st : List Value) (f : Int64 → Int64 → List Value → Prop) : Prop := match st with
  | .long y :: .long x :: r => f x y r
  | _ => False
def fw_d (st : List Value) (f : UInt64 → List Value → Prop) : Prop := match st with
  | .double x :: r => f x r
  | _ => False
def fw_dd (st : List Value) (f : UInt64 → UInt64 → List Value → Prop) : Prop := match st with
  | .double y :: .double x :: r => f x y r
  | _ => False
def fw_a (st : List Value) (f : Value → List Value → Prop) (n : List Value → Prop) : Prop := match st with
  | .ref a :: r => f (.ref a) r
  | .null :: r => n r
  | _ => False
/-- one word on top -/
def fw_w (st : List Value) (f : Value → List Value → Prop) : Prop := match st with
  | .int x :: r => f (.int x) r
  | .ref a :: r => f (.ref a) r
  | .null :: r => f .null r
  | _ => False
theorem fw_i_e {st : List Value} {f : Int32 → List Value → Prop} (h : fw_i st f) : ∃ x r, st = .int x :: r ∧ f x r := by
  unfold fw_i at h
  split at h
  · exact ⟨_, _, rfl, h⟩
  · exact h.elim
theorem fw_ii_e {st : List Value} {f : Int32 → Int32 → List Value → Prop} (h : fw_ii st f) : ∃ x y r, st = .int y :: .int x :: r ∧ f x y r := by
  unfold fw_ii at h
  split at h
  · exact ⟨_, _, _, rfl, h⟩
  · exact h.elim
theorem fw_r_e {st : List Value} {f : Nat → List Value → Prop} (h : fw_r st f) : ∃ x r, st = .ref x :: r ∧ f x r := by
  unfold fw_r at h
  split at h
  · exact ⟨_, _, rfl, h⟩
  · exact h.elim
theorem fw_ri_e {st : List Value} {f : Nat → Int32 → List Value → Prop} (h : fw_ri st f) : ∃ a i r, st = .int i :: .ref a :: r ∧ f a i r := by
  unfold fw_ri at h
  split at h
  · exact ⟨_, _, _, rfl, h⟩
  · exact h.elim
theorem fw_rii_e {st : List Value} {f : Nat → Int32 → Int32 → List Value → Prop} (h : fw_rii st f) : ∃ a i x r, st = .int x :: .int i :: .ref a :: r ∧ f a i x r := by
  unfold fw_rii at h
  split at h
  · exact ⟨_, _, _, _, rfl, h⟩
  · exact h.elim
theorem fw_ril_e {st : List Value} {f : Nat → Int32 → Int64 → List Value → Prop} (h : fw_ril st f) : ∃ a i x r, st = .long x :: .int i :: .ref a :: r ∧ f a i x r := by
  unfold fw_ril at h
  split at h
  · exact ⟨_, _, _, _, rfl, h⟩
  · exact h.elim
theorem fw_l_e {st : List Value} {f : Int64 → List Value → Prop} (h : fw_l st f) : ∃ x r, st = .long x :: r ∧ f x r := by
  unfold fw_l at h
  split at h
  · exact ⟨_, _, rfl, h⟩
  · exact h.elim
theorem fw_ll_e {st : List Value} {f : Int64 → Int64 → List Value → Prop} (h : fw_ll st f) : ∃ x y r, st = .long y :: .long x :: r ∧ f x y r := by
  unfold fw_ll at h
  split at h
  · exact ⟨_, _, _, rfl, h⟩
  · exact h.elim
theorem fw_d_e {st : List Value} {f : UInt64 → List Value → Prop} (h : fw_d st f) : ∃ x r, st = .double x :: r ∧ f x r := by
  unfold fw_d at h
  split at h
  · exact ⟨_, _, rfl, h⟩
  · exact h.elim
theorem fw_dd_e {st : List Value} {f : UInt64 → UInt64 → List Value → Prop} (h : fw_dd st f) : ∃ x y r, st = .double y :: .double x :: r ∧ f x y r := by
  unfold fw_dd at h
  split at h
  · exact ⟨_, _, _, rfl, h⟩
  · exact h.elim
theorem fw_a_e {st : List Value} {f : Value → List Value → Prop} {n : List Value → Prop} (h : fw_a st f n) : (∃ a r, st = .ref a :: r ∧ f (.ref a) r) ∨ ∃ r, st = .null :: r ∧ n r := by
  unfold fw_a at h
  split at h
  · exact Or.inl ⟨_, _, rfl, h⟩
  · exact Or.inr ⟨_, rfl, h⟩
  · exact h.elim
theorem fw_w_e {st : List Value} {f : Value → List Value → Prop} (h : fw_w st f) : ∃ v r, st = v :: r ∧ v.category = 1 ∧ f v r := by
  unfold fw_w at h
  split at h
  · exact ⟨_, _, rfl, rfl, h⟩
  · exact ⟨_, _, rfl, rfl, h⟩
  · exact ⟨_, _, rfl, rfl, h⟩
  · exact h.elim
def fw_li (o : Option Value) (f : Int32 → Prop) : Prop := match o with
  | some (.int x) => f x
  | _ => False
def fw_la (o : Option Value) (f : Value → Prop) : Prop := match o with
  | some (.ref a) => f (.ref a)
  | some .null => f .null
  | _ => False
def fw_lo64 (o : Option Value) (f : Int64 → Prop) : Prop := match o with
  | some (.long x) => f x
  | _ => False
def fw_ld64 (o : Option Value) (f : UInt64 → Prop) : Prop := match o with
  | some (.double x) => f x
  | _ => False
theorem fw_li_e {o : Option Value} {f : Int32 → Prop} (h : fw_li o f) : ∃ x, o = some (.int x) ∧ f x := by
  unfold fw_li at h
  split at h
  · exact ⟨_, rfl, h⟩
  · exact h.elim
theorem fw_la_e {o : Option Value} {f : Value → Prop} (h : fw_la o f) : (∃ a, o = some (.ref a) ∧ f (.ref a)) ∨ (o = some .null ∧ f .null) := by
  unfold fw_la at h
  split at h
  · exact Or.inl ⟨_, rfl, h⟩
  · exact Or.inr ⟨rfl, h⟩
  · exact h.elim
theorem fw_lo64_e {o : Option Value} {f : Int64 → Prop} (h : fw_lo64 o f) : ∃ x, o = some (.long x) ∧ f x := by
  unfold fw_lo64 at h
  split at h
  · exact ⟨_, rfl, h⟩
  · exact h.elim
theorem fw_ld64_e {o : Option Value} {f : UInt64 → Prop} (h : fw_ld64 o f) : ∃ x, o = some (.double x) ∧ f x := by
  unfold fw_ld64 at h
  split at h
  · exact ⟨_, rfl, h⟩
  · exact h.elim
/-- a call: enough on the stack, not too much left, a receiver of the right kind -/
def fw_rcv (B kind ci : Nat) (as : List Value) (P : Prop) : Prop := match kind, as with
  | 0, .ref b :: _ => fw_kd B b = ci ∧ P
  | 1, _ => P
  | _, _ => False
/-- the memory behind a call: where cells come (in the law alone) they are counted -/
def fw_inc : Nat → fw_M → fw_M → fw_M
  | 0, _, M' => M'
  | n + 1, M, M' => (M'.1, M'.2.1, M.2.2 + (n + 1))
def fw_cti (inc : Nat) (ct : fw_CT) (as : List Value) (M : fw_M) (k : Option Value → fw_M → Prop) : Prop := match inc with
  | 0 => ct as M k
  | n + 1 => ct as M (fun r M' => k r (M'.1, M'.2.1, M.2.2 + (n + 1)))
theorem fw_cti_e {inc : Nat} {ct : fw_CT} {as : List Value} {M : fw_M} {k : Option Value → fw_M → Prop} (h : fw_cti inc ct as M k) : ct as M (fun r M' => k r (fw_inc inc M M')) := by
  cases inc <;> exact h
def fw_call (B kind : Nat) (en : Option (Nat × Nat × Nat × Nat × fw_CT)) (st : List Value) (M : fw_M) (k : List Value → fw_M → Prop) : Prop := match en with
  | some (kd, ci, n, inc, ct) => bif Nat.beq kd kind && Nat.ble n st.length && Nat.ble (((st.drop n).map fun v => v.category).sum) 8 then fw_rcv B kind ci (st.take n).reverse (fw_cti inc ct (st.take n).reverse M (fun r M' => k (r.toList ++ st.drop n) M')) else False
  | none => False
/-- a switch's rows -/
def fw_tsw (x : Int32) (pc : Nat) (jp : Nat → Prop) : List Int → Int → Prop
  | [], _ => True
  | o :: os, v => (x.toInt = v → jp ((pc : Int) + o).toNat) ∧ fw_tsw x pc jp os (v + 1)
def fw_lsw (x : Int32) (jp : Int → Prop) (d : Int) : List (Int × Int) → Prop
  | [] => jp d
  | q :: qs => (x.toInt = q.1 → jp q.2) ∧ (¬ x.toInt = q.1 → fw_lsw x jp d qs)
section STP
variable (B : Nat) (fld : List (Nat × Nat × Nat)) (cal : List fw_Cal) (thr : List (Nat × String)) (cst : List (Nat × Value)) (scr : Option (Nat × Nat × Option (Nat → Int32))) (rt : Option FieldType) (Q : Option Value → fw_M → Prop) (QX : String → fw_M → Prop)
def fw_get (B : Nat) (q : Option (Nat × Nat)) (a : Nat) (M : fw_M) (k : Value → Prop) : Prop := match q with
  | some (ci, j) => fw_kd B a = ci ∧ k (fw_fv ci j a M)
  | none => False
def fw_putv (B : Nat) (q : Option (Nat × Nat)) (st : List Value) (M : fw_M) (k : List Value → fw_M → Prop) : Prop := match q, st with
  | some (ci, j), .int x :: .ref a :: r => bif Nat.beq (fw_fc ci j) 0 then fw_kd B a = ci ∧ k r (fw_st M a j x) else False
  | _, _ => False
def fw_iald (B : Nat) (scr : Option (Nat × Nat × Option (Nat → Int32))) (a : Nat) (i : Int32) (M : fw_M) (k : Int32 → Prop) : Prop := match scr with
  | none => fw_kd B a = 7 ∧ fw_sd (vp_in i (fw_len B a)) ∧ k (M.1 a i.toNatClampNeg)
  | some (b, L, some xs) => a = b ∧ fw_sd (vp_in i L) ∧ k (xs i.toNatClampNeg)
  | some (b, L, none) => (a = b ∧ fw_sd (vp_in i L) ∧ k (M.1 b i.toNatClampNeg)) ∨ (fw_kd B a = 7 ∧ fw_sd (vp_in i (fw_len B a)) ∧ k (M.1 a i.toNatClampNeg))
/-- a place of a row is written -/
def fw_iast (B : Nat) (scr : Option (Nat × Nat × Option (Nat → Int32))) (a : Nat) (i x : Int32) (M : fw_M) (k : fw_M → Prop) : Prop := match scr with
  | some (b, L, none) => (a = b ∧ fw_sd (vp_in i L) ∧ k (fw_st M b i.toNatClampNeg x)) ∨ (fw_kd B a = 7 ∧ fw_sd (vp_in i (fw_len B a)) ∧ k (fw_st M a i.toNatClampNeg x))
  | _ => fw_kd B a = 7 ∧ fw_sd (vp_in i (fw_len B a)) ∧ k (fw_st M a i.toNatClampNeg x)
def fw_aln (B a : Nat) : Nat := if fw_kd B a = 7 then fw_len B a else fw_al (fw_kd B a)
def fw_alen (B : Nat) (scr : Option (Nat × Nat × Option (Nat → Int32))) (a : Nat) (k : Int32 → Prop) : Prop := match scr with
  | none => 7 ≤ fw_kd B a ∧ fw_kd B a ≤ 10 ∧ k (Int32.ofNat (fw_aln B a))
  | some (b, L, some _) => a = b ∧ k (Int32.ofNat L)
  | some (_, _, none) => False
def fw_endi (rt : Option FieldType) (Q : Option Value → fw_M → Prop) (st : List Value) (M : fw_M) : Prop := match rt, st with
  | some .int, [.int x] => Q (some (.int x)) M
  | some .boolean, [.int x] => (x = 0 ∨ x = 1) ∧ Q (some (.int x)) M
  | _, _ => False
def fw_enda (rt : Option FieldType) (Q : Option Value → fw_M → Prop) (st : List Value) (M : fw_M) : Prop := match rt, st with
  | some (.object _), [.ref a] => Q (some (.ref a)) M
  | some (.object _), [.null] => Q (some .null) M
  | _, _ => False
def fw_endl (rt : Option FieldType) (Q : Option Value → fw_M → Prop) (st : List Value) (M : fw_M) : Prop := match rt, st with
  | some .long, [.long x] => Q (some (.long x)) M
  | _, _ => False
def fw_endd (rt : Option FieldType) (Q : Option Value → fw_M → Prop) (st : List Value) (M : fw_M) : Prop := match rt, st with
  | some .double, [.double x] => Q (some (.double x)) M
  | _, _ => False
def fw_endv (rt : Option FieldType) (Q : Option Value → fw_M → Prop) (st : List Value) (M : fw_M) : Prop := match rt, st with
  | none, [] => Q none M
  | _, _ => False
def fw_newx (QX : String → fw_M → Prop) (q : Option String) (st : List Value) (M : fw_M) : Prop := match q, st with
  | some E, [] => QX E M
  | _, _ => False
def fw_stp (e : fw_Ent) (ls : fw_L) (st : List Value) (M : fw_M) (nx : fw_L → List Value → fw_M → Prop) (jp : Nat → fw_L → List Value → fw_M → Prop) : Prop := match e.2.2.1 with
  | .aconst_null => nx ls (.null :: st) M
  | .iconst _ => nx ls (.int e.2.2.2.1 :: st) M
  | .bipush _ => nx ls (.int e.2.2.2.1 :: st) M
  | .sipush _ => nx ls (.int e.2.2.2.1 :: st) M
  | .ldc _ => nx ls (.int e.2.2.2.1 :: st) M
  | .ldc_w _ => nx ls (.int e.2.2.2.1 :: st) M
  | .ldc2_w i => (match fw_find i cst with | some (.long v) => nx ls (.long v :: st) M | _ => False)
  | .dconst _ => nx ls (.double FP.dconst1 :: st) M
  | .iload_n k => fw_li (fw_lg ls k.val) fun x => nx ls (.int x :: st) M
  | .iload k => fw_li (fw_lg ls k) fun x => nx ls (.int x :: st) M
  | .aload_n k => fw_la (fw_lg ls k.val) fun x => nx ls (x :: st) M
  | .aload k => fw_la (fw_lg ls k) fun x => nx ls (x :: st) M
  | .lload_n k => fw_lo64 (fw_lg ls k.val) fun x => nx ls (.long x :: st) M
  | .lload k => fw_lo64 (fw_lg ls k) fun x => nx ls (.long x :: st) M
  | .dload_n k => fw_ld64 (fw_lg ls k.val) fun x => nx ls (.double x :: st) M
  | .dload k => fw_ld64 (fw_lg ls k) fun x => nx ls (.double x :: st) M
  | .istore_n k => fw_i st fun x r => nx (fw_s1 ls k.val (.int x)) r M
  | .istore k => fw_i st fun x r => nx (fw_s1 ls k (.int x)) r M
  | .astore_n k => fw_a st (fun x r => nx (fw_s1 ls k.val x) r M) (fun r => nx (fw_s1 ls k.val .null) r M)
  | .astore k => fw_a st (fun x r => nx (fw_s1 ls k x) r M) (fun r => nx (fw_s1 ls k .null) r M)
  | .lstore_n k => fw_l st fun x r => nx (fw_s2 ls k.val (.long x)) r M
  | .lstore k => fw_l st fun x r => nx (fw_s2 ls k (.long x)) r M
  | .dstore_n k => fw_d st fun x r => nx (fw_s2 ls k.val (.double x)) r M
  | .dstore k => fw_d st fun x r => nx (fw_s2 ls k (.double x)) r M
  | .iinc k _ => fw_li (fw_lg ls k) fun x => nx (fw_s1 ls k (.int (x + e.2.2.2.1))) st M
  | .iadd => fw_ii st fun x y r => nx ls (.int (x + y) :: r) M
  | .isub => fw_ii st fun x y r => nx ls (.int (x - y) :: r) M
  | .imul => fw_ii st fun x y r => nx ls (.int (x * y) :: r) M
  | .iand => fw_ii st fun x y r => nx ls (.int (x &&& y) :: r) M
  | .ior => fw_ii st fun x y r => nx ls (.int (x ||| y) :: r) M
  | .ixor => fw_ii st fun x y r => nx ls (.int (x ^^^ y) :: r) M
  | .ishl => fw_ii st fun x y r => nx ls (.int (x <<< (y &&& 31)) :: r) M
  | .ishr => fw_ii st fun x y r => nx ls (.int (x >>> (y &&& 31)) :: r) M
  | .idiv => fw_ii st fun x y r => fw_sd (¬ y = 0) ∧ nx ls (.int (x / y) :: r) M
  | .irem => fw_ii st fun x y r => fw_sd (¬ y = 0) ∧ nx ls (.int (x - x / y * y) :: r) M
  | .ineg => fw_i st fun x r => nx ls (.int (-x) :: r) M
  | .i2l => fw_i st fun x r => nx ls (.long x.toInt64 :: r) M
  | .i2d => fw_i st fun x r => nx ls (.double (FP.i2d x) :: r) M
  | .ladd => fw_ll st fun x y r => nx ls (.long (x + y) :: r) M
  | .lmul => fw_ll st fun x y r => nx ls (.long (x * y) :: r) M
  | .lcmp => fw_ll st fun x y r => nx ls (.int (lg_cmp x y) :: r) M
  | .ddiv => fw_dd st fun x y r => vf_n64 (FP.ddiv x y) ∧ nx ls (.double (FP.ddiv x y) :: r) M
  | .dcmp op => fw_dd st fun x y r => nx ls (.int (Op.cmpValue (FP.dcmp x y) op) :: r) M
  | .dup => fw_w st fun v r => nx ls (v :: v :: r) M
  | .pop => fw_w st fun _ r => nx ls r M
  | .dup2 => fw_w st fun v r => fw_w r fun u r => nx ls (v :: u :: v :: u :: r) M
  | .if_icmp .eq _ => fw_ii st fun x y r => (x = y → jp e.2.2.2.2 ls r M) ∧ (¬ x = y → nx ls r M)
  | .if_icmp .ne _ => fw_ii st fun x y r => (¬ x = y → jp e.2.2.2.2 ls r M) ∧ (x = y → nx ls r M)
  | .if_icmp .lt _ => fw_ii st fun x y r => (x < y → jp e.2.2.2.2 ls r M) ∧ (¬ x < y → nx ls r M)
  | .if_icmp .ge _ => fw_ii st fun x y r => (y ≤ x → jp e.2.2.2.2 ls r M) ∧ (¬ y ≤ x → nx ls r M)
  | .if_icmp .gt _ => fw_ii st fun x y r => (y < x → jp e.2.2.2.2 ls r M) ∧ (¬ y < x → nx ls r M)
  | .if_icmp .le _ => fw_ii st fun x y r => (x ≤ y → jp e.2.2.2.2 ls r M) ∧ (¬ x ≤ y → nx ls r M)
  | .ifCond .eq _ => fw_i st fun x r => (x = 0 → jp e.2.2.2.2 ls r M) ∧ (¬ x = 0 → nx ls r M)
  | .ifCond .ne _ => fw_i st fun x r => (¬ x = 0 → jp e.2.2.2.2 ls r M) ∧ (x = 0 → nx ls r M)
  | .ifCond .lt _ => fw_i st fun x r => (x < 0 → jp e.2.2.2.2 ls r M) ∧ (¬ x < 0 → nx ls r M)
  | .ifCond .ge _ => fw_i st fun x r => (0 ≤ x → jp e.2.2.2.2 ls r M) ∧ (¬ 0 ≤ x → nx ls r M)
  | .ifCond .gt _ => fw_i st fun x r => (0 < x → jp e.2.2.2.2 ls r M) ∧ (¬ 0 < x → nx ls r M)
  | .ifCond .le _ => fw_i st fun x r => (x ≤ 0 → jp e.2.2.2.2 ls r M) ∧ (¬ x ≤ 0 → nx ls r M)
  | .ifnull _ => fw_a st (fun _ r => nx ls r M) (fun r => jp e.2.2.2.2 ls r M)
  | .ifnonnull _ => fw_a st (fun _ r => jp e.2.2.2.2 ls r M) (fun r => nx ls r M)
  | .goto _ => jp e.2.2.2.2 ls st M
  | .tableswitch d lo hi offs => fw_i st fun x r => fw_tsw x e.1 (fun t => jp t ls r M) offs.toList lo ∧ (x.toInt < lo ∨ hi < x.toInt → jp ((e.1 : Int) + d).toNat ls r M)
  | .lookupswitch d ps => fw_i st fun x r => fw_lsw x (fun o => jp ((e.1 : Int) + o).toNat ls r M) d ps.toList
  | .getfield i => fw_r st fun a r => fw_get B (fw_find i fld) a M fun v => nx ls (v :: r) M
  | .putfield i => fw_putv B (fw_find i fld) st M fun r M' => nx ls r M'
  | .iaload => fw_ri st fun a i r => fw_iald B scr a i M fun x => nx ls (.int x :: r) M
  | .iastore => fw_rii st fun a i x r => fw_iast B scr a i x M fun M' => nx ls r M'
  | .aaload => fw_ri st fun a i r => 8 ≤ fw_kd B a ∧ fw_kd B a ≤ 10 ∧ fw_sd (vp_in i (fw_al (fw_kd B a))) ∧ nx ls (.ref (fw_el (fw_kd B a) a i.toNatClampNeg) :: r) M
  | .arraylength => fw_r st fun a r => fw_alen B scr a fun x => nx ls (.int x :: r) M
  | .invokevirtual i => fw_call B 0 (fw_findC i cal) st M fun r M' => nx ls r M'
  | .invokestatic i => fw_call B 1 (fw_findC i cal) st M fun r M' => nx ls r M'
  | .new i => fw_newx QX (fw_find i thr) st M
  | .ireturn => fw_endi rt Q st M
  | .areturn => fw_enda rt Q st M
  | .lreturn => fw_endl rt Q st M
  | .dreturn => fw_endd rt Q st M
  | .return_ => fw_endv rt Q st M
  | _ => False
variable (code : List fw_Ent) (K : fw_K)
def fw_wp : Nat → Bool → List fw_Ent → fw_L → List Value → fw_M → Prop
  | 0, _, _, _, _, _ => False
  | _ + 1, _, [], _, _, _ => False
  | n + 1, b, e :: tl, ls, st, M => match b, K e.1 with
    | false, some q => q.2 (fw_mk q.1 ls) st M
    | _, _ => fw_stp B fld cal thr cst scr rt Q QX e ls st M (fun ls st M => fw_wp n false tl ls st M) (fun t ls st M => fw_wp n false (fw_seek t code) ls st M)
end STP
end WK
end
section
/-! THE WALKER IS SOUND: what it asks is enough over the machine -/
section SD
/-- a decoded row is as it says: lengths, numbers, targets, places of locals -/
def fw_lt (nL : Nat) (en : fw_Ent) : Bool := match en.2.2.1 with
  | .iconst n => Nat.beq en.2.1 1 && decide (Int32.ofInt n = en.2.2.2.1)
  | .bipush n => Nat.beq en.2.1 2 && decide ((Int8.ofInt n).toInt32 = en.2.2.2.1)
  | .sipush n => Nat.beq en.2.1 3 && decide ((Int16.ofInt n).toInt32 = en.2.2.2.1)
  | .ldc _ => Nat.beq en.2.1 2
  | .ldc_w _ => Nat.beq en.2.1 3
  | .ldc2_w _ => Nat.beq en.2.1 3
  | .dconst d => Nat.beq en.2.1 1 && decide (d = 1)
  | .iload _ => Nat.beq en.2.1 2
  | .aload _ => Nat.beq en.2.1 2
  | .lload _ => Nat.beq en.2.1 2
  | .dload _ => Nat.beq en.2.1 2
  | .istore_n k => Nat.beq en.2.1 1 && Nat.ble (k.val + 1) nL
  | .astore_n k => Nat.beq en.2.1 1 && Nat.ble (k.val + 1) nL
  | .istore k => Nat.beq en.2.1 2 && Nat.ble (k + 1) nL
  | .astore k => Nat.beq en.2.1 2 && Nat.ble (k + 1) nL
  | .lstore_n k => Nat.beq en.2.1 1 && Nat.ble (k.val + 2) nL
  | .dstore_n k => Nat.beq en.2.1 1 && Nat.ble (k.val + 2) nL
  | .lstore k => Nat.beq en.2.1 2 && Nat.ble (k + 2) nL
  | .dstore k => Nat.beq en.2.1 2 && Nat.ble (k + 2) nL
  | .iinc k n => Nat.beq en.2.1 3 && Nat.ble (k + 1) nL && decide (Int32.ofInt n = en.2.2.2.1)
  | .if_icmp _ off => Nat.beq en.2.1 3 && decide ((en.1 : Int) + off = (en.2.2.2.2 : Int))
  | .ifCond _ off => Nat.beq en.2.1 3 && decide ((en.1 : Int) + off = (en.2.2.2.2 : Int))
  | .ifnull off => Nat.beq en.2.1 3 && decide ((en.1 : Int) + off = (en.2.2.2.2 : Int))
  | .ifnonnull off => Nat.beq en.2.1 3 && decide ((en.1 : Int) + off = (en.2.2.2.2 : Int))
  | .goto off => Nat.beq en.2.1 3 && decide ((en.1 : Int) + off = (en.2.2.2.2 : Int))
  | .tableswitch d lo hi offs => decide ((offs.toList.length : Int) = hi - lo + 1) && decide (0 ≤ (en.1 : Int) + d) && offs.toList.all (fun o => decide (0 ≤ (en.1 : Int) + o))
  | .lookupswitch d ps => decide (0 ≤ (en.1 : Int) + d) && ps.toList.all (fun q => decide (0 ≤ (en.1 : Int) + q.2)) && (ps.toList.zip (ps.toList.drop 1)).all (fun q => decide (q.1.1 < q.2.1))
  | .getfield _ => Nat.beq en.2.1 3
  | .putfield _ => Nat.beq en.2.1 3
  | .invokevirtual _ => Nat.beq en.2.1 3
  | .invokestatic _ => Nat.beq en.2.1 3
  | .new _ => Nat.beq en.2.1 3
  | .invokespecial _ => Nat.beq en.2.1 3
  | _ => Nat.beq en.2.1 1
/-! locals as a list, over the machine's slots -/
def fw_as : Nat → fw_L → List (Nat × Value)
  | _, [] => []
  | k, none :: t => fw_as (k + 1) t
  | k, some v :: t => (k, v) :: fw_as (k + 1) t
def fw_lr (ls : fw_L) (la : Array Slot) (nL : Nat) : Prop := la.size = nL ∧ lv_wf la ∧ ∀ i v, fw_lg ls i = some v → la[i]? = some (.val v)
theorem fw_as_mem {ls : fw_L} {i : Nat} {v : Value} : ∀ {k : Nat}, fw_lg ls i = some v → (k + i, v) ∈ fw_as k ls := by
  induction ls generalizing i with
  | nil => intro k h; cases h
  | cons o t ih =>
    intro k h
    cases i with
    | zero =>
      have h : o = some v := h
      subst h
      exact List.mem_cons_self
    | succ i =>
      have h : fw_lg t i = some v := h
      have h2 := ih (k := k + 1) h
      rw [show k + 1 + i = k + (i + 1) by omega] at h2
      cases o with
      | none => exact h2
      | some w => exact List.mem_cons_of_mem _ h2
theorem fw_as_lg {ls : fw_L} {q : Nat × Value} : ∀ {k : Nat}, q ∈ fw_as k ls → ∃ i, q.1 = k + i ∧ fw_lg ls i = some q.2 := by
  induction ls with
  | nil => intro k h; cases h
  | cons o t ih =>
    intro k h
    cases o with
    | none =>
      obtain ⟨i, h1, h2⟩ := ih (k := k + 1) h
      exact ⟨i + 1, by omega, h2⟩
    | some w =>
      rcases List.mem_cons.mp h with h | h
      · subst h
        exact ⟨0, rfl, rfl⟩
      · obtain ⟨i, h1, h2⟩ := ih (k := k + 1) h
        exact ⟨i + 1, by omega, h2⟩
theorem fw_lr_has {ls : fw_L} {la : Array Slot} {nL : Nat} (h : fw_lr ls la nL) : lv_has la nL (fw_as 0 ls) := ⟨h.1, h.2.1, fun q hq => by
  obtain ⟨i, h1, h2⟩ := fw_as_lg hq
  rw [h1, Nat.zero_add]
  exact h.2.2 i _ h2⟩
theorem fw_lg_s1 {ls : fw_L} {v w : Value} : ∀ {i j : Nat}, fw_lg (fw_s1 ls i v) j = some w → (j = i ∧ w = v) ∨ (j ≠ i ∧ fw_lg ls j = some w ∧ ¬ (j + 1 = i ∧ w.category = 2)) := by
  induction ls with
  | nil => intro i j h; cases h
  | cons o t ih =>
    intro i j h
    match i, j, h with
    | 0, 0, h =>
      have h : some v = some w := h
      exact Or.inl ⟨rfl, (Option.some.inj h).symm⟩
    | 0, j + 1, h =>
      have h : fw_lg t j = some w := h
      exact Or.inr ⟨by omega, h, by omega⟩
    | 1, 0, h =>
      have h : (bif fw_c2 o then none else o) = some w := h
      cases hc : fw_c2 o with
      | true => rw [hc] at h; cases h
      | false =>
        rw [hc] at h
        have h : o = some w := h
        subst h
        refine Or.inr ⟨by omega, rfl, fun q => ?_⟩
        cases w <;> simp_all [fw_c2, Value.category]
    | 1, j + 1, h =>
      have h : fw_lg (fw_s1 t 0 v) j = some w := h
      rcases ih h with ⟨h1, h2⟩ | ⟨h1, h2, h3⟩
      · exact Or.inl ⟨by omega, h2⟩
      · exact Or.inr ⟨by omega, h2, by omega⟩
    | i + 2, 0, h =>
      have h : o = some w := h
      exact Or.inr ⟨by omega, h, by omega⟩
    | i + 2, j + 1, h =>
      have h : fw_lg (fw_s1 t (i + 1) v) j = some w := h
      rcases ih h with ⟨h1, h2⟩ | ⟨h1, h2, h3⟩
      · exact Or.inl ⟨by omega, h2⟩
      · exact Or.inr ⟨by omega, h2, by omega⟩
theorem fw_lg_s2 {v w : Value} : ∀ {ls : fw_L} {i j : Nat}, fw_lg (fw_s2 ls i v) j = some w → (j = i ∧ w = v) ∨ (j ≠ i ∧ j ≠ i + 1 ∧ fw_lg ls j = some w ∧ ¬ (j + 1 = i ∧ w.category = 2)) := by
  intro ls
  induction ls with
  | nil => intro i j h; cases h
  | cons o t ih =>
    intro i j h
    match i, j, h with
    | 0, j, h =>
      rcases t with _ | ⟨u, t⟩
      · cases h
      · match j, h with
        | 0, h =>
          have h : some v = some w := h
          exact Or.inl ⟨rfl, (Option.some.inj h).symm⟩
        | 1, h => cases h
        | j + 2, h =>
          have h : fw_lg t j = some w := h
          exact Or.inr ⟨by omega, by omega, h, by omega⟩
    | 1, 0, h =>
      have h : (bif fw_c2 o then none else o) = some w := by cases t <;> exact h
      cases hc : fw_c2 o with
      | true => rw [hc] at h; cases h
      | false =>
        rw [hc] at h
        have h : o = some w := h
        subst h
        refine Or.inr ⟨by omega, by omega, rfl, fun q => ?_⟩
        cases w <;> simp_all [fw_c2, Value.category]
    | 1, j + 1, h =>
      have h : fw_lg (fw_s2 t 0 v) j = some w := by cases t <;> exact h
      rcases ih h with ⟨h1, h2⟩ | ⟨h1, h1', h2, h3⟩
      · exact Or.inl ⟨by omega, h2⟩
      · exact Or.inr ⟨by omega, by omega, h2, by omega⟩
    | i + 2, 0, h =>
      have h : o = some w := by cases t <;> exact h
      exact Or.inr ⟨by omega, by omega, h, by omega⟩
    | i + 2, j + 1, h =>
      have h : fw_lg (fw_s2 t (i + 1) v) j = some w := by cases t <;> exact h
      rcases ih h with ⟨h1, h2⟩ | ⟨h1, h1', h2, h3⟩
      · exact Or.inl ⟨by omega, h2⟩
      · exact Or.inr ⟨by omega, by omega, h2, by omega⟩
theorem fw_lr_s1 {ls : fw_L} {la : Array Slot} {nL i : Nat} {v : Value} (h : lv_has la nL ((i, v) :: (fw_as 0 ls).filter (fun q => !(q.1 == i) && !(q.1 + 1 == i && q.2.category == 2)))) : fw_lr (fw_s1 ls i v) la nL := by
  refine ⟨h.1, h.2.1, fun j w hj => ?_⟩
  rcases fw_lg_s1 hj with ⟨rfl, rfl⟩ | ⟨h1, h2, h3⟩
  · exact h.2.2 (j, w) List.mem_cons_self
  · refine h.2.2 (j, w) (List.mem_cons_of_mem _ (List.mem_filter.mpr ⟨by have := fw_as_mem (k := 0) h2; rwa [Nat.zero_add] at this, ?_⟩))
    simp only [Bool.and_eq_true, Bool.not_eq_true', beq_eq_false_iff_ne, Bool.and_eq_false_iff]
    refine ⟨h1, ?_⟩
    by_cases q : j + 1 = i
    · exact Or.inr (fun z => h3 ⟨q, z⟩)
    · exact Or.inl q
theorem fw_lr_s2 {ls : fw_L} {la : Array Slot} {nL i : Nat} {v : Value} (h : lv_has la nL ((i, v) :: (fw_as 0 ls).filter (fun q => !(q.1 == i) && (!(q.1 == i + 1) && !(q.1 + 1 == i && q.2.category == 2))))) : fw_lr (fw_s2 ls i v) la nL := by
  refine ⟨h.1, h.2.1, fun j w hj => ?_⟩
  rcases fw_lg_s2 hj with ⟨rfl, rfl⟩ | ⟨h1, h1', h2, h3⟩
  · exact h.2.2 (j, w) List.mem_cons_self
  · refine h.2.2 (j, w) (List.mem_cons_of_mem _ (List.mem_filter.mpr ⟨by have := fw_as_mem (k := 0) h2; rwa [Nat.zero_add] at this, ?_⟩))
    simp only [Bool.and_eq_true, Bool.not_eq_true', beq_eq_false_iff_ne, Bool.and_eq_false_iff]
    refine ⟨h1, h1', ?_⟩
    by_cases q : j + 1 = i
    · exact Or.inr (fun z => h3 ⟨q, z⟩)
    · exact Or.inl q
theorem fw_lr_mk {ls : fw_L} {la : Array Slot} {nL : Nat} (h : fw_lr ls la nL) (bs : List Bool) : fw_lr (fw_mk bs ls) la nL := by
  have k : ∀ (bs : List Bool) (ls : fw_L) (i : Nat) (v : Value), fw_lg (fw_mk bs ls) i = some v → fw_lg ls i = some v := by
    intro bs
    induction bs with
    | nil => intro ls i v h; cases h
    | cons b bs ih =>
      intro ls i v h
      cases ls with
      | nil => cases h
      | cons o ls =>
        cases i with
        | zero =>
          have h : (bif b then o else none) = some v := h
          cases b with
          | true => exact h
          | false => cases h
        | succ i => exact ih ls i v h
  exact ⟨h.1, h.2.1, fun i v hi => h.2.2 i v (k bs ls i v hi)⟩
/-! lookups -/
theorem fw_find_mem {α : Type} {i : Nat} {L : List (Nat × α)} {x : α} (h : fw_find i L = some x) : (i, x) ∈ L := by
  induction L with
  | nil => cases h
  | cons q t ih =>
    unfold fw_find at h
    cases hb : Nat.beq q.1 i with
    | true =>
      rw [hb] at h
      have h : some q.2 = some x := h
      have e := Nat.eq_of_beq_eq_true hb
      rw [← Option.some.inj h, ← e]
      exact List.mem_cons_self
    | false =>
      rw [hb] at h
      exact List.mem_cons_of_mem _ (ih h)
theorem fw_findC_mem {i : Nat} {L : List fw_Cal} {x : Nat × Nat × Nat × Nat × fw_CT} (h : fw_findC i L = some x) : (i, x) ∈ L := by
  induction L with
  | nil => cases h
  | cons q t ih =>
    unfold fw_findC at h
    cases hb : Nat.beq q.1 i with
    | true =>
      rw [hb] at h
      have h : some q.2 = some x := h
      have e := Nat.eq_of_beq_eq_true hb
      rw [← Option.some.inj h, ← e]
      exact List.mem_cons_self
    | false =>
      rw [hb] at h
      exact List.mem_cons_of_mem _ (ih h)
/-! the tables of fields -/
theorem fw_cl_get : ∀ ci, ci < 6 → vwCl[ci]? = some (fw_cl ci) := by
  intro ci h
  match ci, h with
  | 0, _ => rfl
  | 1, _ => rfl
  | 2, _ => rfl
  | 3, _ => rfl
  | 4, _ => rfl
  | 5, _ => rfl
  | n + 6, h => omega
theorem fw_cl_n : ∀ ci, ci < 6 → (fw_cl ci).2.2 = fw_nf ci := by
  intro ci h
  match ci, h with
  | 0, _ => rfl
  | 1, _ => rfl
  | 2, _ => rfl
  | 3, _ => rfl
  | 4, _ => rfl
  | 5, _ => rfl
  | n + 6, h => omega
theorem fw_cl_w : ∀ ci, ci < 6 → ∀ w ∈ u_ws (fw_cl ci).1 (fw_cl ci).2.1 (fw_cl ci).2.2, w ∈ fw_LW := by
  intro ci h
  match ci, h with
  | 0, _ => exact wu_0
  | 1, _ => exact wu_1
  | 2, _ => exact wu_2
  | 3, _ => exact wu_3
  | 4, _ => exact wu_4
  | 5, _ => exact wu_5
  | n + 6, h => omega
def fw_ty : Nat → Nat → FieldType
  | 0 => tyX0
  | 1 => tyX1
  | 2 => tyX2
  | 3 => tyX3
  | 4 => tyX4
  | _ => tyX5
theorem fw_ty_ok : ∀ ci, ci < 6 → ∀ k, k < (fw_cl ci).2.2 → parseFieldDescriptor ((fw_cl ci).2.1 k).2.2.1 = some (fw_ty ci k) := by
  intro ci h
  match ci, h with
  | 0, _ => exact tyX0_ok
  | 1, _ => exact tyX1_ok
  | 2, _ => exact tyX2_ok
  | 3, _ => exact tyX3_ok
  | 4, _ => exact tyX4_ok
  | 5, _ => exact tyX5_ok
  | n + 6, h => omega
theorem fw_nm_ok : ∀ ci, ci < 6 → ∀ a, a < (fw_cl ci).2.2 → ∀ b, b < (fw_cl ci).2.2 → a ≠ b → ((fw_cl ci).2.1 a).2.1 ≠ ((fw_cl ci).2.1 b).2.1 := by
  intro ci h
  match ci, h with
  | 0, _ => exact nmX0
  | 1, _ => exact nmX1
  | 2, _ => exact nmX2
  | 3, _ => exact nmX3
  | 4, _ => exact nmX4
  | 5, _ => exact nmX5
  | n + 6, h => omega
theorem fw_c0 : ∀ ci, ci < 6 → ∀ k, k < fw_nf ci → fw_fc ci k = 0 → ((fw_cl ci).2.1 k).2.2.2 = false ∧ parseFieldDescriptor ((fw_cl ci).2.1 k).2.2.1 = some .int := by decide +kernel
def fw_Fld (own : String) (fld : List (Nat × Nat × Nat)) : Prop := ∀ q ∈ fld, q.2.1 < 6 ∧ q.2.2 < fw_nf q.2.1 ∧ ((fw_cl q.2.1).2.1 q.2.2).1 = (fw_cl q.2.1).1 ∧ Cond.fieldLink own q.1 (fw_cl q.2.1).1 ((fw_cl q.2.1).2.1 q.2.2).2.1 ((fw_cl q.2.1).2.1 q.2.2).2.2.1 ∈ fw_LW
end SD
end
section
/-! SOUNDNESS of a step, of a stretch, of a body with loops -/
section SW
variable {p : Program} {l : Launch} {e : Env} {R : Room} {s : State} {m : MethodId} {args : Array Value} {below : List Frame} {meth : Method} {c : Code} {Qs : State → Prop} {cc : ByteArray} {nL B : Nat} {g : fw_G} {cf sf : Nat → Nat} {own : String}
variable {fld : List (Nat × Nat × Nat)} {cal : List fw_Cal} {thr : List (Nat × String)} {cst : List (Nat × Value)} {scr : Option (Nat × Nat × Option (Nat → Int32))} {rt : Option FieldType} {Q : Option Value → fw_M → Prop} {QX : String → fw_M → Prop}
def fw_Env (p : Program) (s : State) (m : MethodId) (args : Array Value) (c : Code) (cc : ByteArray) (nL : Nat) (g : fw_G) (own : String) : Prop :=
  p.tables.exec = Jvm.exec ∧ c.code = cc ∧ c.maxLocals = nL ∧ s.vm.findClass own = some m.cls ∧ (∀ w ∈ fw_LW, w.before args s = true) ∧ va_K g.1 vwCl (fw_tys g) s
/-- from here, with these locals, this stack, this memory, the machine comes to Qs -/
def fw_WW (p : Program) (l : Launch) (e : Env) (R : Room) (s : State) (m : MethodId) (args : Array Value) (below : List Frame) (meth : Method) (c : Code) (nL B : Nat) (g : fw_G) (cf sf : Nat → Nat) (Qs : State → Prop) (pc : Nat) (ls : fw_L) (st : List Value) (M : fw_M) : Prop :=
  ∀ (H : Heap) (locs : List Loc) (la : Array Slot), va_P g.1 vwCl (fw_WL g B M) H → va_S (fun q => B ≤ q) s.heap H locs → fw_lr ls la nL → W p l e R s m args below meth c H locs (cf M.2.2) (sf M.2.2) Qs (F0 m pc la st)
def fw_CallOK (p : Program) (l : Launch) (e : Env) (R : Room) (s : State) (m : MethodId) (args : Array Value) (below : List Frame) (meth : Method) (c : Code) (cc : ByteArray) (nL B : Nat) (g : fw_G) (cf sf : Nat → Nat) (Qs : State → Prop) (q : fw_Cal) : Prop :=
  ∀ (pc : Nat) (as rest : List Value) (M : fw_M) (ls : fw_L) (Qr : Option Value → fw_M → Prop),
    ((q.2.1 = 0 ∧ decode cc pc = .ok (.invokevirtual q.1, 3) ∧ ∃ b as', as = .ref b :: as' ∧ fw_kd B b = q.2.2.1) ∨ (q.2.1 = 1 ∧ decode cc pc = .ok (.invokestatic q.1, 3))) →
    as.length = q.2.2.2.1 → (rest.map fun v => v.category).sum ≤ 8 → q.2.2.2.2.2 as M Qr →
    (∀ r M', Qr r M' → fw_WW p l e R s m args below meth c nL B g cf sf Qs (pc + 3) ls (r.toList ++ rest) (fw_inc q.2.2.2.2.1 M M')) →
    fw_WW p l e R s m args below meth c nL B g cf sf Qs pc ls (as.reverse ++ rest) M
def fw_ThrOK (p : Program) (l : Launch) (e : Env) (R : Room) (s : State) (m : MethodId) (args : Array Value) (below : List Frame) (meth : Method) (c : Code) (cc : ByteArray) (nL B : Nat) (g : fw_G) (cf sf : Nat → Nat) (Qs : State → Prop) (QX : String → fw_M → Prop) (q : Nat × String) : Prop :=
  ∀ (pc : Nat) (ls : fw_L) (M : fw_M), decode cc pc = .ok (.new q.1, 3) → (decode cc (pc + 3) = .ok (.dup, 1) ∧ decode cc (pc + 4) = .ok (.invokespecial (q.1 + 2), 3) ∧ decode cc (pc + 7) = .ok (.athrow, 1)) → QX q.2 M → fw_WW p l e R s m args below meth c nL B g cf sf Qs pc ls [] M
def fw_RetOK (p : Program) (l : Launch) (e : Env) (R : Room) (s : State) (m : MethodId) (args : Array Value) (below : List Frame) (meth : Method) (c : Code) (cc : ByteArray) (nL B : Nat) (g : fw_G) (cf sf : Nat → Nat) (Qs : State → Prop) (rt : Option FieldType) (Q : Option Value → fw_M → Prop) : Prop :=
  ∀ (pc : Nat) (ls : fw_L) (st : List Value) (M : fw_M),
    (decode cc pc = .ok (.ireturn, 1) → fw_endi rt Q st M → fw_WW p l e R s m args below meth c nL B g cf sf Qs pc ls st M) ∧
    (decode cc pc = .ok (.areturn, 1) → fw_enda rt Q st M → fw_WW p l e R s m args below meth c nL B g cf sf Qs pc ls st M) ∧
    (decode cc pc = .ok (.lreturn, 1) → fw_endl rt Q st M → fw_WW p l e R s m args below meth c nL B g cf sf Qs pc ls st M) ∧
    (decode cc pc = .ok (.dreturn, 1) → fw_endd rt Q st M → fw_WW p l e R s m args below meth c nL B g cf sf Qs pc ls st M) ∧
    (decode cc pc = .ok (.return_, 1) → fw_endv rt Q st M → fw_WW p l e R s m args below meth c nL B g cf sf Qs pc ls st M)
def fw_NewOK (cc : ByteArray) (en : fw_Ent) : Prop := match en.2.2.1 with
  | .new k => decode cc (en.1 + 3) = .ok (.dup, 1) ∧ decode cc (en.1 + 4) = .ok (.invokespecial (k + 2), 3) ∧ decode cc (en.1 + 7) = .ok (.athrow, 1)
  | _ => True
def fw_ScrOK (s : State) (B : Nat) (g : fw_G) (scr : Option (Nat × Nat × Option (Nat → Int32))) : Prop := match scr with
  | none => True
  | some (b, L, some xs) => va_X b L xs s s.heap ∧ b < s.heap.size ∧ ¬ B ≤ b
  | some (b, L, none) => L = 4 ∧ ∃ n, g.2.2 = n + 1 ∧ b = B + 497 + n
/-- the constants of the code are the pool's -/
def fw_CstOK (own : String) (cst : List (Nat × Value)) (en : fw_Ent) : Prop := match en.2.2.1 with
  | .ldc i => Cond.constant own i en.2.2.2.1 ∈ fw_LW
  | .ldc_w i => Cond.constant own i en.2.2.2.1 ∈ fw_LW
  | .ldc2_w i => ∀ v, fw_find i cst = some (.long v) → Cond.constantLong own i v ∈ fw_LW
  | _ => True
theorem fw_and2 {a b : Bool} (h : (a && b) = true) : a = true ∧ b = true := by
  cases a <;> cases b <;> simp_all
theorem fw_call_ok {q : Nat × Nat × Nat × Nat × fw_CT} {i kind : Nat} {pc : Nat} {ls : fw_L} {st : List Value} {M : fw_M} {k : List Value → fw_M → Prop}
    (hcal : fw_CallOK p l e R s m args below meth c cc nL B g cf sf Qs (i, q)) (hd : (kind = 0 ∧ decode cc pc = .ok (.invokevirtual i, 3)) ∨ (kind = 1 ∧ decode cc pc = .ok (.invokestatic i, 3)))
    (hk : ∀ st M, k st M → fw_WW p l e R s m args below meth c nL B g cf sf Qs (pc + 3) ls st M) (h : fw_call B kind (some q) st M k) : fw_WW p l e R s m args below meth c nL B g cf sf Qs pc ls st M := by
  obtain ⟨kd, ci, n, inc, ct⟩ := q
  have h : (bif Nat.beq kd kind && Nat.ble n st.length && Nat.ble (((st.drop n).map fun v => v.category).sum) 8 then fw_rcv B kind ci (st.take n).reverse (fw_cti inc ct (st.take n).reverse M (fun r M' => k (r.toList ++ st.drop n) M')) else False) := h
  cases hb : (Nat.beq kd kind && Nat.ble n st.length && Nat.ble (((st.drop n).map fun v => v.category).sum) 8) with
  | false => rw [hb] at h; exact h.elim
  | true =>
    rw [hb] at h
    have h5 : fw_rcv B kind ci (st.take n).reverse (fw_cti inc ct (st.take n).reverse M (fun r M' => k (r.toList ++ st.drop n) M')) := h
    clear h
    obtain ⟨hb1, hb3⟩ := fw_and2 hb
    obtain ⟨hb1, hb2⟩ := fw_and2 hb1
    have e1 : kd = kind := Nat.eq_of_beq_eq_true hb1
    have e2 : n ≤ st.length := Nat.le_of_ble_eq_true hb2
    have e3 := Nat.le_of_ble_eq_true hb3
    have hst : st = ((st.take n).reverse).reverse ++ st.drop n := by rw [List.reverse_reverse, List.take_append_drop]
    have hlen : ((st.take n).reverse).length = n := by rw [List.length_reverse, List.length_take]; omega
    clear hb hb1 hb2 e2
    generalize st.drop n = rest at h5 e3 hst
    generalize (st.take n).reverse = as at h5 hst hlen
    subst hst
    rcases hd with ⟨rfl, hd⟩ | ⟨rfl, hd⟩
    · rcases as with _ | ⟨v, as'⟩
      · exact h5.elim
      · cases v <;> first | exact h5.elim | skip
        obtain ⟨hkd, h6⟩ := h5
        exact hcal pc _ rest M ls _ (Or.inl ⟨e1, hd, _, as', rfl, hkd⟩) hlen e3 (fw_cti_e h6) (fun r M' hq => hk _ _ hq)
    · exact hcal pc as rest M ls _ (Or.inr ⟨e1, hd⟩) hlen e3 (fw_cti_e (k := fun r M' => k (r.toList ++ rest) M') (by cases as <;> exact h5)) (fun r M' hq => hk _ _ hq)
theorem fw_tsw_in {x : Int32} {pc : Nat} {jp : Nat → Prop} : ∀ {offs : List Int} {lo : Int}, fw_tsw x pc jp offs lo → ∀ (j : Nat) (o : Int), offs[j]? = some o → x.toInt = lo + j → jp ((pc : Int) + o).toNat := by
  intro offs
  induction offs with
  | nil => intro lo h j o hj; cases hj
  | cons a t ih =>
    intro lo h j o hj hx
    cases j with
    | zero =>
      have hj : some a = some o := hj
      cases hj
      exact h.1 (by omega)
    | succ j => exact ih h.2 j o hj (by omega)
theorem fw_lsw_in {x : Int32} {jp : Int → Prop} {d : Int} : ∀ {ps : List (Int × Int)}, fw_lsw x jp d ps → jp (Op.lookupswitch.offset ps d x.toInt) ∧ (Op.lookupswitch.offset ps d x.toInt = d ∨ ∃ q ∈ ps, q.2 = Op.lookupswitch.offset ps d x.toInt) := by
  intro ps
  induction ps with
  | nil =>
    intro h
    exact ⟨h, Or.inl rfl⟩
  | cons q t ih =>
    intro h
    by_cases hq : x.toInt = q.1
    · have e : Op.lookupswitch.offset (q :: t) d x.toInt = q.2 := by
        rw [show q :: t = (q.1, q.2) :: t from rfl, Op.lookupswitch.offset_cons, if_pos hq.symm]
      rw [e]
      exact ⟨h.1 hq, Or.inr ⟨q, List.mem_cons_self, rfl⟩⟩
    · have e : Op.lookupswitch.offset (q :: t) d x.toInt = Op.lookupswitch.offset t d x.toInt := by
        rw [show q :: t = (q.1, q.2) :: t from rfl, Op.lookupswitch.offset_cons, if_neg (fun z => hq z.symm)]
      rw [e]
      obtain ⟨h1, h2⟩ := ih (h.2 hq)
      refine ⟨h1, ?_⟩
      rcases h2 with h2 | ⟨q', h2, h3⟩
      · exact Or.inl h2
      · exact Or.inr ⟨q', List.mem_cons_of_mem _ h2, h3⟩
set_option maxHeartbeats 4000000 in
set_option maxRecDepth 20000 in
theorem fw_stp_sound (E : fw_Env p s m args c cc nL g own) {en : fw_Ent} {ls : fw_L} {st : List Value} {M : fw_M} {nx : fw_L → List Value → fw_M → Prop} {jp : Nat → fw_L → List Value → fw_M → Prop}
    (hd : decode cc en.1 = .ok (en.2.2.1, en.2.1)) (ht : fw_lt nL en = true) (hfld : fw_Fld own fld) (hcst : fw_CstOK own cst en) (hnw : fw_NewOK cc en) (hscr : fw_ScrOK s B g scr)
    (hcal : ∀ q ∈ cal, fw_CallOK p l e R s m args below meth c cc nL B g cf sf Qs q) (hthr : ∀ q ∈ thr, fw_ThrOK p l e R s m args below meth c cc nL B g cf sf Qs QX q) (hret : fw_RetOK p l e R s m args below meth c cc nL B g cf sf Qs rt Q)
    (hnx : ∀ ls st M, nx ls st M → fw_WW p l e R s m args below meth c nL B g cf sf Qs (en.1 + en.2.1) ls st M) (hjp : ∀ t ls st M, jp t ls st M → fw_WW p l e R s m args below meth c nL B g cf sf Qs t ls st M)
    (h : fw_stp B fld cal thr cst scr rt Q QX en ls st M nx jp) : fw_WW p l e R s m args below meth c nL B g cf sf Qs en.1 ls st M := by
  obtain ⟨pc, len, i, num, tgt⟩ := en
  obtain ⟨hx, hb, hml, hown, hts, hK⟩ := E
  dsimp only at hd hnx ⊢
  cases i with
  | aconst_null =>
    have ht : Nat.beq len 1 = true := ht
    have hl9 := Nat.eq_of_beq_eq_true ht
    subst hl9
    intro H locs la hP hS hl
    exact lv_null hx hb hd (hnx _ _ _ h H locs la hP hS hl)
  | iconst n =>
    obtain ⟨ht, hv⟩ := fw_and2 ht
    have hl9 := Nat.eq_of_beq_eq_true ht
    dsimp only at hl9
    subst hl9
    have hv := of_decide_eq_true hv
    intro H locs la hP hS hl
    exact lv_iconst hx hb hd hv (hnx _ _ _ h H locs la hP hS hl)
  | bipush n =>
    obtain ⟨ht, hv⟩ := fw_and2 ht
    have hl9 := Nat.eq_of_beq_eq_true ht
    dsimp only at hl9
    subst hl9
    have hv := of_decide_eq_true hv
    intro H locs la hP hS hl
    exact lv_bipush hx hb hd hv (hnx _ _ _ h H locs la hP hS hl)
  | sipush n =>
    obtain ⟨ht, hv⟩ := fw_and2 ht
    have hl9 := Nat.eq_of_beq_eq_true ht
    dsimp only at hl9
    subst hl9
    have hv := of_decide_eq_true hv
    intro H locs la hP hS hl
    exact lv_sipush hx hb hd hv (hnx _ _ _ h H locs la hP hS hl)
  | ldc k =>
    have ht : Nat.beq len 2 = true := ht
    have hl9 := Nat.eq_of_beq_eq_true ht
    subst hl9
    intro H locs la hP hS hl
    exact lv_ldc hx hb hown (hts _ hcst) hd (hnx _ _ _ h H locs la hP hS hl)
  | ldc_w k =>
    have ht : Nat.beq len 3 = true := ht
    have hl9 := Nat.eq_of_beq_eq_true ht
    subst hl9
    intro H locs la hP hS hl
    exact lv_ldcw hx hb hown (hts _ hcst) hd (hnx _ _ _ h H locs la hP hS hl)
  | ldc2_w k =>
    have ht : Nat.beq len 3 = true := ht
    have hl9 := Nat.eq_of_beq_eq_true ht
    subst hl9
    have h : (match fw_find k cst with | some (.long v) => nx ls (.long v :: st) M | _ => False) := h
    split at h
    · rename_i v hv
      intro H locs la hP hS hl
      exact lv_ldc2 hx hb hown (hts _ (hcst v hv)) hd (hnx _ _ _ h H locs la hP hS hl)
    · exact h.elim
  | dconst d =>
    obtain ⟨ht, hv⟩ := fw_and2 ht
    have hl9 := Nat.eq_of_beq_eq_true ht
    dsimp only at hl9
    subst hl9
    have hv : d = 1 := of_decide_eq_true hv
    subst hv
    intro H locs la hP hS hl
    exact lv_dconst1 hx hb hd (hnx _ _ _ h H locs la hP hS hl)
  | iload_n k =>
    have ht : Nat.beq len 1 = true := ht
    have hl9 := Nat.eq_of_beq_eq_true ht
    subst hl9
    obtain ⟨x, hx1, h⟩ := fw_li_e h
    intro H locs la hP hS hl
    exact lv_iload_n hx hb hd rfl (hl.2.2 _ _ hx1) (hnx _ _ _ h H locs la hP hS hl)
  | iload k =>
    have ht : Nat.beq len 2 = true := ht
    have hl9 := Nat.eq_of_beq_eq_true ht
    subst hl9
    obtain ⟨x, hx1, h⟩ := fw_li_e h
    intro H locs la hP hS hl
    exact lv_iload hx hb hd (hl.2.2 _ _ hx1) (hnx _ _ _ h H locs la hP hS hl)
  | lload_n k =>
    have ht : Nat.beq len 1 = true := ht
    have hl9 := Nat.eq_of_beq_eq_true ht
    subst hl9
    obtain ⟨x, hx1, h⟩ := fw_lo64_e h
    intro H locs la hP hS hl
    exact lv_lload_n hx hb hd rfl (hl.2.2 _ _ hx1) (hnx _ _ _ h H locs la hP hS hl)
  | lload k =>
    have ht : Nat.beq len 2 = true := ht
    have hl9 := Nat.eq_of_beq_eq_true ht
    subst hl9
    obtain ⟨x, hx1, h⟩ := fw_lo64_e h
    intro H locs la hP hS hl
    exact lv_lload hx hb hd (hl.2.2 _ _ hx1) (hnx _ _ _ h H locs la hP hS hl)
  | dload_n k =>
    have ht : Nat.beq len 1 = true := ht
    have hl9 := Nat.eq_of_beq_eq_true ht
    subst hl9
    obtain ⟨x, hx1, h⟩ := fw_ld64_e h
    intro H locs la hP hS hl
    exact lv_dload_n hx hb hd rfl (hl.2.2 _ _ hx1) (hnx _ _ _ h H locs la hP hS hl)
  | dload k =>
    have ht : Nat.beq len 2 = true := ht
    have hl9 := Nat.eq_of_beq_eq_true ht
    subst hl9
    obtain ⟨x, hx1, h⟩ := fw_ld64_e h
    intro H locs la hP hS hl
    exact lv_dload hx hb hd (hl.2.2 _ _ hx1) (hnx _ _ _ h H locs la hP hS hl)
  | aload_n k =>
    have ht : Nat.beq len 1 = true := ht
    have hl9 := Nat.eq_of_beq_eq_true ht
    subst hl9
    have h : fw_la (fw_lg ls k.val) (fun x => nx ls (x :: st) M) := h
    rcases fw_la_e h with ⟨x, hx1, h⟩ | ⟨hx1, h⟩
    · intro H locs la hP hS hl
      exact lv_aload_n hx hb hd rfl (hl.2.2 _ _ hx1) (hnx _ _ _ h H locs la hP hS hl)
    · intro H locs la hP hS hl
      exact lv_aload_nN hx hb hd rfl (hl.2.2 _ _ hx1) (hnx _ _ _ h H locs la hP hS hl)
  | aload k =>
    have ht : Nat.beq len 2 = true := ht
    have hl9 := Nat.eq_of_beq_eq_true ht
    subst hl9
    have h : fw_la (fw_lg ls k) (fun x => nx ls (x :: st) M) := h
    rcases fw_la_e h with ⟨x, hx1, h⟩ | ⟨hx1, h⟩
    · intro H locs la hP hS hl
      exact lv_aload hx hb hd (hl.2.2 _ _ hx1) (hnx _ _ _ h H locs la hP hS hl)
    · intro H locs la hP hS hl
      exact lv_aloadN hx hb hd (hl.2.2 _ _ hx1) (hnx _ _ _ h H locs la hP hS hl)
  | istore_n k =>
    obtain ⟨ht, hk⟩ := fw_and2 ht
    have hl9 := Nat.eq_of_beq_eq_true ht
    dsimp only at hl9
    subst hl9
    have hk := Nat.le_of_ble_eq_true hk
    obtain ⟨x, r, rfl, h⟩ := fw_i_e h
    intro H locs la hP hS hl
    exact lv_istore_n hx hb hd rfl (fw_lr_has hl) (by omega) rfl (fun la hl => hnx _ _ _ h H locs la hP hS (fw_lr_s1 hl))
  | istore k =>
    obtain ⟨ht, hk⟩ := fw_and2 ht
    have hl9 := Nat.eq_of_beq_eq_true ht
    dsimp only at hl9
    subst hl9
    have hk := Nat.le_of_ble_eq_true hk
    obtain ⟨x, r, rfl, h⟩ := fw_i_e h
    intro H locs la hP hS hl
    exact lv_istore hx hb hd (fw_lr_has hl) (by omega) rfl (fun la hl => hnx _ _ _ h H locs la hP hS (fw_lr_s1 hl))
  | lstore_n k =>
    obtain ⟨ht, hk⟩ := fw_and2 ht
    have hl9 := Nat.eq_of_beq_eq_true ht
    dsimp only at hl9
    subst hl9
    have hk := Nat.le_of_ble_eq_true hk
    obtain ⟨x, r, rfl, h⟩ := fw_l_e h
    intro H locs la hP hS hl
    exact lv_lstore_n hx hb hd rfl (fw_lr_has hl) (by omega) rfl (fun la hl => hnx _ _ _ h H locs la hP hS (fw_lr_s2 hl))
  | lstore k =>
    obtain ⟨ht, hk⟩ := fw_and2 ht
    have hl9 := Nat.eq_of_beq_eq_true ht
    dsimp only at hl9
    subst hl9
    have hk := Nat.le_of_ble_eq_true hk
    obtain ⟨x, r, rfl, h⟩ := fw_l_e h
    intro H locs la hP hS hl
    exact lv_lstore hx hb hd (fw_lr_has hl) (by omega) rfl (fun la hl => hnx _ _ _ h H locs la hP hS (fw_lr_s2 hl))
  | dstore_n k =>
    obtain ⟨ht, hk⟩ := fw_and2 ht
    have hl9 := Nat.eq_of_beq_eq_true ht
    dsimp only at hl9
    subst hl9
    have hk := Nat.le_of_ble_eq_true hk
    obtain ⟨x, r, rfl, h⟩ := fw_d_e h
    intro H locs la hP hS hl
    exact lv_dstore_n hx hb hd rfl (fw_lr_has hl) (by omega) rfl (fun la hl => hnx _ _ _ h H locs la hP hS (fw_lr_s2 hl))
  | dstore k =>
    obtain ⟨ht, hk⟩ := fw_and2 ht
    have hl9 := Nat.eq_of_beq_eq_true ht
    dsimp only at hl9
    subst hl9
    have hk := Nat.le_of_ble_eq_true hk
    obtain ⟨x, r, rfl, h⟩ := fw_d_e h
    intro H locs la hP hS hl
    exact lv_dstore hx hb hd (fw_lr_has hl) (by omega) rfl (fun la hl => hnx _ _ _ h H locs la hP hS (fw_lr_s2 hl))
  | astore_n k =>
    obtain ⟨ht, hk⟩ := fw_and2 ht
    have hl9 := Nat.eq_of_beq_eq_true ht
    dsimp only at hl9
    subst hl9
    have hk := Nat.le_of_ble_eq_true hk
    have h : fw_a st (fun x r => nx (fw_s1 ls k.val x) r M) (fun r => nx (fw_s1 ls k.val .null) r M) := h
    rcases fw_a_e h with ⟨x, r, rfl, h⟩ | ⟨r, rfl, h⟩
    · intro H locs la hP hS hl
      exact lv_astore_n hx hb hd rfl (fw_lr_has hl) (by omega) rfl (fun la hl => hnx _ _ _ h H locs la hP hS (fw_lr_s1 hl))
    · intro H locs la hP hS hl
      exact lv_astore_nN hx hb hd rfl (fw_lr_has hl) (by omega) rfl (fun la hl => hnx _ _ _ h H locs la hP hS (fw_lr_s1 hl))
  | astore k =>
    obtain ⟨ht, hk⟩ := fw_and2 ht
    have hl9 := Nat.eq_of_beq_eq_true ht
    dsimp only at hl9
    subst hl9
    have hk := Nat.le_of_ble_eq_true hk
    have h : fw_a st (fun x r => nx (fw_s1 ls k x) r M) (fun r => nx (fw_s1 ls k .null) r M) := h
    rcases fw_a_e h with ⟨x, r, rfl, h⟩ | ⟨r, rfl, h⟩
    · intro H locs la hP hS hl
      exact lv_astore hx hb hd (fw_lr_has hl) (by omega) rfl (fun la hl => hnx _ _ _ h H locs la hP hS (fw_lr_s1 hl))
    · intro H locs la hP hS hl
      exact lv_astoreN hx hb hd (fw_lr_has hl) (by omega) rfl (fun la hl => hnx _ _ _ h H locs la hP hS (fw_lr_s1 hl))
  | iinc k n =>
    obtain ⟨ht, hv⟩ := fw_and2 ht
    obtain ⟨ht, hk⟩ := fw_and2 ht
    have hl9 := Nat.eq_of_beq_eq_true ht
    dsimp only at hl9
    subst hl9
    have hk := Nat.le_of_ble_eq_true hk
    have hv : Int32.ofInt n = num := of_decide_eq_true hv
    obtain ⟨x, hx1, h⟩ := fw_li_e h
    intro H locs la hP hS hl
    have hm := fw_as_mem (k := 0) hx1
    rw [Nat.zero_add] at hm
    obtain ⟨j, hj⟩ := List.getElem?_of_mem hm
    exact lv_iinc hx hb hd (fw_lr_has hl) hj (by rw [hv]) (by omega) rfl (fun la hl => hnx _ _ _ h H locs la hP hS (fw_lr_s1 hl))
  | iadd =>
    have ht : Nat.beq len 1 = true := ht
    have hl9 := Nat.eq_of_beq_eq_true ht
    subst hl9
    obtain ⟨x, y, r, rfl, h⟩ := fw_ii_e h
    intro H locs la hP hS hl
    exact lv_iadd hx hb hd (hnx _ _ _ h H locs la hP hS hl)
  | isub =>
    have ht : Nat.beq len 1 = true := ht
    have hl9 := Nat.eq_of_beq_eq_true ht
    subst hl9
    obtain ⟨x, y, r, rfl, h⟩ := fw_ii_e h
    intro H locs la hP hS hl
    exact lv_isub hx hb hd (hnx _ _ _ h H locs la hP hS hl)
  | imul =>
    have ht : Nat.beq len 1 = true := ht
    have hl9 := Nat.eq_of_beq_eq_true ht
    subst hl9
    obtain ⟨x, y, r, rfl, h⟩ := fw_ii_e h
    intro H locs la hP hS hl
    exact lv_imul hx hb hd (hnx _ _ _ h H locs la hP hS hl)
  | iand =>
    have ht : Nat.beq len 1 = true := ht
    have hl9 := Nat.eq_of_beq_eq_true ht
    subst hl9
    obtain ⟨x, y, r, rfl, h⟩ := fw_ii_e h
    intro H locs la hP hS hl
    exact lv_iand hx hb hd (hnx _ _ _ h H locs la hP hS hl)
  | ior =>
    have ht : Nat.beq len 1 = true := ht
    have hl9 := Nat.eq_of_beq_eq_true ht
    subst hl9
    obtain ⟨x, y, r, rfl, h⟩ := fw_ii_e h
    intro H locs la hP hS hl
    exact lv_ior hx hb hd (hnx _ _ _ h H locs la hP hS hl)
  | ixor =>
    have ht : Nat.beq len 1 = true := ht
    have hl9 := Nat.eq_of_beq_eq_true ht
    subst hl9
    obtain ⟨x, y, r, rfl, h⟩ := fw_ii_e h
    intro H locs la hP hS hl
    exact lv_ixor hx hb hd (hnx _ _ _ h H locs la hP hS hl)
  | ishl =>
    have ht : Nat.beq len 1 = true := ht
    have hl9 := Nat.eq_of_beq_eq_true ht
    subst hl9
    obtain ⟨x, y, r, rfl, h⟩ := fw_ii_e h
    intro H locs la hP hS hl
    exact lv_ishl hx hb hd (hnx _ _ _ h H locs la hP hS hl)
  | ishr =>
    have ht : Nat.beq len 1 = true := ht
    have hl9 := Nat.eq_of_beq_eq_true ht
    subst hl9
    obtain ⟨x, y, r, rfl, h⟩ := fw_ii_e h
    intro H locs la hP hS hl
    exact lv_ishr hx hb hd (hnx _ _ _ h H locs la hP hS hl)
  | idiv =>
    have ht : Nat.beq len 1 = true := ht
    have hl9 := Nat.eq_of_beq_eq_true ht
    subst hl9
    obtain ⟨x, y, r, rfl, hy, h⟩ := fw_ii_e h
    intro H locs la hP hS hl
    exact lv_idiv hx hb hd (fw_sd_e hy) (hnx _ _ _ h H locs la hP hS hl)
  | irem =>
    have ht : Nat.beq len 1 = true := ht
    have hl9 := Nat.eq_of_beq_eq_true ht
    subst hl9
    obtain ⟨x, y, r, rfl, hy, h⟩ := fw_ii_e h
    intro H locs la hP hS hl
    exact lv_irem hx hb hd (fw_sd_e hy) (hnx _ _ _ h H locs la hP hS hl)
  | ineg =>
    have ht : Nat.beq len 1 = true := ht
    have hl9 := Nat.eq_of_beq_eq_true ht
    subst hl9
    obtain ⟨x, r, rfl, h⟩ := fw_i_e h
    intro H locs la hP hS hl
    exact lv_ineg hx hb hd (hnx _ _ _ h H locs la hP hS hl)
  | i2l =>
    have ht : Nat.beq len 1 = true := ht
    have hl9 := Nat.eq_of_beq_eq_true ht
    subst hl9
    obtain ⟨x, r, rfl, h⟩ := fw_i_e h
    intro H locs la hP hS hl
    exact lv_i2l hx hb hd rfl (hnx _ _ _ h H locs la hP hS hl)
  | i2d =>
    have ht : Nat.beq len 1 = true := ht
    have hl9 := Nat.eq_of_beq_eq_true ht
    subst hl9
    obtain ⟨x, r, rfl, h⟩ := fw_i_e h
    intro H locs la hP hS hl
    exact lv_i2d hx hb hd (hnx _ _ _ h H locs la hP hS hl)
  | ladd =>
    have ht : Nat.beq len 1 = true := ht
    have hl9 := Nat.eq_of_beq_eq_true ht
    subst hl9
    obtain ⟨x, y, r, rfl, h⟩ := fw_ll_e h
    intro H locs la hP hS hl
    exact lv_ladd hx hb hd (hnx _ _ _ h H locs la hP hS hl)
  | lmul =>
    have ht : Nat.beq len 1 = true := ht
    have hl9 := Nat.eq_of_beq_eq_true ht
    subst hl9
    obtain ⟨x, y, r, rfl, h⟩ := fw_ll_e h
    intro H locs la hP hS hl
    exact lv_lmul hx hb hd (hnx _ _ _ h H locs la hP hS hl)
  | lcmp =>
    have ht : Nat.beq len 1 = true := ht
    have hl9 := Nat.eq_of_beq_eq_true ht
    subst hl9
    obtain ⟨x, y, r, rfl, h⟩ := fw_ll_e h
    intro H locs la hP hS hl
    exact W.lcmp hx hb hd (hnx _ _ _ h H locs la hP hS hl)
  | ddiv =>
    have ht : Nat.beq len 1 = true := ht
    have hl9 := Nat.eq_of_beq_eq_true ht
    subst hl9
    obtain ⟨x, y, r, rfl, hy, h⟩ := fw_dd_e h
    intro H locs la hP hS hl
    exact lv_ddiv hx hb hd hy (hnx _ _ _ h H locs la hP hS hl)
  | dcmp op =>
    have ht : Nat.beq len 1 = true := ht
    have hl9 := Nat.eq_of_beq_eq_true ht
    subst hl9
    obtain ⟨x, y, r, rfl, h⟩ := fw_dd_e h
    intro H locs la hP hS hl
    exact lv_dcmp hx hb hd (hnx _ _ _ h H locs la hP hS hl)
  | dup =>
    have ht : Nat.beq len 1 = true := ht
    have hl9 := Nat.eq_of_beq_eq_true ht
    subst hl9
    have h : fw_w st (fun v r => nx ls (v :: v :: r) M) := h
    obtain ⟨v, r, rfl, hv, h⟩ := fw_w_e h
    intro H locs la hP hS hl
    exact lv_dup hx hb hd hv (hnx _ _ _ h H locs la hP hS hl)
  | pop =>
    have ht : Nat.beq len 1 = true := ht
    have hl9 := Nat.eq_of_beq_eq_true ht
    subst hl9
    have h : fw_w st (fun _ r => nx ls r M) := h
    obtain ⟨v, r, rfl, hv, h⟩ := fw_w_e h
    intro H locs la hP hS hl
    exact lv_pop hx hb hd hv (hnx _ _ _ h H locs la hP hS hl)
  | dup2 =>
    have ht : Nat.beq len 1 = true := ht
    have hl9 := Nat.eq_of_beq_eq_true ht
    subst hl9
    have h : fw_w st (fun v r => fw_w r fun u r => nx ls (v :: u :: v :: u :: r) M) := h
    obtain ⟨v, r, rfl, hv, h⟩ := fw_w_e h
    obtain ⟨u, r, rfl, hu, h⟩ := fw_w_e h
    intro H locs la hP hS hl
    exact lv_dup2_11 hx hb hd hv hu (hnx _ _ _ h H locs la hP hS hl)
  | if_icmp cnd off =>
    obtain ⟨ht, hv⟩ := fw_and2 ht
    have hl9 := Nat.eq_of_beq_eq_true ht
    dsimp only at hl9
    subst hl9
    have hv := of_decide_eq_true hv
    cases cnd with
    | eq =>
      obtain ⟨x, y, r, rfl, h1, h2⟩ := fw_ii_e h
      intro H locs la hP hS hl
      exact lv_icmp_eq hx hb hd hv (fun z => hjp _ _ _ _ (h1 z) H locs la hP hS hl) (fun z => hnx _ _ _ (h2 z) H locs la hP hS hl)
    | ne =>
      obtain ⟨x, y, r, rfl, h1, h2⟩ := fw_ii_e h
      intro H locs la hP hS hl
      exact lv_icmp_ne hx hb hd hv (fun z => hjp _ _ _ _ (h1 z) H locs la hP hS hl) (fun z => hnx _ _ _ (h2 z) H locs la hP hS hl)
    | lt =>
      obtain ⟨x, y, r, rfl, h1, h2⟩ := fw_ii_e h
      intro H locs la hP hS hl
      exact lv_icmp_lt hx hb hd hv (fun z => hjp _ _ _ _ (h1 z) H locs la hP hS hl) (fun z => hnx _ _ _ (h2 z) H locs la hP hS hl)
    | ge =>
      obtain ⟨x, y, r, rfl, h1, h2⟩ := fw_ii_e h
      intro H locs la hP hS hl
      exact lv_icmp_ge hx hb hd hv (fun z => hjp _ _ _ _ (h1 z) H locs la hP hS hl) (fun z => hnx _ _ _ (h2 z) H locs la hP hS hl)
    | gt =>
      obtain ⟨x, y, r, rfl, h1, h2⟩ := fw_ii_e h
      intro H locs la hP hS hl
      exact lv_icmp_gt hx hb hd hv (fun z => hjp _ _ _ _ (h1 z) H locs la hP hS hl) (fun z => hnx _ _ _ (h2 z) H locs la hP hS hl)
    | le =>
      obtain ⟨x, y, r, rfl, h1, h2⟩ := fw_ii_e h
      intro H locs la hP hS hl
      exact lv_icmp_le hx hb hd hv (fun z => hjp _ _ _ _ (h1 z) H locs la hP hS hl) (fun z => hnx _ _ _ (h2 z) H locs la hP hS hl)
  | ifCond cnd off =>
    obtain ⟨ht, hv⟩ := fw_and2 ht
    have hl9 := Nat.eq_of_beq_eq_true ht
    dsimp only at hl9
    subst hl9
    have hv := of_decide_eq_true hv
    cases cnd with
    | eq =>
      obtain ⟨x, r, rfl, h1, h2⟩ := fw_i_e h
      intro H locs la hP hS hl
      exact lv_if_eq hx hb hd hv (fun z => hjp _ _ _ _ (h1 z) H locs la hP hS hl) (fun z => hnx _ _ _ (h2 z) H locs la hP hS hl)
    | ne =>
      obtain ⟨x, r, rfl, h1, h2⟩ := fw_i_e h
      intro H locs la hP hS hl
      exact lv_if_ne hx hb hd hv (fun z => hjp _ _ _ _ (h1 z) H locs la hP hS hl) (fun z => hnx _ _ _ (h2 z) H locs la hP hS hl)
    | lt =>
      obtain ⟨x, r, rfl, h1, h2⟩ := fw_i_e h
      intro H locs la hP hS hl
      exact lv_if_lt hx hb hd hv (fun z => hjp _ _ _ _ (h1 z) H locs la hP hS hl) (fun z => hnx _ _ _ (h2 z) H locs la hP hS hl)
    | ge =>
      obtain ⟨x, r, rfl, h1, h2⟩ := fw_i_e h
      intro H locs la hP hS hl
      exact lv_if_ge hx hb hd hv (fun z => hjp _ _ _ _ (h1 z) H locs la hP hS hl) (fun z => hnx _ _ _ (h2 z) H locs la hP hS hl)
    | gt =>
      obtain ⟨x, r, rfl, h1, h2⟩ := fw_i_e h
      intro H locs la hP hS hl
      exact lv_if_gt hx hb hd hv (fun z => hjp _ _ _ _ (h1 z) H locs la hP hS hl) (fun z => hnx _ _ _ (h2 z) H locs la hP hS hl)
    | le =>
      obtain ⟨x, r, rfl, h1, h2⟩ := fw_i_e h
      intro H locs la hP hS hl
      exact lv_if_le hx hb hd hv (fun z => hjp _ _ _ _ (h1 z) H locs la hP hS hl) (fun z => hnx _ _ _ (h2 z) H locs la hP hS hl)
  | ifnull off =>
    obtain ⟨ht, hv⟩ := fw_and2 ht
    have hl9 := Nat.eq_of_beq_eq_true ht
    dsimp only at hl9
    subst hl9
    have hv := of_decide_eq_true hv
    have h : fw_a st (fun _ r => nx ls r M) (fun r => jp tgt ls r M) := h
    rcases fw_a_e h with ⟨x, r, rfl, h⟩ | ⟨r, rfl, h⟩
    · intro H locs la hP hS hl
      exact lv_ifnull hx hb hd (hnx _ _ _ h H locs la hP hS hl)
    · intro H locs la hP hS hl
      exact lv_ifnullN hx hb hd hv (hjp _ _ _ _ h H locs la hP hS hl)
  | ifnonnull off =>
    obtain ⟨ht, hv⟩ := fw_and2 ht
    have hl9 := Nat.eq_of_beq_eq_true ht
    dsimp only at hl9
    subst hl9
    have hv := of_decide_eq_true hv
    have h : fw_a st (fun _ r => jp tgt ls r M) (fun r => nx ls r M) := h
    rcases fw_a_e h with ⟨x, r, rfl, h⟩ | ⟨r, rfl, h⟩
    · intro H locs la hP hS hl
      exact lv_ifnonnull hx hb hd hv (hjp _ _ _ _ h H locs la hP hS hl)
    · intro H locs la hP hS hl
      exact lv_ifnonnullN hx hb hd (hnx _ _ _ h H locs la hP hS hl)
  | goto off =>
    obtain ⟨ht, hv⟩ := fw_and2 ht
    have hl9 := Nat.eq_of_beq_eq_true ht
    dsimp only at hl9
    subst hl9
    have hv := of_decide_eq_true hv
    intro H locs la hP hS hl
    exact lv_goto hx hb hd hv (hjp _ _ _ _ h H locs la hP hS hl)
  | tableswitch d lo hi offs =>
    obtain ⟨ht, h3⟩ := fw_and2 ht
    obtain ⟨h1, h2⟩ := fw_and2 ht
    have h1 : (offs.toList.length : Int) = hi - lo + 1 := of_decide_eq_true h1
    have h2 : 0 ≤ (pc : Int) + d := of_decide_eq_true h2
    obtain ⟨x, r, rfl, ha, hz⟩ := fw_i_e h
    intro H locs la hP hS hl
    by_cases q : x.toInt < lo ∨ hi < x.toInt
    · exact lv_tableOut hx hb hd q (Int.toNat_of_nonneg h2).symm (hjp _ _ _ _ (hz q) H locs la hP hS hl)
    · have q1 : ¬ x.toInt < lo := fun z => q (Or.inl z)
      have q2 : ¬ hi < x.toInt := fun z => q (Or.inr z)
      have hj : (x.toInt - lo).toNat < offs.toList.length := by omega
      have hg : offs.toList[(x.toInt - lo).toNat]? = some (offs.toList[(x.toInt - lo).toNat]) := List.getElem?_eq_getElem hj
      have h4 := of_decide_eq_true (List.all_eq_true.mp h3 _ (List.getElem_mem hj))
      exact lv_tableIn hx hb hd q1 q2 (by rw [← Array.getElem?_toList]; exact hg) (Int.toNat_of_nonneg h4).symm (hjp _ _ _ _ (fw_tsw_in ha _ _ hg (by omega)) H locs la hP hS hl)
  | lookupswitch d ps =>
    obtain ⟨ht, h3⟩ := fw_and2 ht
    obtain ⟨h1, h2⟩ := fw_and2 ht
    have h1 : 0 ≤ (pc : Int) + d := of_decide_eq_true h1
    obtain ⟨x, r, rfl, h⟩ := fw_i_e h
    intro H locs la hP hS hl
    obtain ⟨ha, hz⟩ := fw_lsw_in h
    have h4 : 0 ≤ (pc : Int) + Op.lookupswitch.offset ps.toList d x.toInt := by
      rcases hz with hz | ⟨q, hq, hz⟩
      · rw [hz]; exact h1
      · rw [← hz]; exact of_decide_eq_true (List.all_eq_true.mp h2 _ hq)
    exact lv_lookup hx hb hd h3 rfl (Int.toNat_of_nonneg h4).symm (hjp _ _ _ _ ha H locs la hP hS hl)
  | getfield k =>
    have ht : Nat.beq len 3 = true := ht
    have hl9 := Nat.eq_of_beq_eq_true ht
    subst hl9
    obtain ⟨a, r, rfl, h⟩ := fw_r_e h
    have h : fw_get B (fw_find k fld) a M (fun v => nx ls (v :: r) M) := h
    unfold fw_get at h
    split at h
    · rename_i ci j hf
      obtain ⟨hkd, h⟩ := h
      obtain ⟨h1, h2, h3, h4⟩ := hfld _ (fw_find_mem hf)
      dsimp only at h1 h2 h3 h4
      obtain ⟨o, ho, rfl, hko⟩ := fw_kd_at hkd (by omega)
      intro H locs la hP hS hl
      exact va_get (D := g.1) (cl := vwCl) (tys := fw_tys g) (C := (fw_cl ci).1) (T := (fw_cl ci).2.1) (N := (fw_cl ci).2.2) (ref := (fw_cl ci).1) (ci := ci) hx hb hts (fw_cl_w ci h1) hown hK hP o (by rw [fw_WL_get ho, fw_ct_obj hko h1]) (fw_cl_get ci h1) j (by rw [fw_cl_n ci h1]; exact h2) (hts _ h4) (fun x hx => by rw [h3] at hx; exact hx) (fw_fs_get h2) hd (hnx _ _ _ h H locs la hP hS hl)
    · exact h.elim
  | putfield k =>
    have ht : Nat.beq len 3 = true := ht
    have hl9 := Nat.eq_of_beq_eq_true ht
    subst hl9
    have h : fw_putv B (fw_find k fld) st M (fun r M' => nx ls r M') := h
    unfold fw_putv at h
    split at h
    · rename_i ci j x a r hf _
      cases hc : Nat.beq (fw_fc ci j) 0 with
      | false => rw [hc] at h; exact h.elim
      | true =>
        rw [hc] at h
        have hc := Nat.eq_of_beq_eq_true hc
        obtain ⟨hkd, h⟩ := h
        obtain ⟨h1, h2, h3, h4⟩ := hfld _ (fw_find_mem hf)
        dsimp only at h1 h2 h3 h4
        obtain ⟨o, ho, rfl, hko⟩ := fw_kd_at hkd (by omega)
        obtain ⟨h5, h6⟩ := fw_c0 ci h1 j h2 hc
        intro H locs la hP hS hl
        exact va_put (D := g.1) (cl := vwCl) (tys := fw_tys g) (A := fun q => B ≤ q) (H0 := s.heap) (C := (fw_cl ci).1) (T := (fw_cl ci).2.1) (N := (fw_cl ci).2.2) (ref := (fw_cl ci).1) (ci := ci) (v := .int x) hx hb hts (fw_cl_w ci h1) (fw_ty ci) (fw_ty_ok ci h1) (fw_nm_ok ci h1) hown hK hP fw_WL_D hS o (by rw [fw_WL_get ho, fw_ct_obj hko h1]) (fw_cl_get ci h1) j (by rw [fw_cl_n ci h1]; exact h2) (hts _ h4) (fun x hx => by rw [h3] at hx; exact hx) h5 h6 rfl rfl (by rw [fw_fs_len]; exact h2) hd (fun H1 locs1 hP1 hD1 hS1 => hnx _ _ _ h H1 locs1 la (by rw [fw_put ho hko h1 h2 hc] at hP1; exact hP1) hS1 hl)
    · exact h.elim
  | iaload =>
    have ht : Nat.beq len 1 = true := ht
    have hl9 := Nat.eq_of_beq_eq_true ht
    subst hl9
    obtain ⟨a, i, r, rfl, h⟩ := fw_ri_e h
    have h : fw_iald B scr a i M (fun x => nx ls (.int x :: r) M) := h
    unfold fw_iald at h
    split at h
    · obtain ⟨hkd, hin, h⟩ := h
      obtain ⟨o, ho, rfl, hko⟩ := fw_kd_at hkd (by omega)
      have hin : vp_in i (fw_lo o) := by rw [show fw_lo o = fw_len B (B + o) from by unfold fw_len; rw [Nat.add_sub_cancel_left]]; exact fw_sd_e hin
      intro H locs la hP hS hl
      exact va_iald (D := g.1) (cl := vwCl) (tys := fw_tys g) hx hb hK hP o 0 (by rw [fw_WL_get ho, fw_ct_7 hko]) rfl hin hd (hnx _ _ _ h H locs la hP hS hl)
    · rename_i b L xs
      obtain ⟨rfl, hin, h⟩ := h
      obtain ⟨k1, k2, k3⟩ := hscr
      intro H locs la hP hS hl
      exact va_sld (A := fun q => B ≤ q) hx hb k1 k2 k3 hS (fw_sd_e hin) hd (hnx _ _ _ h H locs la hP hS hl)
    · rename_i b L
      obtain ⟨rfl, n, hg, rfl⟩ := hscr
      rcases h with ⟨rfl, hin, h⟩ | ⟨hkd, hin, h⟩
      · intro H locs la hP hS hl
        exact va_iald (D := g.1) (cl := vwCl) (tys := fw_tys g) hx hb hK hP 497 0 (fw_WL_x hg) rfl (fw_sd_e hin) hd (hnx _ _ _ h H locs la hP hS hl)
      · obtain ⟨o, ho, rfl, hko⟩ := fw_kd_at hkd (by omega)
        have hin : vp_in i (fw_lo o) := by rw [show fw_lo o = fw_len B (B + o) from by unfold fw_len; rw [Nat.add_sub_cancel_left]]; exact fw_sd_e hin
        intro H locs la hP hS hl
        exact va_iald (D := g.1) (cl := vwCl) (tys := fw_tys g) hx hb hK hP o 0 (by rw [fw_WL_get ho, fw_ct_7 hko]) rfl hin hd (hnx _ _ _ h H locs la hP hS hl)
  | iastore =>
    have ht : Nat.beq len 1 = true := ht
    have hl9 := Nat.eq_of_beq_eq_true ht
    subst hl9
    obtain ⟨a, i, x, r, rfl, h⟩ := fw_rii_e h
    have norm : (fw_kd B a = 7 ∧ fw_sd (vp_in i (fw_len B a)) ∧ nx ls r (fw_st M a i.toNatClampNeg x)) → fw_WW p l e R s m args below meth c nL B g cf sf Qs pc ls (.int x :: .int i :: .ref a :: r) M := by
      intro h
      obtain ⟨hkd, hin, h⟩ := h
      obtain ⟨o, ho, rfl, hko⟩ := fw_kd_at hkd (by omega)
      have hin : vp_in i (fw_lo o) := by rw [show fw_lo o = fw_len B (B + o) from by unfold fw_len; rw [Nat.add_sub_cancel_left]]; exact fw_sd_e hin
      intro H locs la hP hS hl
      exact va_iast (D := g.1) (cl := vwCl) (tys := fw_tys g) (A := fun q => B ≤ q) (H0 := s.heap) hx hb hK hP fw_WL_D hS o 0 (by rw [fw_WL_get ho, fw_ct_7 hko]) rfl hin hd (fun H1 locs1 hP1 hD1 hS1 => hnx _ _ _ h H1 locs1 la (by rw [fw_ast ho hko] at hP1; exact hP1) hS1 hl)
    have h : fw_iast B scr a i x M (fun M' => nx ls r M') := h
    unfold fw_iast at h
    split at h
    · obtain ⟨rfl, n, hg, rfl⟩ := hscr
      rcases h with ⟨rfl, hin, h⟩ | h
      · intro H locs la hP hS hl
        exact va_iast (D := g.1) (cl := vwCl) (tys := fw_tys g) (A := fun q => B ≤ q) (H0 := s.heap) hx hb hK hP fw_WL_D hS 497 0 (fw_WL_x hg) rfl (fw_sd_e hin) hd (fun H1 locs1 hP1 hD1 hS1 => hnx _ _ _ h H1 locs1 la (by rw [fw_xast hg] at hP1; exact hP1) hS1 hl)
      · exact norm h
    · exact norm h
  | aaload =>
    have ht : Nat.beq len 1 = true := ht
    have hl9 := Nat.eq_of_beq_eq_true ht
    subst hl9
    obtain ⟨a, i, r, rfl, k1, k2, hin, h⟩ := fw_ri_e h
    rcases (show fw_kd B a = 8 ∨ fw_kd B a = 9 ∨ fw_kd B a = 10 by omega) with hkd | hkd | hkd
    · obtain ⟨o, ho, rfl, hko⟩ := fw_kd_at hkd (by omega)
      rw [hkd] at hin h
      intro H locs la hP hS hl
      exact va_aldq (D := g.1) (cl := vwCl) (tys := fw_tys g) (n := 6) (f := fun j => some (fw_el 8 (B + o) j)) hx hb hK hP o 1 (by rw [fw_WL_get ho, fw_ct_8 hko]) rfl (fw_sd_e hin) hd (hnx _ _ _ h H locs la hP hS hl)
    · obtain ⟨o, ho, rfl, hko⟩ := fw_kd_at hkd (by omega)
      rw [hkd] at hin h
      intro H locs la hP hS hl
      exact va_aldq (D := g.1) (cl := vwCl) (tys := fw_tys g) (n := 4) (f := fun j => some (fw_el 9 (B + o) j)) hx hb hK hP o 2 (by rw [fw_WL_get ho, fw_ct_9 hko]) rfl (fw_sd_e hin) hd (hnx _ _ _ h H locs la hP hS hl)
    · obtain ⟨o, ho, rfl, hko⟩ := fw_kd_at hkd (by omega)
      rw [hkd] at hin h
      intro H locs la hP hS hl
      exact va_aldq (D := g.1) (cl := vwCl) (tys := fw_tys g) (n := 24) (f := fun j => some (fw_el 10 (B + o) j)) hx hb hK hP o 3 (by rw [fw_WL_get ho, fw_ct_10 hko]) rfl (fw_sd_e hin) hd (hnx _ _ _ h H locs la hP hS hl)
  | arraylength =>
    have ht : Nat.beq len 1 = true := ht
    have hl9 := Nat.eq_of_beq_eq_true ht
    subst hl9
    obtain ⟨a, r, rfl, h⟩ := fw_r_e h
    have h : fw_alen B scr a (fun x => nx ls (.int x :: r) M) := h
    unfold fw_alen at h
    split at h
    · obtain ⟨k1, k2, h⟩ := h
      rcases (show fw_kd B a = 7 ∨ fw_kd B a = 8 ∨ fw_kd B a = 9 ∨ fw_kd B a = 10 by omega) with hkd | hkd | hkd | hkd
      · obtain ⟨o, ho, rfl, hko⟩ := fw_kd_at hkd (by omega)
        have hn : fw_aln B (B + o) = fw_lo o := by unfold fw_aln; rw [hkd]; rw [if_pos rfl]; unfold fw_len; rw [Nat.add_sub_cancel_left]
        rw [hn] at h
        intro H locs la hP hS hl
        exact va_alen (D := g.1) (cl := vwCl) (tys := fw_tys g) hx hb hK hP o 0 (by rw [fw_WL_get ho, fw_ct_7 hko]) rfl rfl hd (hnx _ _ _ h H locs la hP hS hl)
      · obtain ⟨o, ho, rfl, hko⟩ := fw_kd_at hkd (by omega)
        have hn : fw_aln B (B + o) = fw_al 8 := by unfold fw_aln; rw [hkd]; rw [if_neg (by decide)]
        rw [hn] at h
        intro H locs la hP hS hl
        exact va_alen (D := g.1) (cl := vwCl) (tys := fw_tys g) hx hb hK hP o 1 (by rw [fw_WL_get ho, fw_ct_8 hko]) rfl rfl hd (hnx _ _ _ h H locs la hP hS hl)
      · obtain ⟨o, ho, rfl, hko⟩ := fw_kd_at hkd (by omega)
        have hn : fw_aln B (B + o) = fw_al 9 := by unfold fw_aln; rw [hkd]; rw [if_neg (by decide)]
        rw [hn] at h
        intro H locs la hP hS hl
        exact va_alen (D := g.1) (cl := vwCl) (tys := fw_tys g) hx hb hK hP o 2 (by rw [fw_WL_get ho, fw_ct_9 hko]) rfl rfl hd (hnx _ _ _ h H locs la hP hS hl)
      · obtain ⟨o, ho, rfl, hko⟩ := fw_kd_at hkd (by omega)
        have hn : fw_aln B (B + o) = fw_al 10 := by unfold fw_aln; rw [hkd]; rw [if_neg (by decide)]
        rw [hn] at h
        intro H locs la hP hS hl
        exact va_alen (D := g.1) (cl := vwCl) (tys := fw_tys g) hx hb hK hP o 3 (by rw [fw_WL_get ho, fw_ct_10 hko]) rfl rfl hd (hnx _ _ _ h H locs la hP hS hl)
    · rename_i b L xs
      obtain ⟨rfl, h⟩ := h
      obtain ⟨k1, k2, k3⟩ := hscr
      intro H locs la hP hS hl
      exact va_slen (A := fun q => B ≤ q) hx hb k1 k2 k3 hS hd (hnx _ _ _ h H locs la hP hS hl)
    · exact h.elim
  | invokevirtual k =>
    have ht : Nat.beq len 3 = true := ht
    have hl9 := Nat.eq_of_beq_eq_true ht
    subst hl9
    have h : fw_call B 0 (fw_findC k cal) st M (fun r M' => nx ls r M') := h
    cases hf : fw_findC k cal with
    | none => rw [hf] at h; exact h.elim
    | some q => rw [hf] at h; exact fw_call_ok (hcal _ (fw_findC_mem hf)) (Or.inl ⟨rfl, hd⟩) (fun st M hq => hnx _ _ _ hq) h
  | invokestatic k =>
    have ht : Nat.beq len 3 = true := ht
    have hl9 := Nat.eq_of_beq_eq_true ht
    subst hl9
    have h : fw_call B 1 (fw_findC k cal) st M (fun r M' => nx ls r M') := h
    cases hf : fw_findC k cal with
    | none => rw [hf] at h; exact h.elim
    | some q => rw [hf] at h; exact fw_call_ok (hcal _ (fw_findC_mem hf)) (Or.inr ⟨rfl, hd⟩) (fun st M hq => hnx _ _ _ hq) h
  | new k =>
    have ht : Nat.beq len 3 = true := ht
    have hl9 := Nat.eq_of_beq_eq_true ht
    subst hl9
    have h : fw_newx QX (fw_find k thr) st M := h
    unfold fw_newx at h
    split at h
    · rename_i E hf _
      exact hthr _ (fw_find_mem hf) _ _ _ hd hnw h
    · exact h.elim
  | ireturn =>
    have ht : Nat.beq len 1 = true := ht
    have hl9 := Nat.eq_of_beq_eq_true ht
    subst hl9
    exact (hret _ _ _ _).1 hd h
  | areturn =>
    have ht : Nat.beq len 1 = true := ht
    have hl9 := Nat.eq_of_beq_eq_true ht
    subst hl9
    exact (hret _ _ _ _).2.1 hd h
  | lreturn =>
    have ht : Nat.beq len 1 = true := ht
    have hl9 := Nat.eq_of_beq_eq_true ht
    subst hl9
    exact (hret _ _ _ _).2.2.1 hd h
  | dreturn =>
    have ht : Nat.beq len 1 = true := ht
    have hl9 := Nat.eq_of_beq_eq_true ht
    subst hl9
    exact (hret _ _ _ _).2.2.2.1 hd h
  | return_ =>
    have ht : Nat.beq len 1 = true := ht
    have hl9 := Nat.eq_of_beq_eq_true ht
    subst hl9
    exact (hret _ _ _ _).2.2.2.2 hd h
  | _ => exact False.elim h
end SW
end
section
/-! CONTRACTS out of the walker: stretches, loops, a whole body, the calls -/
section ME
/-- words beside the tables' good ones: links between nest mates, and of the exceptions that are thrown -/
def fw_xw : List Cond := fw_nest.map (fun q => Cond.methodLinkNest q.1 q.2.1 q.2.2.1 q.2.2.2) ++ [.declares (Bundle.init0 "java/lang/RuntimeException"), .declares (Bundle.init0 "java/lang/Exception"), .declares (Bundle.init0 Bundle.tN), .castable "java/lang/IllegalArgumentException" "java/lang/IllegalArgumentException", .castable "java/lang/IllegalStateException" "java/lang/IllegalStateException", .castable "java/lang/IndexOutOfBoundsException" "java/lang/IndexOutOfBoundsException"]
theorem fw_xw_tab {w : Cond} (h : w ∈ fw_xw) : w.onTables = true := by
  rcases List.mem_append.mp h with h | h
  · obtain ⟨q, -, rfl⟩ := List.mem_map.mp h
    rfl
  · revert w
    decide
theorem fw_xw_warm {w : Cond} (h : w ∈ fw_xw) {s U : State} (hW : s.WarmedH U.vm) (hZ : va_Nw w s) : va_Nw w U := by
  rcases List.mem_append.mp h with h | h
  · obtain ⟨q, -, rfl⟩ := List.mem_map.mp h
    exact va_Nw.warmM hW hZ
  · simp only [List.mem_cons, List.not_mem_nil, or_false] at h
    rcases h with rfl | rfl | rfl | rfl | rfl | rfl
    · exact va_Nw.warmD hW hZ
    · exact va_Nw.warmD hW hZ
    · exact va_Nw.warmD hW hZ
    · exact va_Nw.warmC hW hZ
    · exact va_Nw.warmC hW hZ
    · exact va_Nw.warmC hW hZ
/-- what holds of a state beside the cells: the classes, the words, where the two statics of Throwable lie -/
def fw_Amb (g : fw_G) (B : Nat) (U : State) (H : Heap) : Prop := va_K g.1 vwCl (fw_tys g) U ∧ (∀ w ∈ fw_xw, va_Nw w U) ∧ vx_Zq Bundle.tN "UNASSIGNED_STACK" Bundle.steD (fun q => B ≤ q) U H ∧ vx_Zq Bundle.tN "SUPPRESSED_SENTINEL" Bundle.listD (fun q => B ≤ q) U H
def fw_Pic (g : fw_G) (B : Nat) (M : fw_M) (U : State) : Prop := va_P g.1 vwCl (fw_WL g B M) U.heap ∧ fw_Amb g B U U.heap
def fw_Pc (g : fw_G) (B : Nat) (as : List Value) (M : fw_M) : Array Value → State → Prop := va_Pc as (fw_Pic g B M)
def fw_Qc (g : fw_G) (B : Nat) (Q : Option Value → fw_M → Prop) : Array Value → State → Outcome → State → Prop := fun _ st oc t => (∃ (r : Option Value) (M : fw_M), oc = .returned r ∧ Q r M ∧ va_P g.1 vwCl (fw_WL g B M) t.heap) ∧ va_F (fun q => B ≤ q) st t
def fw_XC (g : fw_G) (B : Nat) (QX : String → fw_M → Prop) : String → State → State → Prop := fun E st t => (∃ M : fw_M, QX E M ∧ va_P g.1 vwCl (fw_WL g B M) t.heap) ∧ va_F (fun q => B ≤ q) st t
abbrev fw_CTX : Type := List Value → fw_M → (Option Value → fw_M → Prop) → (String → fw_M → Prop) → Prop
abbrev fw_ws (y : MethodName) (cc : ByteArray) (nL : Nat) (rt : Option FieldType) : List Cond := Cond.code y cc nL rt :: fw_LW
/-- a method's contract: from every memory and arguments for which ct asks Q (or a throw, QX), it ends with Q (or throws, with QX) -/
def fw_Met (l : Launch) (g : fw_G) (B : Nat) (y : MethodName) (cc : ByteArray) (nL : Nat) (rt : Option FieldType) (rm : Room) (mc ms : Nat) (ct : fw_CTX) : Prop :=
  ∀ as M Q QX, ct as M Q QX → vx_Met l y (fw_ws y cc nL rt) rm (fw_Pc g B as M) (fw_Qc g B Q) (fw_XC g B QX) mc ms (fun q => B ≤ q)
theorem fw_Amb.warm {g : fw_G} {B : Nat} {s U : State} {H H1 : Heap} (h : fw_Amb g B s H) (hW : s.WarmedH U.vm) (hS : ∀ a : Nat, a < H.size → ¬ B ≤ a → H1[a]? = H[a]?) : fw_Amb g B U H1 :=
  ⟨va_K.moved hW.alike h.1, fun w hw => fw_xw_warm hw hW (h.2.1 w hw), vx_Zq.kept (vx_Zq.moved hW.alike h.2.2.1) hS, vx_Zq.kept (vx_Zq.moved hW.alike h.2.2.2) hS⟩
theorem fw_Pc_blind {g : fw_G} {B : Nat} {as : List Value} {M : fw_M} : FrameBlind (fw_Pc g B as M) := by
  intro a U gg mk h
  obtain ⟨h1, h2, h3, h4, h5, h6⟩ := h
  exact ⟨h1, h2, va_K.moved (u := U) (U := U.calling gg mk a) (Vm.Alike.refl U.vm) h3, fun w hw => va_Nw.same (u := U) (U := U.calling gg mk a) (fw_xw_tab hw) rfl (h4 w hw), vx_Zq.moved (u := U) (U := U.calling gg mk a) (Vm.Alike.refl U.vm) h5, vx_Zq.moved (u := U) (U := U.calling gg mk a) (Vm.Alike.refl U.vm) h6⟩
section BD
variable {p : Program} {l : Launch} {e : Env} {R : Room} {s : State} {m : MethodId} {args : Array Value} {below : List Frame} {meth : Method} {c : Code} {Qs : State → Prop} {cc : ByteArray} {nL B : Nat} {g : fw_G} {cf sf : Nat → Nat} {own : String}
variable {fld : List (Nat × Nat × Nat)} {cal : List fw_Cal} {thr : List (Nat × String)} {cst : List (Nat × Value)} {scr : Option (Nat × Nat × Option (Nat → Int32))} {rt : Option FieldType} {Q : Option Value → fw_M → Prop} {QX : String → fw_M → Prop} {code : List fw_Ent}
def fw_chain : List fw_Ent → Bool
  | a :: b :: t => Nat.beq b.1 (a.1 + a.2.1) && fw_chain (b :: t)
  | _ => true
def fw_newq (cc : ByteArray) (en : fw_Ent) : Bool := match en.2.2.1 with
  | .new k => decide (decode cc (en.1 + 3) = .ok (.dup, 1)) && decide (decode cc (en.1 + 4) = .ok (.invokespecial (k + 2), 3)) && decide (decode cc (en.1 + 7) = .ok (.athrow, 1))
  | _ => true
def fw_chk (cc : ByteArray) (nL : Nat) (code : List fw_Ent) : Bool := code.all (fun en => decide (decode cc en.1 = .ok (en.2.2.1, en.2.1)) && fw_lt nL en && fw_newq cc en) && fw_chain code
theorem fw_chain_next {a b : fw_Ent} {t pre : List fw_Ent} : ∀ {L : List fw_Ent}, fw_chain L = true → L = pre ++ a :: b :: t → b.1 = a.1 + a.2.1 := by
  induction pre with
  | nil =>
    intro L h e
    subst e
    exact Nat.eq_of_beq_eq_true (fw_and2 h).1
  | cons x pre ih =>
    intro L h e
    subst e
    refine ih (L := pre ++ a :: b :: t) ?_ rfl
    cases pre with
    | nil => exact (fw_and2 h).2
    | cons y pre => exact (fw_and2 h).2
theorem fw_newq_ok {en : fw_Ent} (h : fw_newq cc en = true) : fw_NewOK cc en := by
  obtain ⟨pc, len, i, num, tgt⟩ := en
  unfold fw_NewOK
  dsimp only
  cases i with
  | new k =>
    obtain ⟨h, h3⟩ := fw_and2 h
    obtain ⟨h1, h2⟩ := fw_and2 h
    exact ⟨of_decide_eq_true h1, of_decide_eq_true h2, of_decide_eq_true h3⟩
  | _ => trivial
theorem fw_seek_suf {t : Nat} : ∀ (code : List fw_Ent), ∃ pre, code = pre ++ fw_seek t code := by
  intro code
  induction code with
  | nil => exact ⟨[], rfl⟩
  | cons en r ih =>
    unfold fw_seek
    cases hb : Nat.beq en.1 t with
    | true => exact ⟨[], rfl⟩
    | false =>
      obtain ⟨pre, h⟩ := ih
      exact ⟨en :: pre, by show en :: r = en :: (pre ++ fw_seek t r); rw [← h]⟩
theorem fw_seek_pc {t : Nat} {en : fw_Ent} {r : List fw_Ent} : ∀ {code : List fw_Ent}, fw_seek t code = en :: r → en.1 = t := by
  intro code
  induction code with
  | nil => intro h; cases h
  | cons x r' ih =>
    intro h
    unfold fw_seek at h
    cases hb : Nat.beq x.1 t with
    | true =>
      rw [hb] at h
      have h : x :: r' = en :: r := h
      cases h
      exact Nat.eq_of_beq_eq_true hb
    | false =>
      rw [hb] at h
      exact ih h
theorem fw_wp_sound (E : fw_Env p s m args c cc nL g own) (hchk : fw_chk cc nL code = true) (hcst : ∀ en ∈ code, fw_CstOK own cst en) (hfld : fw_Fld own fld) (hscr : fw_ScrOK s B g scr)
    (hcal : ∀ q ∈ cal, fw_CallOK p l e R s m args below meth c cc nL B g cf sf Qs q) (hthr : ∀ q ∈ thr, fw_ThrOK p l e R s m args below meth c cc nL B g cf sf Qs QX q) (hret : fw_RetOK p l e R s m args below meth c cc nL B g cf sf Qs rt Q)
    (K : fw_K) (hK : ∀ pc q, K pc = some q → ∀ ls st M, q.2 ls st M → fw_WW p l e R s m args below meth c nL B g cf sf Qs pc ls st M) :
    ∀ (n : Nat) (b : Bool) (pre tl : List fw_Ent) (en : fw_Ent), code = pre ++ en :: tl → ∀ (ls : fw_L) (st : List Value) (M : fw_M), fw_wp B fld cal thr cst scr rt Q QX code K n b (en :: tl) ls st M → fw_WW p l e R s m args below meth c nL B g cf sf Qs en.1 ls st M := by
  obtain ⟨hall, hch⟩ := fw_and2 hchk
  intro n
  induction n with
  | zero => intro b pre tl en hc ls st M h; exact h.elim
  | succ n ih =>
    intro b pre tl en hc ls st M h
    have hm : en ∈ code := by rw [hc]; exact List.mem_append_right _ List.mem_cons_self
    obtain ⟨h12, h3⟩ := fw_and2 (List.all_eq_true.mp hall en hm)
    obtain ⟨h1, h2⟩ := fw_and2 h12
    have main : fw_stp B fld cal thr cst scr rt Q QX en ls st M (fun ls st M => fw_wp B fld cal thr cst scr rt Q QX code K n false tl ls st M) (fun t ls st M => fw_wp B fld cal thr cst scr rt Q QX code K n false (fw_seek t code) ls st M) → fw_WW p l e R s m args below meth c nL B g cf sf Qs en.1 ls st M := by
      intro h
      refine fw_stp_sound E (of_decide_eq_true h1) h2 hfld (hcst en hm) (fw_newq_ok h3) hscr hcal hthr hret ?_ ?_ h
      · intro ls st M h
        cases tl with
        | nil => cases n <;> exact h.elim
        | cons en2 tl2 =>
          have e2 := fw_chain_next hch hc
          rw [← e2]
          exact ih false (pre ++ [en]) tl2 en2 (by rw [hc]; simp) ls st M h
      · intro t ls st M h
        obtain ⟨pre2, hp2⟩ := fw_seek_suf (t := t) code
        cases hs : fw_seek t code with
        | nil =>
          have h : fw_wp B fld cal thr cst scr rt Q QX code K n false (fw_seek t code) ls st M := h
          rw [hs] at h
          cases n <;> exact h.elim
        | cons en2 tl2 =>
          have h : fw_wp B fld cal thr cst scr rt Q QX code K n false (fw_seek t code) ls st M := h
          rw [hs] at h hp2
          rw [← fw_seek_pc hs]
          exact ih false pre2 tl2 en2 hp2 ls st M h
    unfold fw_wp at h
    cases b with
    | true => exact main h
    | false =>
      cases hk : K en.1 with
      | none =>
        rw [hk] at h
        exact main h
      | some q =>
        rw [hk] at h
        have h : q.2 (fw_mk q.1 ls) st M := h
        intro H locs la hP hS hl
        exact hK en.1 q hk _ _ _ h H locs la hP hS (fw_lr_mk hl q.1)
/-- the places where a loop comes back, each with which locals live there and what holds there, by a measure that falls -/
abbrev fw_AL : Type := List (Nat × List Bool × (Nat → fw_L → List Value → fw_M → Prop))
def fw_Kn (A : fw_AL) (n : Nat) : fw_K := fun pc => match fw_find pc A with
  | none => none
  | some q => some (q.1, fun ls st M => ∃ n', n' < n ∧ q.2 n' ls st M)
def fw_Ka (A : fw_AL) : fw_K := fun pc => match fw_find pc A with
  | none => none
  | some q => some (q.1, fun ls st M => ∃ n', q.2 n' ls st M)
theorem fw_body (E : fw_Env p s m args c cc nL g own) (hchk : fw_chk cc nL code = true) (hcst : ∀ en ∈ code, fw_CstOK own cst en) (hfld : fw_Fld own fld) (hscr : fw_ScrOK s B g scr)
    (hcal : ∀ q ∈ cal, fw_CallOK p l e R s m args below meth c cc nL B g cf sf Qs q) (hthr : ∀ q ∈ thr, fw_ThrOK p l e R s m args below meth c cc nL B g cf sf Qs QX q) (hret : fw_RetOK p l e R s m args below meth c cc nL B g cf sf Qs rt Q)
    (A : fw_AL) (hA : ∀ q ∈ A, ∀ n ls st M, q.2.2 n ls st M → ∃ F, fw_wp B fld cal thr cst scr rt Q QX code (fw_Kn A n) F true (fw_seek q.1 code) ls st M)
    {t : Nat} {F : Nat} {ls : fw_L} {st : List Value} {M : fw_M} (h : fw_wp B fld cal thr cst scr rt Q QX code (fw_Ka A) F true (fw_seek t code) ls st M) : fw_WW p l e R s m args below meth c nL B g cf sf Qs t ls st M := by
  have start : ∀ (K : fw_K) (hK : ∀ pc q, K pc = some q → ∀ ls st M, q.2 ls st M → fw_WW p l e R s m args below meth c nL B g cf sf Qs pc ls st M) (t F : Nat) (ls : fw_L) (st : List Value) (M : fw_M), fw_wp B fld cal thr cst scr rt Q QX code K F true (fw_seek t code) ls st M → fw_WW p l e R s m args below meth c nL B g cf sf Qs t ls st M := by
    intro K hK t F ls st M h
    obtain ⟨pre2, hp2⟩ := fw_seek_suf (t := t) code
    cases hs : fw_seek t code with
    | nil => rw [hs] at h; cases F <;> exact h.elim
    | cons en2 tl2 =>
      rw [hs] at h hp2
      rw [← fw_seek_pc hs]
      exact fw_wp_sound E hchk hcst hfld hscr hcal hthr hret K hK F true pre2 tl2 en2 hp2 ls st M h
  have loop : ∀ n, ∀ q ∈ A, ∀ ls st M, q.2.2 n ls st M → fw_WW p l e R s m args below meth c nL B g cf sf Qs q.1 ls st M := by
    intro n
    induction n using Nat.strongRecOn with
    | _ n ih =>
      intro q hq ls st M hi
      obtain ⟨F, hw⟩ := hA q hq n ls st M hi
      refine start (fw_Kn A n) ?_ q.1 F ls st M hw
      intro pc q2 hk ls st M h
      unfold fw_Kn at hk
      cases hf : fw_find pc A with
      | none => rw [hf] at hk; cases hk
      | some q3 =>
        rw [hf] at hk
        cases hk
        obtain ⟨n', hn, h⟩ := h
        exact ih n' hn (pc, q3) (fw_find_mem hf) ls st M h
  refine start (fw_Ka A) ?_ t F ls st M h
  intro pc q2 hk ls st M h
  unfold fw_Ka at hk
  cases hf : fw_find pc A with
  | none => rw [hf] at hk; cases hk
  | some q3 =>
    rw [hf] at hk
    cases hk
    obtain ⟨n', h⟩ := h
    exact loop n' (pc, q3) (fw_find_mem hf) ls st M h
end BD
end ME
end
section
/-! ===== BEGIN a private method of a nest mate that may throw (follows va_callVN, va_callSN, va_runVN, va_runSN) ===== -/
section
variable {p : Program} {l : Launch} {e : Env} {R : Room} {s : State} {m : MethodId} {args : Array Value} {below : List Frame} {meth : Method} {c : Code} {H : Heap} {locs : List Loc} {cells slots : Nat}
variable {T : State}
theorem vx_callVN (X : Stand p l e R s m args below meth c T locs cells slots) (hexec : p.tables.exec = Jvm.exec) {own C : String} {index : Nat} {host : String} {y : MethodName} {bytes : ByteArray} {maxL : Nat} {ret : Option FieldType}
    (hown : s.vm.findClass own = some m.cls) (hlink : (Cond.methodLinkNest own index y host).before args s = true) (hinst : (Cond.instanceMethod y).before args s = true) (hsel : (Cond.selects C y y).before args s = true)
    (hcode : (Cond.code y bytes maxL ret).before args s = true) (hy : y.cls ≠ "java/lang/invoke/MethodHandle" ∧ y.cls ≠ "java/lang/invoke/VarHandle")
    {W : Nat} {Pre : Pt → Array Value → Prop} {Post : Pt → Array Value → Option Value → Pt → Prop} {PostX : Pt → Array Value → Addr → Pt → Prop} (hK : vx_Back l R p e below s args y 3 W Pre Post PostX)
    {b : Addr} {cellB : Cell} (hcell : T.heap[b]? = some cellB) (hobj : cellB.vm.isStatics = false) (hcls : s.vm.findClass C = some cellB.cls)
    {g : JFrame} (hg : g.method = m) (hsize : g.locals.size = c.maxLocals) {argsL rest : List Value} (hlen : ∀ sig, parseMethodDescriptor y.desc = some sig → argsL.length = sig.parameters.length)
    (hstack : g.stack = argsL.reverse ++ .ref b :: rest) (hW : 2 * g.monitorRoom + (rest.map fun v => v.category).sum ≤ W) (hdg : decode c.code g.pc = .ok (.invokevirtual index, 3))
    (hpre : ∀ vm₁, s.WarmedH vm₁ → Pre ⟨T.setVm vm₁, locs, cells, slots⟩ (Value.ref b :: argsL).toArray) :
    (∃ (v : Option Value) (vm₁ : Vm) (B : Pt), s.WarmedH vm₁ ∧ Stand p l e R s m args below meth c B.U B.locs B.cells B.slots ∧ Post ⟨T.setVm vm₁, locs, cells, slots⟩ (Value.ref b :: argsL).toArray v B ∧
      ∀ target, Steps p.tables e below (B.U.setTop { g with pc := g.pc + 3, stack := v.toList ++ rest }) target → Steps p.tables e below (T.setTop g) target) ∨
    (∃ (q : Addr) (vm₁ : Vm) (B : Pt), s.WarmedH vm₁ ∧ Stand p l e R s m args below meth c B.U B.locs B.cells B.slots ∧ PostX ⟨T.setVm vm₁, locs, cells, slots⟩ (Value.ref b :: argsL).toArray q B ∧
      Steps p.tables e below (T.setTop g) ((B.U.setTop { g with stack := rest }).pushFrame (.throwing q))) := by
  obtain ⟨mk, methM, hnamed, hmethM, hstM, habM⟩ := Cond.instanceMethod_spec hinst
  obtain ⟨methM', cM, hmethM', -, -, -, -, -, -, hsigM⟩ := Cond.code_spec hnamed hcode
  cases hmethM.symm.trans hmethM'
  obtain ⟨c2, r2, m2, q1, q2, q3, q4, kP, hkP, hkPi⟩ := Cond.selects_spec hsel
  cases hcls.symm.trans q1
  cases (State.methodFound?_of_named hnamed hy).symm.trans q2
  cases hnamed.symm.trans q3
  have hselP : selectMethod e.platform s.vm cellB.cls mk = .method mk := by rw [Launch.admits_selectMethod X.admits]; exact q4
  obtain ⟨vm₁, X₁, hstep₁⟩ := X.invokevirtualNest hexec hown hlink hnamed hmethM hstM hkP hkPi hy (a := b) (cell := cellB) hcell
    (fun z h => by rw [h] at hobj; cases hobj) hselP hmethM habM hkP hkPi (g := g) hg (argsL := argsL) (rest := rest) (hlen _ hsigM) hstack hdg
  rcases hK m meth c ⟨T.setVm vm₁, locs, cells, slots⟩ { g with stack := rest } (.invokevirtual index) mk (Value.ref b :: argsL).toArray X₁ hg hsize hdg hW (X₁.named hnamed) (hpre vm₁ X₁.warmed) with ⟨v, B, X', hpost, hsteps⟩ | ⟨q, B, X', hpost, hsteps⟩
  · exact Or.inl ⟨v, vm₁, B, X₁.warmed, X', hpost, fun target h => hstep₁ _ fun acts => by rw [doInvoke_state]; exact hsteps.trans h⟩
  · exact Or.inr ⟨q, vm₁, B, X₁.warmed, X', hpost, hstep₁ _ fun acts => by rw [doInvoke_state]; exact hsteps⟩
theorem vx_callSN (X : Stand p l e R s m args below meth c T locs cells slots) (hexec : p.tables.exec = Jvm.exec) {own : String} {index : Nat} {host : String} {y : MethodName} {bytes : ByteArray} {maxL : Nat} {ret : Option FieldType}
    (hown : s.vm.findClass own = some m.cls) (hlink : (Cond.methodLinkNest own index y host).before args s = true) (hstat : (Cond.static y).before args s = true) (hinit : (Cond.initialized y.cls).before args s = true)
    (hcode : (Cond.code y bytes maxL ret).before args s = true) (hy : y.cls ≠ "java/lang/invoke/MethodHandle" ∧ y.cls ≠ "java/lang/invoke/VarHandle")
    {W : Nat} {Pre : Pt → Array Value → Prop} {Post : Pt → Array Value → Option Value → Pt → Prop} {PostX : Pt → Array Value → Addr → Pt → Prop} (hK : vx_Back l R p e below s args y 3 W Pre Post PostX)
    {g : JFrame} (hg : g.method = m) (hsize : g.locals.size = c.maxLocals) {argsL rest : List Value} (hlen : ∀ sig, parseMethodDescriptor y.desc = some sig → argsL.length = sig.parameters.length)
    (hstack : g.stack = argsL.reverse ++ rest) (hW : 2 * g.monitorRoom + (rest.map fun v => v.category).sum ≤ W) (hdg : decode c.code g.pc = .ok (.invokestatic index, 3))
    (hpre : ∀ vm₁, s.WarmedH vm₁ → Pre ⟨T.setVm vm₁, locs, cells, slots⟩ argsL.toArray) :
    (∃ (v : Option Value) (vm₁ : Vm) (B : Pt), s.WarmedH vm₁ ∧ Stand p l e R s m args below meth c B.U B.locs B.cells B.slots ∧ Post ⟨T.setVm vm₁, locs, cells, slots⟩ argsL.toArray v B ∧
      ∀ target, Steps p.tables e below (B.U.setTop { g with pc := g.pc + 3, stack := v.toList ++ rest }) target → Steps p.tables e below (T.setTop g) target) ∨
    (∃ (q : Addr) (vm₁ : Vm) (B : Pt), s.WarmedH vm₁ ∧ Stand p l e R s m args below meth c B.U B.locs B.cells B.slots ∧ PostX ⟨T.setVm vm₁, locs, cells, slots⟩ argsL.toArray q B ∧
      Steps p.tables e below (T.setTop g) ((B.U.setTop { g with stack := rest }).pushFrame (.throwing q))) := by
  obtain ⟨mk, hnamed⟩ := Cond.code_named hcode
  obtain ⟨methM, cM, hmethM, -, -, -, -, -, -, hsigM⟩ := Cond.code_spec hnamed hcode
  have hstatic : methM.isStatic = true := Cond.static_spec hnamed hmethM hstat
  obtain ⟨kP, hkP, -⟩ := className_of_methodNamed hnamed
  have hinitP : kP.init = .initialized := Cond.initialized_spec (findClass_of_methodNamed hnamed) hkP hinit
  obtain ⟨vm₁, X₁, hstep₁⟩ := X.invokestaticNest hexec hown hlink hnamed hmethM hstatic hkP hinitP hy (g := g) hg (argsL := argsL) (rest := rest) (hlen _ hsigM) hstack hdg
  rcases hK m meth c ⟨T.setVm vm₁, locs, cells, slots⟩ { g with stack := rest } (.invokestatic index) mk argsL.toArray X₁ hg hsize hdg hW (X₁.named hnamed) (hpre vm₁ X₁.warmed) with ⟨v, B, X', hpost, hsteps⟩ | ⟨q, B, X', hpost, hsteps⟩
  · exact Or.inl ⟨v, vm₁, B, X₁.warmed, X', hpost, fun target h => hstep₁ _ fun acts => by rw [doInvoke_state]; exact hsteps.trans h⟩
  · exact Or.inr ⟨q, vm₁, B, X₁.warmed, X', hpost, hstep₁ _ fun acts => by rw [doInvoke_state]; exact hsteps⟩
theorem vx_runVN {y : MethodName} {bytes cc : ByteArray} {maxL nL mc ms n index : Nat} {ret : Option FieldType} {ws : List Cond} {rm : Room} {Pc : Array Value → State → Prop} {Qc : Array Value → State → Outcome → State → Prop} {XC : String → State → State → Prop} {free : Addr → Prop} {Ts : List Cond} {own C host : String} {b : Addr} {As rest : List Value} {g : JFrame}
    (S : CallFix p m c cc nL s args Ts own) (hM : vx_Met l y ws rm Pc Qc XC mc ms free) (cw : va_CN R s args own index y host bytes maxL ret ws rm mc ms n ∧ (Cond.instanceMethod y).before args s = true ∧ (Cond.selects C y y).before args s = true) (hp : PreV s H C b Pc As)
    (hg : g.method = m) (hn : As.length = n) (hsize : g.locals.size = nL) (hstack : g.stack = As.reverse ++ .ref b :: rest) (hW : 2 * g.monitorRoom + (rest.map fun v => v.category).sum ≤ 8) (hdg : decode cc g.pc = .ok (.invokevirtual index, 3)) (hf : cells + mc ≤ R.cells ∧ slots + ms ≤ R.slots) :
    vx_Run p l e R s m args below meth c H locs cells slots mc ms g rest (Qc (Value.ref b :: As).toArray) XC free := by
  obtain ⟨⟨⟨hrc, hrs, hfr, hlo, hws, hcw⟩, hcode, hini, hy, hlen, hl⟩, hx1, hx2⟩ := cw
  have hK : vx_Back l R p e below s args y 3 8 (PreOf R mc ms Pc) (PostOf Qc mc ms free) (vx_Post XC mc ms free) := vx_back (bytes := bytes) (maxL := maxL) (ret := ret) hM hp.1 hrc hrs hfr hlo hws hcw (fun a' U hW => word_at hW (Or.inl (by first | rfl | simp [Cond.onTables, Cond.keeps, Cond.steady])) hini)
  obtain ⟨hx, hb, hml, ho, -⟩ := S
  obtain ⟨-, ⟨cellB, hcB, hoB, hclB⟩, hPc⟩ := hp
  intro T hT X
  rcases vx_callVN X hx (C := C) (bytes := bytes) (maxL := maxL) (ret := ret) ho hl hx1 hx2 hcode hy hK (by rw [hT]; exact hcB) hoB hclB hg (hsize.trans hml.symm) (argsL := As) (rest := rest) (fun sig h => hn.trans (hlen sig h)) hstack hW (by rw [hb]; exact hdg)
    (fun vm₁ hW₁ => ⟨hf.1, hf.2, hPc (T.setVm vm₁) hT hW₁⟩) with ⟨v, vm₁, ⟨U', l2, c2, s2⟩, hW₁, X', ⟨g', mk, t, L, e1, e2, hq, h1, hL, h2, h3⟩, st⟩ | ⟨q, vm₁, ⟨U', l2, c2, s2⟩, hW₁, X', ⟨g', mk, t, L, E, ce, e1, e2, hq, hce, hcv, hcl, h1, hL, h2, h3⟩, st⟩
  · dsimp only [Pt.U, Pt.locs, Pt.cells, Pt.slots] at X' e1 e2 h1 h2 h3 st
    subst h1; subst h2; subst h3
    exact Or.inl ⟨v, (T.setVm vm₁).calling g' mk (Value.ref b :: As).toArray, t, U', L, hT, X', hL, e1, e2, hq, st⟩
  · dsimp only [Pt.U, Pt.locs, Pt.cells, Pt.slots] at X' e1 e2 h1 h2 h3 st hcl
    subst h1; subst h2; subst h3
    exact Or.inr ⟨q, (T.setVm vm₁).calling g' mk (Value.ref b :: As).toArray, t, U', L, E, ce, hT, X', hL, e1, e2, hq, hce, hcv, vx_cls hW₁ hcl, st⟩
theorem vx_runSN {y : MethodName} {bytes cc : ByteArray} {maxL nL mc ms n index : Nat} {ret : Option FieldType} {ws : List Cond} {rm : Room} {Pc : Array Value → State → Prop} {Qc : Array Value → State → Outcome → State → Prop} {XC : String → State → State → Prop} {free : Addr → Prop} {Ts : List Cond} {own host : String} {As rest : List Value} {g : JFrame}
    (S : CallFix p m c cc nL s args Ts own) (hM : vx_Met l y ws rm Pc Qc XC mc ms free) (cw : va_CN R s args own index y host bytes maxL ret ws rm mc ms n ∧ (Cond.static y).before args s = true ∧ True) (hp : PreS s H Pc As)
    (hg : g.method = m) (hn : As.length = n) (hsize : g.locals.size = nL) (hstack : g.stack = As.reverse ++ rest) (hW : 2 * g.monitorRoom + (rest.map fun v => v.category).sum ≤ 8) (hdg : decode cc g.pc = .ok (.invokestatic index, 3)) (hf : cells + mc ≤ R.cells ∧ slots + ms ≤ R.slots) :
    vx_Run p l e R s m args below meth c H locs cells slots mc ms g rest (Qc As.toArray) XC free := by
  obtain ⟨⟨⟨hrc, hrs, hfr, hlo, hws, hcw⟩, hcode, hini, hy, hlen, hl⟩, hx1, hx2⟩ := cw
  have hK : vx_Back l R p e below s args y 3 8 (PreOf R mc ms Pc) (PostOf Qc mc ms free) (vx_Post XC mc ms free) := vx_back (bytes := bytes) (maxL := maxL) (ret := ret) hM hp.1 hrc hrs hfr hlo hws hcw (fun a' U hW => word_at hW (Or.inl (by first | rfl | simp [Cond.onTables, Cond.keeps, Cond.steady])) hini)
  obtain ⟨hx, hb, hml, ho, -⟩ := S
  have hPc := hp.2
  intro T hT X
  rcases vx_callSN X hx (bytes := bytes) (maxL := maxL) (ret := ret) ho hl hx1 hini hcode hy hK hg (hsize.trans hml.symm) (argsL := As) (rest := rest) (fun sig h => hn.trans (hlen sig h)) hstack hW (by rw [hb]; exact hdg)
    (fun vm₁ hW₁ => ⟨hf.1, hf.2, hPc (T.setVm vm₁) hT hW₁⟩) with ⟨v, vm₁, ⟨U', l2, c2, s2⟩, hW₁, X', ⟨g', mk, t, L, e1, e2, hq, h1, hL, h2, h3⟩, st⟩ | ⟨q, vm₁, ⟨U', l2, c2, s2⟩, hW₁, X', ⟨g', mk, t, L, E, ce, e1, e2, hq, hce, hcv, hcl, h1, hL, h2, h3⟩, st⟩
  · dsimp only [Pt.U, Pt.locs, Pt.cells, Pt.slots] at X' e1 e2 h1 h2 h3 st
    subst h1; subst h2; subst h3
    exact Or.inl ⟨v, (T.setVm vm₁).calling g' mk As.toArray, t, U', L, hT, X', hL, e1, e2, hq, st⟩
  · dsimp only [Pt.U, Pt.locs, Pt.cells, Pt.slots] at X' e1 e2 h1 h2 h3 st hcl
    subst h1; subst h2; subst h3
    exact Or.inr ⟨q, (T.setVm vm₁).calling g' mk As.toArray, t, U', L, E, ce, hT, X', hL, e1, e2, hq, hce, hcv, vx_cls hW₁ hcl, st⟩
end
/-! ===== END ===== -/
end
section
/-! CALLS, THROWS, ENDS, and a method's contract out of its walk -/
section CL
section C1
variable {p : Program} {l : Launch} {e : Env} {R : Room} {s : State} {m : MethodId} {args : Array Value} {below : List Frame} {meth : Method} {c : Code} {Qs : State → Prop} {cc : ByteArray} {nL B : Nat} {g : fw_G} {own : String}
variable {H : Heap} {locs : List Loc} {cells slots mc ms pc : Nat} {la : Array Slot} {rest st0 : List Value} {a : Array Value}
theorem fw_WL_cnt {M : fw_M} {k : Nat} : fw_WL g B (M.1, M.2.1, k) = fw_WL g B M := rfl
theorem fw_callX {Qr : Option Value → fw_M → Prop} (hr : vx_Run p l e R s m args below meth c H locs cells slots mc ms (F0 m pc la st0) rest (fw_Qc g B Qr a) (fw_XC g B (fun _ _ => False)) (fun q => B ≤ q)) (hS : va_S (fun q => B ≤ q) s.heap H locs)
    (kk : ∀ (r : Option Value) (M : fw_M) (H1 : Heap) (locs1 : List Loc), Qr r M → va_P g.1 vwCl (fw_WL g B M) H1 → va_S (fun q => B ≤ q) s.heap H1 locs1 → W p l e R s m args below meth c H1 locs1 (cells + mc) (slots + ms) Qs (F0 m (pc + 3) la (r.toList ++ rest))) : W p l e R s m args below meth c H locs cells slots Qs (F0 m pc la st0) := by
  intro T hT X
  rcases hr T hT X with ⟨v, st₀, t, T', L, h0, X', hL, e1, e2, ⟨⟨r, M, hv, hq, hp⟩, hF⟩, st⟩ | ⟨q, st₀, t, T', L, E, ce, h0, X', hL, e1, e2, ⟨⟨M, hf, -⟩, -⟩, -⟩
  · cases hv
    obtain ⟨k1, k2, k3⟩ := vx_keep h0 e1 hS (fun _ _ h => h) (fun _ h => h) hL hF
    obtain ⟨t2, a1, b1⟩ := kk v M T'.heap (locs ++ L) hq (by rw [e1]; exact hp) k3 T' rfl X'
    exact ⟨t2, st t2 a1, b1⟩
  · exact hf.elim
theorem fw_P_same {D : va_G} {cl : List vw_C} {ws : va_W} {H H1 : Heap} (h : va_P D cl ws H) (hq : ∀ q : Nat, q < H.size → H1[q]? = H[q]?) : va_P D cl ws H1 := by
  intro k q hk
  have hlt := vx_lt h hk
  have h1 := h k q hk
  obtain ⟨a, en⟩ := q
  cases en with
  | inl x =>
    show H1[a]? = _
    rw [hq a hlt]
    exact h1
  | inr o =>
    obtain ⟨r, h2, h3⟩ := h1
    exact ⟨r, h2, h3.kept (hq a hlt)⟩
end C1
theorem fw_goodIn {ws : List Cond} (h : ∀ w ∈ ws, w ∈ fw_LW) : GoodIn fw_LW ws := fun w hw => ⟨h w hw, good_of_word (fw_LW_good (h w hw))⟩
def fw_CalX (l : Launch) (g : fw_G) (B : Nat) (own : String) (R : Room) (q : fw_Cal) : Prop :=
  ∀ (p : Program) (e : Env) (s : State) (m : MethodId) (args : Array Value) (below : List Frame) (meth : Method) (c : Code) (cc : ByteArray) (nL : Nat) (Qs : State → Prop), fw_Env p s m args c cc nL g own → fw_Amb g B s s.heap → fw_CallOK p l e R s m args below meth c cc nL B g (fun _ => 0) (fun _ => 0) Qs q
theorem fw_Pc_at {g : fw_G} {B : Nat} {M : fw_M} {s U : State} {H : Heap} {locs : List Loc} {as : List Value} (hAmb : fw_Amb g B s s.heap) (hP : va_P g.1 vwCl (fw_WL g B M) H) (hS : va_S (fun q => B ≤ q) s.heap H locs) (hU : U.heap = H) (hW : s.WarmedH U.vm) : fw_Pc g B as M as.toArray U :=
  ⟨rfl, by rw [hU]; exact hP, hAmb.warm hW (fun a h1 h2 => by rw [hU]; exact hS.2.1 a h1 h2)⟩
theorem fw_calV {l : Launch} {g : fw_G} {B : Nat} {own : String} {R : Room} {y : MethodName} {cc1 : ByteArray} {nL1 : Nat} {rt1 : Option FieldType} {rm1 : Room} {ct : fw_CTX} {ix ci n : Nat} (hM : fw_Met l g B y cc1 nL1 rt1 rm1 0 0 ct) (hci : ci < 6)
    (w1 : Cond.methodLink own ix y ∈ fw_LW) (w2 : Cond.instanceMethod y ∈ fw_LW) (w3 : Cond.selects (fw_cl ci).1 y y ∈ fw_LW) (w4 : Cond.initialized (fw_cl ci).1 ∈ fw_LW) (w5 : Cond.code y cc1 nL1 rt1 ∈ fw_LW) (hrc : rm1.cells = 0) (hrs : rm1.slots = 0)
    (hd : y.cls = (fw_cl ci).1 ∧ y.cls ≠ "java/lang/invoke/MethodHandle" ∧ y.cls ≠ "java/lang/invoke/VarHandle" ∧ (parseMethodDescriptor y.desc).map (fun d => d.parameters.length) = some n) (hR : rm1.frames + 1 ≤ R.frames ∧ 8 + (nL1 + 11) + rm1.locals ≤ R.locals) :
    fw_CalX l g B own R (ix, 0, ci, n + 1, 0, fun as M Q => ct as M Q (fun _ _ => False)) := by
  intro p e s m args below meth c cc nL Qs E hAmb pc as rest M ls Qr hk hlen hrest hct hq H locs la hP hS hl
  obtain ⟨hx, hb, hml, hown, hts, hK⟩ := E
  rcases hk with ⟨-, hdg, b, as', rfl, hkd⟩ | ⟨h0, -⟩
  · have hkd : fw_kd B b = ci := hkd
    obtain ⟨o, ho, rfl, hko⟩ := fw_kd_at hkd (by omega)
    have hG : GoodIn fw_LW (wsV own ix (fw_cl ci).1 y (fw_ws y cc1 nL1 rt1)) := fw_goodIn (by
      intro w hw
      rcases List.mem_append.mp hw with hw | hw
      · simp only [List.mem_cons, List.not_mem_nil, or_false] at hw
        rcases hw with rfl | rfl | rfl | rfl
        · exact w1
        · exact w2
        · exact w3
        · exact w4
      · rcases List.mem_cons.mp hw with rfl | hw
        · exact w5
        · exact hw)
    have hrecv := va_recv (D := g.1) (cl := vwCl) (tys := fw_tys g) hK hP (ci := ci) (q0 := o) (fw_cl_get ci hci) (by rw [fw_WL_get ho, fw_ct_obj hko hci])
    refine fw_callX (mc := 0) (ms := 0) (vx_runV (C := (fw_cl ci).1) (As := as') (rest := rest) ⟨hx, hb, hml, hown, hts⟩ (hM _ M Qr (fun _ _ => False) hct) (cwV n hts hG rfl hrc hrs hd hR) ⟨fw_Pc_blind, hrecv, fun U hU hW => fw_Pc_at hAmb hP hS hU hW⟩ rfl ?_ hl.1 ?_ (lv_room hrest) hdg ⟨Nat.zero_le _, Nat.zero_le _⟩) hS ?_
    · exact Nat.succ.inj hlen
    · simp
    · intro r M' H1 locs1 hqr hP1 hS1
      exact hq r M' hqr H1 locs1 la hP1 hS1 hl
  · cases h0
theorem fw_calS {l : Launch} {g : fw_G} {B : Nat} {own : String} {R : Room} {y : MethodName} {cc1 : ByteArray} {nL1 : Nat} {rt1 : Option FieldType} {rm1 : Room} {ct : fw_CTX} {ix ci n : Nat} (hM : fw_Met l g B y cc1 nL1 rt1 rm1 0 0 ct)
    (w1 : Cond.methodLink own ix y ∈ fw_LW) (w2 : Cond.static y ∈ fw_LW) (w4 : Cond.initialized own ∈ fw_LW) (w5 : Cond.code y cc1 nL1 rt1 ∈ fw_LW) (hrc : rm1.cells = 0) (hrs : rm1.slots = 0)
    (hd : y.cls = own ∧ y.cls ≠ "java/lang/invoke/MethodHandle" ∧ y.cls ≠ "java/lang/invoke/VarHandle" ∧ (parseMethodDescriptor y.desc).map (fun d => d.parameters.length) = some n) (hR : rm1.frames + 1 ≤ R.frames ∧ 8 + (nL1 + 11) + rm1.locals ≤ R.locals) :
    fw_CalX l g B own R (ix, 1, ci, n, 0, fun as M Q => ct as M Q (fun _ _ => False)) := by
  intro p e s m args below meth c cc nL Qs E hAmb pc as rest M ls Qr hk hlen hrest hct hq H locs la hP hS hl
  obtain ⟨hx, hb, hml, hown, hts, hK⟩ := E
  rcases hk with ⟨h0, -⟩ | ⟨-, hdg⟩
  · cases h0
  · have hG : GoodIn fw_LW (wsS own ix y (fw_ws y cc1 nL1 rt1)) := fw_goodIn (by
      intro w hw
      rcases List.mem_append.mp hw with hw | hw
      · simp only [List.mem_cons, List.not_mem_nil, or_false] at hw
        rcases hw with rfl | rfl | rfl
        · exact w1
        · exact w2
        · exact w4
      · rcases List.mem_cons.mp hw with rfl | hw
        · exact w5
        · exact hw)
    refine fw_callX (mc := 0) (ms := 0) (vx_runS (As := as) (rest := rest) ⟨hx, hb, hml, hown, hts⟩ (hM _ M Qr (fun _ _ => False) hct) (cwS n hts hG rfl hrc hrs hd hR) ⟨fw_Pc_blind, fun U hU hW => fw_Pc_at hAmb hP hS hU hW⟩ rfl hlen hl.1 rfl (lv_room hrest) hdg ⟨Nat.zero_le _, Nat.zero_le _⟩) hS ?_
    intro r M' H1 locs1 hqr hP1 hS1
    exact hq r M' hqr H1 locs1 la hP1 hS1 hl
theorem fw_calSN {l : Launch} {g : fw_G} {B : Nat} {own host : String} {R : Room} {y : MethodName} {cc1 : ByteArray} {nL1 : Nat} {rt1 : Option FieldType} {rm1 : Room} {ct : fw_CTX} {ix ci n : Nat} (hM : fw_Met l g B y cc1 nL1 rt1 rm1 0 0 ct)
    (w1 : Cond.methodLinkNest own ix y host ∈ fw_xw) (w2 : Cond.static y ∈ fw_LW) (w4 : Cond.initialized y.cls ∈ fw_LW) (w5 : Cond.code y cc1 nL1 rt1 ∈ fw_LW) (hrc : rm1.cells = 0) (hrs : rm1.slots = 0)
    (hd : y.cls ≠ "java/lang/invoke/MethodHandle" ∧ y.cls ≠ "java/lang/invoke/VarHandle" ∧ (parseMethodDescriptor y.desc).map (fun d => d.parameters.length) = some n) (hR : rm1.frames + 1 ≤ R.frames ∧ 8 + (nL1 + 11) + rm1.locals ≤ R.locals) :
    fw_CalX l g B own R (ix, 1, ci, n, 0, fun as M Q => ct as M Q (fun _ _ => False)) := by
  intro p e s m args below meth c cc nL Qs E hAmb pc as rest M ls Qr hk hlen hrest hct hq H locs la hP hS hl
  obtain ⟨hx, hb, hml, hown, hts, hK⟩ := E
  rcases hk with ⟨h0, -⟩ | ⟨-, hdg⟩
  · cases h0
  · have hG : GoodIn fw_LW (fw_ws y cc1 nL1 rt1) := fw_goodIn (by
      intro w hw
      rcases List.mem_cons.mp hw with rfl | hw
      · exact w5
      · exact hw)
    refine fw_callX (mc := 0) (ms := 0) (vx_runSN (As := as) (rest := rest) ⟨hx, hb, hml, hown, hts⟩ (hM _ M Qr (fun _ _ => False) hct) ⟨va_cnB n hts hG rfl hrc hrs (hAmb.2.1 _ w1) (hts _ w4) hd hR, hts _ w2, trivial⟩ ⟨fw_Pc_blind, fun U hU hW => fw_Pc_at hAmb hP hS hU hW⟩ rfl hlen hl.1 rfl (lv_room hrest) hdg ⟨Nat.zero_le _, Nat.zero_le _⟩) hS ?_
    intro r M' H1 locs1 hqr hP1 hS1
    exact hq r M' hqr H1 locs1 la hP1 hS1 hl
/-! the JDK's own: Math.abs, Math.min, System.arraycopy of two rows of ints from their heads -/
def fw_ctAbs (as : List Value) (M : fw_M) (Q : Option Value → fw_M → Prop) : Prop := match as with
  | [.int x] => Q (some (.int (if 0 ≤ x then x else 0 - x))) M
  | _ => False
def fw_ctMin (as : List Value) (M : fw_M) (Q : Option Value → fw_M → Prop) : Prop := match as with
  | [.int x, .int y] => Q (some (.int (if y < x then y else x))) M
  | _ => False
def fw_ctCopy (B : Nat) (as : List Value) (M : fw_M) (Q : Option Value → fw_M → Prop) : Prop := match as with
  | [.ref a, .int i, .ref b, .int j, .int n] => fw_kd B a = 7 ∧ fw_kd B b = 7 ∧ i = 0 ∧ j = 0 ∧ ¬ n < 0 ∧ n.toNatClampNeg ≤ fw_len B a ∧ n.toNatClampNeg ≤ fw_len B b ∧ Q none (fw_row M b (va_cpy (M.1 a) (M.1 b) 0 0 n.toNatClampNeg))
  | _ => False
theorem fw_calAbs {l : Launch} {g : fw_G} {B : Nat} {own : String} {R : Room} {ix ci : Nat} (w1 : Cond.methodLink own ix Lib.Math.abs.name ∈ fw_LW) (w2 : Cond.static Lib.Math.abs.name ∈ fw_LW) (w3 : Cond.initialized "java/lang/Math" ∈ fw_LW) (w4 : Cond.code Lib.Math.abs.name Lib.Math.abs.code 1 (some .int) ∈ fw_LW) (hf : 1 ≤ R.frames) (hlo : 21 ≤ R.locals) :
    fw_CalX l g B own R (ix, 1, ci, 1, 0, fw_ctAbs) := by
  intro p e s m args below meth c cc nL Qs E hAmb pc as rest M ls Qr hk hlen hrest hct hq H locs la hP hS hl
  obtain ⟨hx, hb, hml, hown, hts, hK⟩ := E
  rcases hk with ⟨h0, -⟩ | ⟨-, hdg⟩
  · cases h0
  · unfold fw_ctAbs at hct
    dsimp only at hct
    split at hct
    · exact va_mabs (rest := rest) hx hb (by rw [hml, hl.1]) hown (hts _ w1) (hts _ w2) (hts _ w3) (hts _ w4) hf (by omega) (Nat.zero_le _) (Nat.zero_le _) hdg (hq _ _ hct H locs la hP hS hl)
    · exact hct.elim
theorem fw_calMin {l : Launch} {g : fw_G} {B : Nat} {own : String} {R : Room} {ix ci : Nat} (w1 : Cond.methodLink own ix Lib.Math.min.name ∈ fw_LW) (w2 : Cond.static Lib.Math.min.name ∈ fw_LW) (w3 : Cond.initialized "java/lang/Math" ∈ fw_LW) (w4 : Cond.code Lib.Math.min.name Lib.Math.min.code 2 (some .int) ∈ fw_LW) (hf : 1 ≤ R.frames) (hlo : 21 ≤ R.locals) :
    fw_CalX l g B own R (ix, 1, ci, 2, 0, fw_ctMin) := by
  intro p e s m args below meth c cc nL Qs E hAmb pc as rest M ls Qr hk hlen hrest hct hq H locs la hP hS hl
  obtain ⟨hx, hb, hml, hown, hts, hK⟩ := E
  rcases hk with ⟨h0, -⟩ | ⟨-, hdg⟩
  · cases h0
  · unfold fw_ctMin at hct
    dsimp only at hct
    split at hct
    · exact va_mmin (rest := rest) hx hb (by rw [hml, hl.1]) hown (hts _ w1) (hts _ w2) (hts _ w3) (hts _ w4) hf (by omega) (Nat.zero_le _) (Nat.zero_le _) hdg (hq _ _ hct H locs la hP hS hl)
    · exact hct.elim
theorem fw_fv_row {M : fw_M} {ci k a b : Nat} {f : Nat → Int32} (h : b ≠ a) : fw_fv ci k b (fw_row M a f) = fw_fv ci k b M := by
  unfold fw_fv fw_fw
  cases fw_fc ci k with
  | zero =>
    show Value.int ((if b = a then f else M.1 b) k) = _
    rw [if_neg h]
  | succ n => cases n <;> rfl
theorem fw_rowset {g : fw_G} {B o : Nat} {M : fw_M} {f : Nat → Int32} (ho : o < 497) (h : fw_ko o = 7) :
    (fw_WL g B M).set o (B + o, .inl (g.2.1 0, fw_lo o, .inl f)) = fw_WL g B (fw_row M (B + o) f) := by
  refine fw_WL_set ho ?_ (fun o' _ hn => ?_) (fun a ha => if_neg (by omega))
  · rw [fw_ct_7 h]
    show Sum.inl (g.2.1 0, fw_lo o, Sum.inl (if B + o = B + o then f else M.1 (B + o))) = _
    rw [if_pos rfl]
  · have hb : B + o' ≠ B + o := by omega
    unfold fw_ct fw_fs
    simp only [fw_fv_row hb]
    rw [show (fw_row M (B + o) f).1 (B + o') = M.1 (B + o') from if_neg hb]
theorem fw_calCopy {l : Launch} {g : fw_G} {B : Nat} {own : String} {R : Room} {ix ci : Nat} (w1 : Cond.methodLink own ix arraycopyName ∈ fw_LW) (w2 : Cond.native arraycopyName ∈ fw_LW) (w3 : Cond.static arraycopyName ∈ fw_LW) (w4 : Cond.initialized "java/lang/System" ∈ fw_LW) (hf : 1 ≤ R.frames) (hlo : 8 + (nativeFrameWords "java/lang/System" "arraycopy" 5 + 11) ≤ R.locals) :
    fw_CalX l g B own R (ix, 1, ci, 5, 0, fw_ctCopy B) := by
  intro p e s m args below meth c cc nL Qs E hAmb pc as rest M ls Qr hk hlen hrest hct hq H locs la hP hS hl
  obtain ⟨hx, hb, hml, hown, hts, hK⟩ := E
  rcases hk with ⟨h0, -⟩ | ⟨-, hdg⟩
  · cases h0
  · unfold fw_ctCopy at hct
    dsimp only at hct
    split at hct
    · rename_i a i b j n
      obtain ⟨k1, k2, rfl, rfl, k3, k4, k5, hq1⟩ := hct
      obtain ⟨o1, ho1, rfl, hko1⟩ := fw_kd_at k1 (by omega)
      obtain ⟨o2, ho2, rfl, hko2⟩ := fw_kd_at k2 (by omega)
      have e1 : fw_len B (B + o1) = fw_lo o1 := by unfold fw_len; rw [Nat.add_sub_cancel_left]
      have e2 : fw_len B (B + o2) = fw_lo o2 := by unfold fw_len; rw [Nat.add_sub_cancel_left]
      rw [e1] at k4
      rw [e2] at k5
      refine va_copyi (rest := rest) (D := g.1) (cl := vwCl) (tys := fw_tys g) (A := fun q => B ≤ q) (H0 := s.heap) (f := M.1 (B + o1)) (g := M.1 (B + o2)) (n0 := fw_lo o1) (n1 := fw_lo o2) (ty := .int) hx hb (by rw [hml, hl.1]) hown (hts _ w1) (hts _ w2) (hts _ w3) (hts _ w4) hK hP fw_WL_D hS o1 o2 0 0 (by rw [fw_WL_get ho1, fw_ct_7 hko1]) (by rw [fw_WL_get ho2, fw_ct_7 hko2]) rfl rfl rfl (by decide) (by decide) k3 ?_ ?_ (fun i _ => rfl) hf (by omega) hdg ?_
      · rw [show (0 : Int32).toNatClampNeg = 0 from rfl]; omega
      · rw [show (0 : Int32).toNatClampNeg = 0 from rfl]; omega
      · intro H1 locs1 hP1 hD1 hS1
        rw [show (0 : Int32).toNatClampNeg = 0 from rfl, fw_rowset ho2 hko2] at hP1
        exact hq _ _ hq1 H1 locs1 la hP1 hS1 hl
    · exact hct.elim
/-! throws -/
def fw_ThrX (l : Launch) (g : fw_G) (B : Nat) (own : String) (R : Room) (mc ms : Nat) (q : Nat × String) : Prop :=
  ∀ (p : Program) (e : Env) (s : State) (m : MethodId) (args : Array Value) (below : List Frame) (meth : Method) (c : Code) (cc : ByteArray) (nL : Nat) (Q : Option Value → fw_M → Prop) (QX : String → fw_M → Prop), fw_Env p s m args c cc nL g own → fw_Amb g B s s.heap → meth.locks = false → (∀ x ∈ c.exceptionTable.toList, False) →
    fw_ThrOK p l e R s m args below meth c cc nL B g (fun _ => 0) (fun _ => 0) (vx_MQ below (fw_Qc g B Q) (fw_XC g B QX) args s mc ms (fun q => B ≤ q)) QX q
theorem fw_thrX {l : Launch} {g : fw_G} {B : Nat} {own : String} {R : Room} {mc ms ik : Nat} {cls : String} (htr : l.stackTraces = false) (hcls : Bundle.fit cls = true) (w1 : Cond.classLink own ik cls ∈ fw_LW) (w2 : Cond.initialized cls ∈ fw_LW)
    (hgd : ∀ w ∈ (vx_at0 own (ik + 2) cls ["java/lang/RuntimeException", "java/lang/Exception"]).filter goodWord, w ∈ fw_LW) (hbd : ∀ w ∈ (vx_at0 own (ik + 2) cls ["java/lang/RuntimeException", "java/lang/Exception"]).filter (fun w => !goodWord w), w ∈ fw_xw)
    (hot : (Cond.classLink own ik cls :: Cond.initialized cls :: vx_at0 own (ik + 2) cls ["java/lang/RuntimeException", "java/lang/Exception"]).all vx_ot = true)
    (hRf : 5 < R.frames) (hRl : 81 ≤ R.locals) (hRc : 1 ≤ R.cells) (hRs : 6 ≤ R.slots) (hmc : 1 ≤ mc) (hms : 6 ≤ ms) : fw_ThrX l g B own R mc ms (ik, cls) := by
  intro p e s m args below meth c cc nL Q QX E hAmb hlocks hex pc ls M hd hnw hqx H locs la hP hS hl
  obtain ⟨hx, hb, hml, hown, hts, hK⟩ := E
  obtain ⟨d3, d4, d7⟩ := hnw
  refine vx_throw0 (names := ["java/lang/RuntimeException", "java/lang/Exception"]) (A := fun q => B ≤ q) hx hb htr hown hcls (by decide +kernel) (hts _ w1) (hts _ w2) (vx_hat (B := fw_xw) (fun w hw => hts w (hgd w hw)) hbd (fun w hw => va_Nw.use (fw_xw_tab hw) (hAmb.2.1 w hw))) (fun w hw => List.all_eq_true.mp hot w hw) hAmb.2.2.1 hAmb.2.2.2 hS (by rw [hml, hl.1]) hd d3 d4 d7 (fun x hx => (hex x hx).elim) hRf ?_ ?_ ?_ hlocks ?_ hS.2.2 ?_ ?_
  · simpa using hRl
  · simpa using hRc
  · simpa using hRs
  · intro t hal hsz hk
    refine ⟨⟨M, hqx, fw_P_same hP hk⟩, Nat.le_trans hS.1 hsz, fun q h1 h2 => ?_⟩
    rw [hk q (Nat.lt_of_lt_of_le h1 hS.1)]
    exact hS.2.1 q h1 h2
  · simpa using hmc
  · simpa using hms
/-! ends -/
theorem fw_ret {p : Program} {l : Launch} {e : Env} {R : Room} {s : State} {m : MethodId} {args : Array Value} {below : List Frame} {meth : Method} {c : Code} {cc : ByteArray} {nL B : Nat} {g : fw_G} {own : String} {rt : Option FieldType} {Q : Option Value → fw_M → Prop} {XC : String → State → State → Prop} {mc ms : Nat}
    (E : fw_Env p s m args c cc nL g own) (hr : meth.sig.returnType = rt) (hlocks : meth.locks = false) : fw_RetOK p l e R s m args below meth c cc nL B g (fun _ => 0) (fun _ => 0) (vx_MQ below (fw_Qc g B Q) XC args s mc ms (fun q => B ≤ q)) rt Q := by
  obtain ⟨hx, hb, hml, hown, hts, hK⟩ := E
  have key : ∀ {H : Heap} {locs : List Loc} {M : fw_M} {r : Option Value}, va_P g.1 vwCl (fw_WL g B M) H → va_S (fun q => B ≤ q) s.heap H locs → Q r M → ∀ t : State, t.heap = H → s.WarmedH t.vm → fw_Qc g B Q args s (.returned r) t := by
    intro H locs M r hP hS hq t ht hW
    exact ⟨⟨r, M, rfl, hq, by rw [ht]; exact hP⟩, hS.F ht⟩
  intro pc ls st M
  refine ⟨?_, ?_, ?_, ?_, ?_⟩
  · intro hd h
    unfold fw_endi at h
    split at h
    · intro H locs la hP hS hl
      exact vx_ret (W.widen (k := mc) (n := ms) (Nat.zero_le _) (Nat.zero_le _) (W.iret hx hb hr (key hP hS h) hS.2.2 hd))
    · obtain ⟨hz, h⟩ := h
      intro H locs la hP hS hl
      exact vx_ret (W.widen (k := mc) (n := ms) (Nat.zero_le _) (Nat.zero_le _) (W.zret hx hb hr (by rcases hz with rfl | rfl <;> rfl) (key hP hS h) hS.2.2 hd))
    · exact h.elim
  · intro hd h
    unfold fw_enda at h
    split at h
    · intro H locs la hP hS hl
      exact vx_ret (W.widen (k := mc) (n := ms) (Nat.zero_le _) (Nat.zero_le _) (W.aret hx hb hr (Or.inl ⟨_, rfl⟩) (Or.inr ⟨_, rfl⟩) (key hP hS h) hS.2.2 hd))
    · intro H locs la hP hS hl
      exact vx_ret (W.widen (k := mc) (n := ms) (Nat.zero_le _) (Nat.zero_le _) (W.aret hx hb hr (Or.inl ⟨_, rfl⟩) (Or.inl rfl) (key hP hS h) hS.2.2 hd))
    · exact h.elim
  · intro hd h
    unfold fw_endl at h
    split at h
    · intro H locs la hP hS hl
      exact vx_ret (W.widen (k := mc) (n := ms) (Nat.zero_le _) (Nat.zero_le _) (W.lret hx hb hr (key hP hS h) hS.2.2 hd))
    · exact h.elim
  · intro hd h
    unfold fw_endd at h
    split at h
    · intro H locs la hP hS hl
      exact vx_ret (W.widen (k := mc) (n := ms) (Nat.zero_le _) (Nat.zero_le _) (W.dret hx hb hr (key hP hS h) hS.2.2 hd))
    · exact h.elim
  · intro hd h
    unfold fw_endv at h
    split at h
    · intro H locs la hP hS hl
      exact vx_ret (W.widen (k := mc) (n := ms) (Nat.zero_le _) (Nat.zero_le _) (W.vret hx hb hr (key hP hS h) hS.2.2 hd))
    · exact h.elim
/-! a body's start -/
def fw_in0 : List Value → fw_L
  | [] => []
  | v :: t => bif fw_c2 (some v) then some v :: none :: fw_in0 t else some v :: fw_in0 t
def fw_pad : Nat → fw_L → fw_L
  | 0, _ => []
  | n + 1, [] => none :: fw_pad n []
  | n + 1, o :: t => o :: fw_pad n t
theorem fw_lg_pad : ∀ {n : Nat} {ls : fw_L} {i : Nat} {v : Value}, fw_lg (fw_pad n ls) i = some v → fw_lg ls i = some v := by
  intro n
  induction n with
  | zero => intro ls i v h; cases h
  | succ n ih =>
    intro ls i v h
    cases ls with
    | nil =>
      cases i with
      | zero => cases h
      | succ i => have h := ih (ls := []) (i := i) h; cases h
    | cons o t =>
      cases i with
      | zero => exact h
      | succ i => exact ih (ls := t) (i := i) h
theorem fw_lg_in0 {v : Value} : ∀ {vs : List Value} {i k : Nat}, fw_lg (fw_in0 vs) i = some v → (k + i, v) ∈ lv_args k vs := by
  intro vs
  induction vs with
  | nil => intro i k h; cases h
  | cons w t ih =>
    intro i k h
    unfold fw_in0 at h
    unfold lv_args
    have hc : fw_c2 (some w) = true ↔ w.category = 2 := by cases w <;> simp [fw_c2, Value.category]
    cases hb : fw_c2 (some w) with
    | true =>
      rw [hb] at h
      rw [if_pos (hc.mp hb)]
      match i, h with
      | 0, h =>
        have h : some w = some v := h
        cases h
        exact List.mem_cons_self
      | 1, h => cases h
      | i + 2, h =>
        have h : fw_lg (fw_in0 t) i = some v := h
        have h2 := ih (k := k + 2) h
        rw [show k + 2 + i = k + (i + 2) by omega] at h2
        exact List.mem_cons_of_mem _ h2
    | false =>
      rw [hb] at h
      rw [if_neg (fun z => by rw [hc.mpr z] at hb; cases hb)]
      match i, h with
      | 0, h =>
        have h : some w = some v := h
        cases h
        exact List.mem_cons_self
      | i + 1, h =>
        have h : fw_lg (fw_in0 t) i = some v := h
        have h2 := ih (k := k + 1) h
        rw [show k + 1 + i = k + (i + 1) by omega] at h2
        exact List.mem_cons_of_mem _ h2
/-- a walk of a body with its loops, for a contract ct -/
def fw_Wk (B : Nat) (fld : List (Nat × Nat × Nat)) (cal : List fw_Cal) (thr : List (Nat × String)) (cst : List (Nat × Value)) (rt : Option FieldType) (code : List fw_Ent) (nL : Nat) (ct : fw_CTX) : Prop :=
  ∀ as M Q QX, ct as M Q QX → Nat.ble (lg_sl as).length nL = true ∧ ∃ A : fw_AL, (∃ F, fw_wp B fld cal thr cst none rt Q QX code (fw_Ka A) F true (fw_seek 0 code) (fw_pad nL (fw_in0 as)) [] M) ∧
    ∀ q ∈ A, ∀ n ls st M, q.2.2 n ls st M → ∃ F, fw_wp B fld cal thr cst none rt Q QX code (fw_Kn A n) F true (fw_seek q.1 code) ls st M
theorem fw_met {l : Launch} {g : fw_G} {B : Nat} {y : MethodName} {cc : ByteArray} {nL : Nat} {rt : Option FieldType} {rm : Room} {mc ms : Nat} {own : String} {code : List fw_Ent} {cst : List (Nat × Value)} {fld : List (Nat × Nat × Nat)} {cal : List fw_Cal} {thr : List (Nat × String)} {ct : fw_CTX}
    (hy : plainName y.cls = true) (hcls : y.cls = own) (hchk : fw_chk cc nL code = true) (hcst : ∀ en ∈ code, fw_CstOK own cst en) (hfld : fw_Fld own fld) (hcal : ∀ q ∈ cal, fw_CalX l g B own rm q) (hthr : ∀ q ∈ thr, fw_ThrX l g B own rm mc ms q)
    (hw : fw_Wk B fld cal thr cst rt code nL ct) : fw_Met l g B y cc nL rt rm mc ms ct := by
  intro as M Q QX hct
  obtain ⟨hlen, A, ⟨F, hwp⟩, hA⟩ := hw as M Q QX hct
  refine vx_ofW (cc := cc) (maxL := nL) (ret := rt) hy rfl ?_
  intro p e s m args below meth c s₁ Bd hml hex hv
  obtain ⟨rfl, hP, hAmb⟩ := hv
  have hts0 := atoms_spec (ws := fw_ws y cc nL rt) Bd.pre
  have hown : s.vm.findClass own = some m.cls := by rw [← hcls]; exact findClass_of_methodNamed Bd.named
  have hlocks := Bd.notSynchronized
  have E : fw_Env p s m as.toArray c cc nL g own := ⟨Bd.exec, Bd.bytes, hml, hown, fun w hw => hts0 w (List.mem_cons_of_mem _ hw), hAmb.1⟩
  have hl := lv_entry as (n := nL) (Nat.le_of_ble_eq_true hlen)
  rw [lg_entry_eq]
  exact fw_body (p := p) (l := l) (e := e) (R := rm) (Qs := vx_MQ below (fw_Qc g B Q) (fw_XC g B QX) as.toArray s mc ms (fun q => B ≤ q)) (cf := fun _ => 0) (sf := fun _ => 0) (scr := none) E hchk hcst hfld trivial
    (fun q hq => hcal q hq p e s m as.toArray below meth c cc nL _ E hAmb) (fun q hq => hthr q hq p e s m as.toArray below meth c cc nL Q QX E hAmb hlocks hex) (fw_ret E Bd.returns hlocks) A hA hwp s.heap [] _ hP va_S.rf
    ⟨hl.1, hl.2.1, fun i v hi => by
      have h1 := fw_lg_in0 (k := 0) (fw_lg_pad hi)
      rw [Nat.zero_add] at h1
      exact hl.2.2 (i, v) h1⟩
end CL
end
section
def fw_cstq (cp : List (Nat × Int32)) (en : fw_Ent) : Bool := match en.2.2.1 with
  | .ldc i => decide ((i, en.2.2.2.1) ∈ cp)
  | .ldc_w i => decide ((i, en.2.2.2.1) ∈ cp)
  | _ => true
theorem fw_cstX {own : String} {cst : List (Nat × Value)} {cp : List (Nat × Int32)} {en : fw_Ent} (hcp : ∀ q ∈ cp, Cond.constant own q.1 q.2 ∈ fw_LW) (hcst : ∀ i v, (i, Value.long v) ∈ cst → Cond.constantLong own i v ∈ fw_LW) (h : fw_cstq cp en = true) : fw_CstOK own cst en := by
  obtain ⟨pc, len, i, num, tgt⟩ := en
  unfold fw_CstOK
  dsimp only
  cases i with
  | ldc i => exact hcp (i, num) (of_decide_eq_true h)
  | ldc_w i => exact hcp (i, num) (of_decide_eq_true h)
  | ldc2_w i => exact fun v hv => hcst i v (fw_find_mem hv)
  | _ => trivial
def cst_X0 : List (Nat × Value) := []
def cp_X0 : List (Nat × Int32) := []
theorem cp_X0_ok : ∀ q ∈ cp_X0, Cond.constant RX0 q.1 q.2 ∈ fw_LW := by
  intro q hq
  simp only [cp_X0, List.mem_cons, List.not_mem_nil, or_false] at hq
theorem cst_X0_ok : ∀ i v, (i, Value.long v) ∈ cst_X0 → Cond.constantLong RX0 i v ∈ fw_LW := by
  intro i v hq
  simp only [cst_X0, List.mem_cons, List.not_mem_nil, or_false, Prod.mk.injEq, Value.long.injEq] at hq
def cst_X1 : List (Nat × Value) := []
def cp_X1 : List (Nat × Int32) := []
theorem cp_X1_ok : ∀ q ∈ cp_X1, Cond.constant RX1 q.1 q.2 ∈ fw_LW := by
  intro q hq
  simp only [cp_X1, List.mem_cons, List.not_mem_nil, or_false] at hq
theorem cst_X1_ok : ∀ i v, (i, Value.long v) ∈ cst_X1 → Cond.constantLong RX1 i v ∈ fw_LW := by
  intro i v hq
  simp only [cst_X1, List.mem_cons, List.not_mem_nil, or_false, Prod.mk.injEq, Value.long.injEq] at hq
def cst_X2 : List (Nat × Value) := []
def cp_X2 : List (Nat × Int32) := []
theorem cp_X2_ok : ∀ q ∈ cp_X2, Cond.constant RX2 q.1 q.2 ∈ fw_LW := by
  intro q hq
  simp only [cp_X2, List.mem_cons, List.not_mem_nil, or_false] at hq
theorem cst_X2_ok : ∀ i v, (i, Value.long v) ∈ cst_X2 → Cond.constantLong RX2 i v ∈ fw_LW := by
  intro i v hq
  simp only [cst_X2, List.mem_cons, List.not_mem_nil, or_false, Prod.mk.injEq, Value.long.injEq] at hq
def cst_X3 : List (Nat × Value) := []
def cp_X3 : List (Nat × Int32) := []
theorem cp_X3_ok : ∀ q ∈ cp_X3, Cond.constant RX3 q.1 q.2 ∈ fw_LW := by
  intro q hq
  simp only [cp_X3, List.mem_cons, List.not_mem_nil, or_false] at hq
theorem cst_X3_ok : ∀ i v, (i, Value.long v) ∈ cst_X3 → Cond.constantLong RX3 i v ∈ fw_LW := by
  intro i v hq
  simp only [cst_X3, List.mem_cons, List.not_mem_nil, or_false, Prod.mk.injEq, Value.long.injEq] at hq
def cst_X4 : List (Nat × Value) := []
def cp_X4 : List (Nat × Int32) := []
theorem cp_X4_ok : ∀ q ∈ cp_X4, Cond.constant RX4 q.1 q.2 ∈ fw_LW := by
  intro q hq
  simp only [cp_X4, List.mem_cons, List.not_mem_nil, or_false] at hq
theorem cst_X4_ok : ∀ i v, (i, Value.long v) ∈ cst_X4 → Cond.constantLong RX4 i v ∈ fw_LW := by
  intro i v hq
  simp only [cst_X4, List.mem_cons, List.not_mem_nil, or_false, Prod.mk.injEq, Value.long.injEq] at hq
def cst_X5 : List (Nat × Value) := []
def cp_X5 : List (Nat × Int32) := [(207, 65535)]
theorem cp_X5_ok : ∀ q ∈ cp_X5, Cond.constant RX5 q.1 q.2 ∈ fw_LW := by
  intro q hq
  simp only [cp_X5, List.mem_cons, List.not_mem_nil, or_false] at hq
  rcases hq with rfl
  · exact wk_X5_207
theorem cst_X5_ok : ∀ i v, (i, Value.long v) ∈ cst_X5 → Cond.constantLong RX5 i v ∈ fw_LW := by
  intro i v hq
  simp only [cst_X5, List.mem_cons, List.not_mem_nil, or_false, Prod.mk.injEq, Value.long.injEq] at hq
def cst_L : List (Nat × Value) := []
def cp_L : List (Nat × Int32) := [(7, 40503), (8, 2147483647), (34, 65535), (35, 100000), (47, -100003), (51, -100001), (56, -100002)]
theorem cp_L_ok : ∀ q ∈ cp_L, Cond.constant RL q.1 q.2 ∈ fw_LW := by
  intro q hq
  simp only [cp_L, List.mem_cons, List.not_mem_nil, or_false] at hq
  rcases hq with rfl | rfl | rfl | rfl | rfl | rfl | rfl
  · exact wk_L_7
  · exact wk_L_8
  · exact wk_L_34
  · exact wk_L_35
  · exact wk_L_47
  · exact wk_L_51
  · exact wk_L_56
theorem cst_L_ok : ∀ i v, (i, Value.long v) ∈ cst_L → Cond.constantLong RL i v ∈ fw_LW := by
  intro i v hq
  simp only [cst_L, List.mem_cons, List.not_mem_nil, or_false, Prod.mk.injEq, Value.long.injEq] at hq
/-! CODE: every method of the class and of the reference as a list of decoded rows (printed by program) -/
def fl_X5 : List (Nat × Nat × Nat) := [(10, 5, 0), (16, 5, 1), (22, 5, 2), (29, 5, 3), (43, 1, 2), (65, 0, 0), (76, 1, 3), (83, 1, 1), (86, 0, 4), (96, 1, 0)]
theorem fl_X5_ok : fw_Fld RX5 fl_X5 := by
  intro q hq
  simp only [fl_X5, List.mem_cons, List.not_mem_nil, or_false] at hq
  rcases hq with rfl | rfl | rfl | rfl | rfl | rfl | rfl | rfl | rfl | rfl
  · exact ⟨by decide, by decide, rfl, wf_X5_10⟩
  · exact ⟨by decide, by decide, rfl, wf_X5_16⟩
  · exact ⟨by decide, by decide, rfl, wf_X5_22⟩
  · exact ⟨by decide, by decide, rfl, wf_X5_29⟩
  · exact ⟨by decide, by decide, rfl, wf_X5_43⟩
  · exact ⟨by decide, by decide, rfl, wf_X5_65⟩
  · exact ⟨by decide, by decide, rfl, wf_X5_76⟩
  · exact ⟨by decide, by decide, rfl, wf_X5_83⟩
  · exact ⟨by decide, by decide, rfl, wf_X5_86⟩
  · exact ⟨by decide, by decide, rfl, wf_X5_96⟩
def fl_X0 : List (Nat × Nat × Nat) := [(9, 0, 4), (15, 0, 0), (18, 0, 1), (21, 0, 2), (27, 0, 3)]
theorem fl_X0_ok : fw_Fld RX0 fl_X0 := by
  intro q hq
  simp only [fl_X0, List.mem_cons, List.not_mem_nil, or_false] at hq
  rcases hq with rfl | rfl | rfl | rfl | rfl
  · exact ⟨by decide, by decide, rfl, wf_X0_9⟩
  · exact ⟨by decide, by decide, rfl, wf_X0_15⟩
  · exact ⟨by decide, by decide, rfl, wf_X0_18⟩
  · exact ⟨by decide, by decide, rfl, wf_X0_21⟩
  · exact ⟨by decide, by decide, rfl, wf_X0_27⟩
def fl_X1 : List (Nat × Nat × Nat) := [(11, 1, 7), (19, 1, 8), (23, 1, 1), (29, 1, 0), (32, 1, 2), (35, 1, 3), (38, 1, 4), (41, 1, 5), (44, 1, 6), (69, 0, 4), (72, 3, 4), (78, 0, 0), (92, 0, 3), (109, 0, 1), (112, 3, 1), (123, 3, 5), (131, 3, 6), (134, 3, 2), (137, 3, 3), (140, 3, 7), (144, 0, 2)]
theorem fl_X1_ok : fw_Fld RX1 fl_X1 := by
  intro q hq
  simp only [fl_X1, List.mem_cons, List.not_mem_nil, or_false] at hq
  rcases hq with rfl | rfl | rfl | rfl | rfl | rfl | rfl | rfl | rfl | rfl | rfl | rfl | rfl | rfl | rfl | rfl | rfl | rfl | rfl | rfl | rfl
  · exact ⟨by decide, by decide, rfl, wf_X1_11⟩
  · exact ⟨by decide, by decide, rfl, wf_X1_19⟩
  · exact ⟨by decide, by decide, rfl, wf_X1_23⟩
  · exact ⟨by decide, by decide, rfl, wf_X1_29⟩
  · exact ⟨by decide, by decide, rfl, wf_X1_32⟩
  · exact ⟨by decide, by decide, rfl, wf_X1_35⟩
  · exact ⟨by decide, by decide, rfl, wf_X1_38⟩
  · exact ⟨by decide, by decide, rfl, wf_X1_41⟩
  · exact ⟨by decide, by decide, rfl, wf_X1_44⟩
  · exact ⟨by decide, by decide, rfl, wf_X1_69⟩
  · exact ⟨by decide, by decide, rfl, wf_X1_72⟩
  · exact ⟨by decide, by decide, rfl, wf_X1_78⟩
  · exact ⟨by decide, by decide, rfl, wf_X1_92⟩
  · exact ⟨by decide, by decide, rfl, wf_X1_109⟩
  · exact ⟨by decide, by decide, rfl, wf_X1_112⟩
  · exact ⟨by decide, by decide, rfl, wf_X1_123⟩
  · exact ⟨by decide, by decide, rfl, wf_X1_131⟩
  · exact ⟨by decide, by decide, rfl, wf_X1_134⟩
  · exact ⟨by decide, by decide, rfl, wf_X1_137⟩
  · exact ⟨by decide, by decide, rfl, wf_X1_140⟩
  · exact ⟨by decide, by decide, rfl, wf_X1_144⟩
def fl_X2 : List (Nat × Nat × Nat) := [(11, 2, 0), (18, 2, 1), (22, 2, 2)]
theorem fl_X2_ok : fw_Fld RX2 fl_X2 := by
  intro q hq
  simp only [fl_X2, List.mem_cons, List.not_mem_nil, or_false] at hq
  rcases hq with rfl | rfl | rfl
  · exact ⟨by decide, by decide, rfl, wf_X2_11⟩
  · exact ⟨by decide, by decide, rfl, wf_X2_18⟩
  · exact ⟨by decide, by decide, rfl, wf_X2_22⟩
def fl_X3 : List (Nat × Nat × Nat) := [(9, 3, 8), (15, 3, 9), (18, 3, 0), (22, 3, 1), (25, 3, 2), (28, 3, 3), (31, 3, 4), (34, 3, 5), (37, 3, 6), (40, 3, 7)]
theorem fl_X3_ok : fw_Fld RX3 fl_X3 := by
  intro q hq
  simp only [fl_X3, List.mem_cons, List.not_mem_nil, or_false] at hq
  rcases hq with rfl | rfl | rfl | rfl | rfl | rfl | rfl | rfl | rfl | rfl
  · exact ⟨by decide, by decide, rfl, wf_X3_9⟩
  · exact ⟨by decide, by decide, rfl, wf_X3_15⟩
  · exact ⟨by decide, by decide, rfl, wf_X3_18⟩
  · exact ⟨by decide, by decide, rfl, wf_X3_22⟩
  · exact ⟨by decide, by decide, rfl, wf_X3_25⟩
  · exact ⟨by decide, by decide, rfl, wf_X3_28⟩
  · exact ⟨by decide, by decide, rfl, wf_X3_31⟩
  · exact ⟨by decide, by decide, rfl, wf_X3_34⟩
  · exact ⟨by decide, by decide, rfl, wf_X3_37⟩
  · exact ⟨by decide, by decide, rfl, wf_X3_40⟩
def fl_X4 : List (Nat × Nat × Nat) := [(9, 4, 0), (15, 4, 1)]
theorem fl_X4_ok : fw_Fld RX4 fl_X4 := by
  intro q hq
  simp only [fl_X4, List.mem_cons, List.not_mem_nil, or_false] at hq
  rcases hq with rfl | rfl
  · exact ⟨by decide, by decide, rfl, wf_X4_9⟩
  · exact ⟨by decide, by decide, rfl, wf_X4_15⟩
def fl_X6 : List (Nat × Nat × Nat) := []
theorem fl_X6_ok : fw_Fld RX6 fl_X6 := by
  intro q hq
  simp only [fl_X6, List.mem_cons, List.not_mem_nil, or_false] at hq
def kX0_begin : List fw_Ent := [
  (0, 1, .aload_n 0, 0, 0), (1, 1, .iload_n 1, 0, 0), (2, 3, .putfield 15, 0, 0), (5, 1, .aload_n 0, 0, 0),
  (6, 1, .iload_n 2, 0, 0), (7, 3, .putfield 18, 0, 0), (10, 1, .aload_n 0, 0, 0), (11, 1, .iconst 0, 0, 0),
  (12, 3, .putfield 21, 0, 0), (15, 1, .aload_n 0, 0, 0), (16, 3, .invokevirtual 24, 0, 0), (19, 1, .return_, 0, 0)]
theorem kX0_begin_ok : fw_chk cX0_begin 3 kX0_begin = true := by decide +kernel
theorem kX0_begin_cst : ∀ en ∈ kX0_begin, fw_CstOK RX0 cst_X0 en := by
  have h : kX0_begin.all (fw_cstq cp_X0) = true := by decide +kernel
  exact fun en he => fw_cstX cp_X0_ok cst_X0_ok (List.all_eq_true.mp h en he)
def kX0_become : List fw_Ent := [
  (0, 1, .aload_n 0, 0, 0), (1, 1, .aload_n 1, 0, 0), (2, 3, .getfield 15, 0, 0), (5, 3, .putfield 15, 0, 0),
  (8, 1, .aload_n 0, 0, 0), (9, 1, .aload_n 1, 0, 0), (10, 3, .getfield 18, 0, 0), (13, 3, .putfield 18, 0, 0),
  (16, 1, .aload_n 0, 0, 0), (17, 1, .aload_n 1, 0, 0), (18, 3, .getfield 21, 0, 0), (21, 3, .putfield 21, 0, 0),
  (24, 1, .aload_n 0, 0, 0), (25, 1, .aload_n 1, 0, 0), (26, 3, .getfield 27, 0, 0), (29, 3, .putfield 27, 0, 0),
  (32, 1, .aload_n 0, 0, 0), (33, 1, .aload_n 1, 0, 0), (34, 3, .getfield 9, 0, 0), (37, 3, .putfield 9, 0, 0),
  (40, 1, .return_, 0, 0)]
theorem kX0_become_ok : fw_chk cX0_become 2 kX0_become = true := by decide +kernel
theorem kX0_become_cst : ∀ en ∈ kX0_become, fw_CstOK RX0 cst_X0 en := by
  have h : kX0_become.all (fw_cstq cp_X0) = true := by decide +kernel
  exact fun en he => fw_cstX cp_X0_ok cst_X0_ok (List.all_eq_true.mp h en he)
def kX0_setFree : List fw_Ent := [
  (0, 1, .aload_n 0, 0, 0), (1, 1, .iconst 0, 0, 0), (2, 3, .putfield 27, 0, 0), (5, 1, .aload_n 0, 0, 0),
  (6, 1, .iconst (-1), (-1), 0), (7, 3, .putfield 9, 0, 0), (10, 1, .return_, 0, 0)]
theorem kX0_setFree_ok : fw_chk cX0_setFree 1 kX0_setFree = true := by decide +kernel
theorem kX0_setFree_cst : ∀ en ∈ kX0_setFree, fw_CstOK RX0 cst_X0 en := by
  have h : kX0_setFree.all (fw_cstq cp_X0) = true := by decide +kernel
  exact fun en he => fw_cstX cp_X0_ok cst_X0_ok (List.all_eq_true.mp h en he)
def kX1_become : List fw_Ent := [
  (0, 1, .aload_n 0, 0, 0), (1, 1, .aload_n 1, 0, 0), (2, 3, .getfield 29, 0, 0), (5, 3, .putfield 29, 0, 0),
  (8, 1, .aload_n 0, 0, 0), (9, 1, .aload_n 1, 0, 0), (10, 3, .getfield 23, 0, 0), (13, 3, .putfield 23, 0, 0),
  (16, 1, .aload_n 0, 0, 0), (17, 1, .aload_n 1, 0, 0), (18, 3, .getfield 32, 0, 0), (21, 3, .putfield 32, 0, 0),
  (24, 1, .aload_n 0, 0, 0), (25, 1, .aload_n 1, 0, 0), (26, 3, .getfield 35, 0, 0), (29, 3, .putfield 35, 0, 0),
  (32, 1, .aload_n 0, 0, 0), (33, 1, .aload_n 1, 0, 0), (34, 3, .getfield 38, 0, 0), (37, 3, .putfield 38, 0, 0),
  (40, 1, .aload_n 0, 0, 0), (41, 1, .aload_n 1, 0, 0), (42, 3, .getfield 41, 0, 0), (45, 3, .putfield 41, 0, 0),
  (48, 1, .aload_n 0, 0, 0), (49, 1, .aload_n 1, 0, 0), (50, 3, .getfield 44, 0, 0), (53, 3, .putfield 44, 0, 0),
  (56, 1, .iconst 0, 0, 0), (57, 1, .istore_n 2, 0, 0), (58, 1, .iload_n 2, 0, 0), (59, 1, .aload_n 0, 0, 0),
  (60, 3, .getfield 32, 0, 0), (63, 3, .if_icmp .ge 37, 0, 100), (66, 1, .aload_n 0, 0, 0), (67, 1, .iload_n 2, 0, 0),
  (68, 3, .invokevirtual 47, 0, 0), (71, 1, .astore_n 3, 0, 0), (72, 1, .aload_n 1, 0, 0), (73, 1, .iload_n 2, 0, 0),
  (74, 3, .invokevirtual 47, 0, 0), (77, 2, .astore 4, 0, 0), (79, 1, .aload_n 3, 0, 0), (80, 3, .ifnull 14, 0, 94),
  (83, 2, .aload 4, 0, 0), (85, 3, .ifnull 9, 0, 94), (88, 1, .aload_n 3, 0, 0), (89, 2, .aload 4, 0, 0),
  (91, 3, .invokevirtual 51, 0, 0), (94, 3, .iinc 2 1, 1, 0), (97, 3, .goto (-39), 0, 58), (100, 1, .iconst 0, 0, 0),
  (101, 1, .istore_n 2, 0, 0), (102, 1, .iload_n 2, 0, 0), (103, 1, .aload_n 0, 0, 0), (104, 3, .getfield 35, 0, 0),
  (107, 3, .if_icmp .ge 37, 0, 144), (110, 1, .aload_n 0, 0, 0), (111, 1, .iload_n 2, 0, 0), (112, 3, .invokevirtual 55, 0, 0),
  (115, 1, .astore_n 3, 0, 0), (116, 1, .aload_n 1, 0, 0), (117, 1, .iload_n 2, 0, 0), (118, 3, .invokevirtual 55, 0, 0),
  (121, 2, .astore 4, 0, 0), (123, 1, .aload_n 3, 0, 0), (124, 3, .ifnull 14, 0, 138), (127, 2, .aload 4, 0, 0),
  (129, 3, .ifnull 9, 0, 138), (132, 1, .aload_n 3, 0, 0), (133, 2, .aload 4, 0, 0), (135, 3, .invokevirtual 59, 0, 0),
  (138, 3, .iinc 2 1, 1, 0), (141, 3, .goto (-39), 0, 102), (144, 1, .return_, 0, 0)]
theorem kX1_become_ok : fw_chk cX1_become 5 kX1_become = true := by decide +kernel
theorem kX1_become_cst : ∀ en ∈ kX1_become, fw_CstOK RX1 cst_X1 en := by
  have h : kX1_become.all (fw_cstq cp_X1) = true := by decide +kernel
  exact fun en he => fw_cstX cp_X1_ok cst_X1_ok (List.all_eq_true.mp h en he)
def kX1_courierAt : List fw_Ent := [
  (0, 1, .iload_n 1, 0, 0), (1, 3, .ifCond .lt 20, 0, 21), (4, 1, .iload_n 1, 0, 0), (5, 1, .aload_n 0, 0, 0),
  (6, 3, .getfield 32, 0, 0), (9, 3, .if_icmp .ge 12, 0, 21), (12, 1, .iload_n 1, 0, 0), (13, 1, .aload_n 0, 0, 0),
  (14, 3, .getfield 11, 0, 0), (17, 1, .arraylength, 0, 0), (18, 3, .if_icmp .lt 5, 0, 23), (21, 1, .aconst_null, 0, 0),
  (22, 1, .areturn, 0, 0), (23, 1, .aload_n 0, 0, 0), (24, 3, .getfield 11, 0, 0), (27, 1, .iload_n 1, 0, 0),
  (28, 1, .aaload, 0, 0), (29, 1, .areturn, 0, 0)]
theorem kX1_courierAt_ok : fw_chk cX1_courierAt 2 kX1_courierAt = true := by decide +kernel
theorem kX1_courierAt_cst : ∀ en ∈ kX1_courierAt, fw_CstOK RX1 cst_X1 en := by
  have h : kX1_courierAt.all (fw_cstq cp_X1) = true := by decide +kernel
  exact fun en he => fw_cstX cp_X1_ok cst_X1_ok (List.all_eq_true.mp h en he)
def kX1_parcelAt : List fw_Ent := [
  (0, 1, .iload_n 1, 0, 0), (1, 3, .ifCond .lt 20, 0, 21), (4, 1, .iload_n 1, 0, 0), (5, 1, .aload_n 0, 0, 0),
  (6, 3, .getfield 35, 0, 0), (9, 3, .if_icmp .ge 12, 0, 21), (12, 1, .iload_n 1, 0, 0), (13, 1, .aload_n 0, 0, 0),
  (14, 3, .getfield 19, 0, 0), (17, 1, .arraylength, 0, 0), (18, 3, .if_icmp .lt 5, 0, 23), (21, 1, .aconst_null, 0, 0),
  (22, 1, .areturn, 0, 0), (23, 1, .aload_n 0, 0, 0), (24, 3, .getfield 19, 0, 0), (27, 1, .iload_n 1, 0, 0),
  (28, 1, .aaload, 0, 0), (29, 1, .areturn, 0, 0)]
theorem kX1_parcelAt_ok : fw_chk cX1_parcelAt 2 kX1_parcelAt = true := by decide +kernel
theorem kX1_parcelAt_cst : ∀ en ∈ kX1_parcelAt, fw_CstOK RX1 cst_X1 en := by
  have h : kX1_parcelAt.all (fw_cstq cp_X1) = true := by decide +kernel
  exact fun en he => fw_cstX cp_X1_ok cst_X1_ok (List.all_eq_true.mp h en he)
def kX1_join : List fw_Ent := [
  (0, 1, .aload_n 0, 0, 0), (1, 3, .getfield 32, 0, 0), (4, 1, .istore_n 3, 0, 0), (5, 1, .aload_n 0, 0, 0),
  (6, 1, .dup, 0, 0), (7, 3, .getfield 32, 0, 0), (10, 1, .iconst 1, 1, 0), (11, 1, .iadd, 0, 0),
  (12, 3, .putfield 32, 0, 0), (15, 1, .aload_n 0, 0, 0), (16, 1, .iload_n 3, 0, 0), (17, 3, .invokevirtual 47, 0, 0),
  (20, 2, .astore 4, 0, 0), (22, 2, .aload 4, 0, 0), (24, 3, .ifnull 10, 0, 34), (27, 2, .aload 4, 0, 0),
  (29, 1, .iload_n 1, 0, 0), (30, 1, .iload_n 2, 0, 0), (31, 3, .invokevirtual 62, 0, 0), (34, 1, .iload_n 3, 0, 0),
  (35, 1, .ireturn, 0, 0)]
theorem kX1_join_ok : fw_chk cX1_join 5 kX1_join = true := by decide +kernel
theorem kX1_join_cst : ∀ en ∈ kX1_join, fw_CstOK RX1 cst_X1 en := by
  have h : kX1_join.all (fw_cstq cp_X1) = true := by decide +kernel
  exact fun en he => fw_cstX cp_X1_ok cst_X1_ok (List.all_eq_true.mp h en he)
def kX1_accept : List fw_Ent := [
  (0, 1, .aload_n 0, 0, 0), (1, 3, .getfield 35, 0, 0), (4, 2, .istore 5, 0, 0), (6, 1, .aload_n 0, 0, 0),
  (7, 1, .dup, 0, 0), (8, 3, .getfield 35, 0, 0), (11, 1, .iconst 1, 1, 0), (12, 1, .iadd, 0, 0),
  (13, 3, .putfield 35, 0, 0), (16, 1, .aload_n 0, 0, 0), (17, 2, .iload 5, 0, 0), (19, 3, .invokevirtual 55, 0, 0),
  (22, 2, .astore 6, 0, 0), (24, 2, .aload 6, 0, 0), (26, 3, .ifnull 13, 0, 39), (29, 2, .aload 6, 0, 0),
  (31, 1, .iload_n 1, 0, 0), (32, 1, .iload_n 2, 0, 0), (33, 1, .iload_n 3, 0, 0), (34, 2, .iload 4, 0, 0),
  (36, 3, .invokevirtual 66, 0, 0), (39, 2, .iload 5, 0, 0), (41, 1, .ireturn, 0, 0)]
theorem kX1_accept_ok : fw_chk cX1_accept 7 kX1_accept = true := by decide +kernel
theorem kX1_accept_cst : ∀ en ∈ kX1_accept, fw_CstOK RX1 cst_X1 en := by
  have h : kX1_accept.all (fw_cstq cp_X1) = true := by decide +kernel
  exact fun en he => fw_cstX cp_X1_ok cst_X1_ok (List.all_eq_true.mp h en he)
def kX1_release : List fw_Ent := [
  (0, 1, .aload_n 0, 0, 0), (1, 1, .aload_n 1, 0, 0), (2, 3, .getfield 69, 0, 0), (5, 3, .invokevirtual 55, 0, 0),
  (8, 1, .astore_n 2, 0, 0), (9, 1, .aload_n 2, 0, 0), (10, 3, .ifnull 16, 0, 26), (13, 1, .aload_n 2, 0, 0),
  (14, 3, .getfield 72, 0, 0), (17, 1, .iconst 1, 1, 0), (18, 3, .if_icmp .ne 8, 0, 26), (21, 1, .aload_n 2, 0, 0),
  (22, 1, .iconst 0, 0, 0), (23, 3, .putfield 72, 0, 0), (26, 1, .aload_n 1, 0, 0), (27, 3, .invokevirtual 75, 0, 0),
  (30, 1, .return_, 0, 0)]
theorem kX1_release_ok : fw_chk cX1_release 3 kX1_release = true := by decide +kernel
theorem kX1_release_cst : ∀ en ∈ kX1_release, fw_CstOK RX1 cst_X1 en := by
  have h : kX1_release.all (fw_cstq cp_X1) = true := by decide +kernel
  exact fun en he => fw_cstX cp_X1_ok cst_X1_ok (List.all_eq_true.mp h en he)
def kX1_pass : List fw_Ent := [
  (0, 1, .aload_n 0, 0, 0), (1, 3, .getfield 38, 0, 0), (4, 1, .istore_n 2, 0, 0), (5, 1, .iconst 1, 1, 0),
  (6, 1, .istore_n 3, 0, 0), (7, 1, .iconst 0, 0, 0), (8, 2, .istore 4, 0, 0), (10, 2, .iload 4, 0, 0),
  (12, 1, .iload_n 1, 0, 0), (13, 3, .if_icmp .ge 15, 0, 28), (16, 1, .aload_n 0, 0, 0), (17, 1, .iload_n 3, 0, 0),
  (18, 3, .invokevirtual 84, 0, 0), (21, 1, .istore_n 3, 0, 0), (22, 3, .iinc 4 1, 1, 0), (25, 3, .goto (-15), 0, 10),
  (28, 1, .aload_n 0, 0, 0), (29, 3, .getfield 38, 0, 0), (32, 1, .iload_n 2, 0, 0), (33, 1, .isub, 0, 0),
  (34, 1, .ireturn, 0, 0)]
theorem kX1_pass_ok : fw_chk cX1_pass 5 kX1_pass = true := by decide +kernel
theorem kX1_pass_cst : ∀ en ∈ kX1_pass, fw_CstOK RX1 cst_X1 en := by
  have h : kX1_pass.all (fw_cstq cp_X1) = true := by decide +kernel
  exact fun en he => fw_cstX cp_X1_ok cst_X1_ok (List.all_eq_true.mp h en he)
def kX1_tick : List fw_Ent := [
  (0, 1, .iconst 0, 0, 0), (1, 1, .istore_n 2, 0, 0), (2, 1, .aload_n 0, 0, 0), (3, 1, .dup, 0, 0),
  (4, 3, .getfield 29, 0, 0), (7, 1, .iconst 1, 1, 0), (8, 1, .iadd, 0, 0), (9, 3, .putfield 29, 0, 0),
  (12, 1, .iconst 0, 0, 0), (13, 1, .istore_n 3, 0, 0), (14, 1, .iload_n 1, 0, 0), (15, 3, .ifCond .eq 143, 0, 158),
  (18, 1, .iload_n 3, 0, 0), (19, 1, .aload_n 0, 0, 0), (20, 3, .getfield 32, 0, 0), (23, 3, .if_icmp .ge 135, 0, 158),
  (26, 1, .aload_n 0, 0, 0), (27, 1, .iload_n 3, 0, 0), (28, 3, .invokevirtual 47, 0, 0), (31, 2, .astore 4, 0, 0),
  (33, 2, .aload 4, 0, 0), (35, 3, .ifnull 117, 0, 152), (38, 2, .aload 4, 0, 0), (40, 3, .getfield 92, 0, 0),
  (43, 3, .ifCond .ne 7, 0, 50), (46, 1, .iconst 1, 1, 0), (47, 3, .goto 4, 0, 51), (50, 1, .iconst 0, 0, 0),
  (51, 2, .istore 5, 0, 0), (53, 1, .aload_n 0, 0, 0), (54, 2, .aload 4, 0, 0), (56, 3, .getfield 69, 0, 0),
  (59, 3, .invokevirtual 55, 0, 0), (62, 2, .astore 6, 0, 0), (64, 2, .aload 6, 0, 0), (66, 3, .ifnull 24, 0, 90),
  (69, 2, .aload 4, 0, 0), (71, 3, .getfield 92, 0, 0), (74, 1, .iconst 2, 2, 0), (75, 3, .if_icmp .ne 15, 0, 90),
  (78, 1, .aload_n 0, 0, 0), (79, 2, .aload 4, 0, 0), (81, 1, .iload_n 3, 0, 0), (82, 2, .aload 6, 0, 0),
  (84, 3, .invokevirtual 95, 0, 0), (87, 3, .goto 42, 0, 129), (90, 2, .aload 6, 0, 0), (92, 3, .ifnull 31, 0, 123),
  (95, 2, .aload 4, 0, 0), (97, 3, .getfield 92, 0, 0), (100, 1, .iconst 1, 1, 0), (101, 3, .if_icmp .ne 22, 0, 123),
  (104, 2, .aload 6, 0, 0), (106, 3, .getfield 72, 0, 0), (109, 3, .ifCond .ne 14, 0, 123), (112, 1, .aload_n 0, 0, 0),
  (113, 2, .aload 4, 0, 0), (115, 2, .aload 6, 0, 0), (117, 3, .invokevirtual 99, 0, 0), (120, 3, .goto 9, 0, 129),
  (123, 1, .aload_n 0, 0, 0), (124, 2, .aload 4, 0, 0), (126, 3, .invokevirtual 103, 0, 0), (129, 1, .iload_n 2, 0, 0),
  (130, 3, .ifCond .ne 16, 0, 146), (133, 2, .iload 5, 0, 0), (135, 3, .ifCond .eq 11, 0, 146), (138, 2, .aload 4, 0, 0),
  (140, 3, .getfield 92, 0, 0), (143, 3, .ifCond .eq 7, 0, 150), (146, 1, .iconst 1, 1, 0), (147, 3, .goto 4, 0, 151),
  (150, 1, .iconst 0, 0, 0), (151, 1, .istore_n 2, 0, 0), (152, 3, .iinc 3 1, 1, 0), (155, 3, .goto (-141), 0, 14),
  (158, 1, .aload_n 0, 0, 0), (159, 3, .invokevirtual 106, 0, 0), (162, 1, .iload_n 2, 0, 0), (163, 1, .ireturn, 0, 0)]
theorem kX1_tick_ok : fw_chk cX1_tick 7 kX1_tick = true := by decide +kernel
theorem kX1_tick_cst : ∀ en ∈ kX1_tick, fw_CstOK RX1 cst_X1 en := by
  have h : kX1_tick.all (fw_cstq cp_X1) = true := by decide +kernel
  exact fun en he => fw_cstX cp_X1_ok cst_X1_ok (List.all_eq_true.mp h en he)
def kX1_carry : List fw_Ent := [
  (0, 1, .aload_n 1, 0, 0), (1, 3, .getfield 109, 0, 0), (4, 1, .aload_n 3, 0, 0), (5, 3, .getfield 112, 0, 0),
  (8, 3, .invokestatic 115, 0, 0), (11, 2, .istore 4, 0, 0), (13, 1, .aload_n 1, 0, 0), (14, 3, .getfield 78, 0, 0),
  (17, 2, .iload 4, 0, 0), (19, 3, .invokestatic 119, 0, 0), (22, 3, .ifCond .ne 23, 0, 45), (25, 1, .aload_n 3, 0, 0),
  (26, 1, .iconst 0, 0, 0), (27, 3, .putfield 72, 0, 0), (30, 1, .aload_n 0, 0, 0), (31, 1, .dup, 0, 0),
  (32, 3, .getfield 41, 0, 0), (35, 1, .iconst 1, 1, 0), (36, 1, .iadd, 0, 0), (37, 3, .putfield 41, 0, 0),
  (40, 1, .aload_n 1, 0, 0), (41, 3, .invokevirtual 75, 0, 0), (44, 1, .return_, 0, 0), (45, 1, .aload_n 1, 0, 0),
  (46, 2, .iload 4, 0, 0), (48, 3, .putfield 109, 0, 0), (51, 1, .aload_n 0, 0, 0), (52, 1, .dup, 0, 0),
  (53, 3, .getfield 44, 0, 0), (56, 1, .iconst 1, 1, 0), (57, 1, .iadd, 0, 0), (58, 3, .putfield 44, 0, 0),
  (61, 1, .aload_n 3, 0, 0), (62, 2, .iload 4, 0, 0), (64, 3, .putfield 123, 0, 0), (67, 1, .aload_n 3, 0, 0),
  (68, 1, .iload_n 2, 0, 0), (69, 3, .invokevirtual 124, 0, 0), (72, 2, .iload 4, 0, 0), (74, 1, .aload_n 3, 0, 0),
  (75, 3, .getfield 112, 0, 0), (78, 3, .if_icmp .ne 12, 0, 90), (81, 1, .aload_n 0, 0, 0), (82, 1, .aload_n 3, 0, 0),
  (83, 3, .invokevirtual 128, 0, 0), (86, 1, .aload_n 1, 0, 0), (87, 3, .invokevirtual 75, 0, 0), (90, 1, .return_, 0, 0)]
theorem kX1_carry_ok : fw_chk cX1_carry 5 kX1_carry = true := by decide +kernel
theorem kX1_carry_cst : ∀ en ∈ kX1_carry, fw_CstOK RX1 cst_X1 en := by
  have h : kX1_carry.all (fw_cstq cp_X1) = true := by decide +kernel
  exact fun en he => fw_cstX cp_X1_ok cst_X1_ok (List.all_eq_true.mp h en he)
def kX1_deliver : List fw_Ent := [
  (0, 1, .aload_n 1, 0, 0), (1, 1, .iconst 2, 2, 0), (2, 3, .putfield 72, 0, 0), (5, 1, .aload_n 1, 0, 0),
  (6, 1, .aload_n 0, 0, 0), (7, 3, .getfield 29, 0, 0), (10, 3, .putfield 131, 0, 0), (13, 1, .aload_n 1, 0, 0),
  (14, 1, .aload_n 0, 0, 0), (15, 3, .getfield 29, 0, 0), (18, 1, .aload_n 1, 0, 0), (19, 3, .getfield 134, 0, 0),
  (22, 3, .if_icmp .gt 10, 0, 32), (25, 1, .aload_n 1, 0, 0), (26, 3, .getfield 137, 0, 0), (29, 3, .goto 9, 0, 38),
  (32, 1, .aload_n 1, 0, 0), (33, 3, .getfield 137, 0, 0), (36, 1, .iconst 2, 2, 0), (37, 1, .idiv, 0, 0),
  (38, 3, .putfield 140, 0, 0), (41, 1, .aload_n 0, 0, 0), (42, 1, .dup, 0, 0), (43, 3, .getfield 38, 0, 0),
  (46, 1, .aload_n 1, 0, 0), (47, 3, .getfield 140, 0, 0), (50, 1, .iadd, 0, 0), (51, 3, .putfield 38, 0, 0),
  (54, 1, .aload_n 1, 0, 0), (55, 3, .invokevirtual 141, 0, 0), (58, 1, .iconst 0, 0, 0), (59, 1, .istore_n 2, 0, 0),
  (60, 1, .iload_n 2, 0, 0), (61, 1, .aload_n 0, 0, 0), (62, 3, .getfield 32, 0, 0), (65, 3, .if_icmp .ge 33, 0, 98),
  (68, 1, .aload_n 0, 0, 0), (69, 1, .iload_n 2, 0, 0), (70, 3, .invokevirtual 47, 0, 0), (73, 1, .astore_n 3, 0, 0),
  (74, 1, .aload_n 3, 0, 0), (75, 3, .ifnull 17, 0, 92), (78, 1, .aload_n 3, 0, 0), (79, 1, .dup, 0, 0),
  (80, 3, .getfield 144, 0, 0), (83, 1, .aload_n 1, 0, 0), (84, 1, .iload_n 2, 0, 0), (85, 3, .invokevirtual 147, 0, 0),
  (88, 1, .iadd, 0, 0), (89, 3, .putfield 144, 0, 0), (92, 3, .iinc 2 1, 1, 0), (95, 3, .goto (-35), 0, 60),
  (98, 1, .return_, 0, 0)]
theorem kX1_deliver_ok : fw_chk cX1_deliver 4 kX1_deliver = true := by decide +kernel
theorem kX1_deliver_cst : ∀ en ∈ kX1_deliver, fw_CstOK RX1 cst_X1 en := by
  have h : kX1_deliver.all (fw_cstq cp_X1) = true := by decide +kernel
  exact fun en he => fw_cstX cp_X1_ok cst_X1_ok (List.all_eq_true.mp h en he)
def kX1_approach : List fw_Ent := [
  (0, 1, .aload_n 1, 0, 0), (1, 3, .getfield 109, 0, 0), (4, 1, .aload_n 2, 0, 0), (5, 3, .getfield 123, 0, 0),
  (8, 3, .if_icmp .ne 16, 0, 24), (11, 1, .aload_n 1, 0, 0), (12, 1, .iconst 2, 2, 0), (13, 3, .putfield 92, 0, 0),
  (16, 1, .aload_n 2, 0, 0), (17, 1, .iconst 1, 1, 0), (18, 3, .putfield 72, 0, 0), (21, 3, .goto 28, 0, 49),
  (24, 1, .aload_n 1, 0, 0), (25, 1, .aload_n 1, 0, 0), (26, 3, .getfield 109, 0, 0), (29, 1, .aload_n 2, 0, 0),
  (30, 3, .getfield 123, 0, 0), (33, 3, .invokestatic 115, 0, 0), (36, 3, .putfield 109, 0, 0), (39, 1, .aload_n 0, 0, 0),
  (40, 1, .dup, 0, 0), (41, 3, .getfield 44, 0, 0), (44, 1, .iconst 1, 1, 0), (45, 1, .iadd, 0, 0),
  (46, 3, .putfield 44, 0, 0), (49, 1, .return_, 0, 0)]
theorem kX1_approach_ok : fw_chk cX1_approach 3 kX1_approach = true := by decide +kernel
theorem kX1_approach_cst : ∀ en ∈ kX1_approach, fw_CstOK RX1 cst_X1 en := by
  have h : kX1_approach.all (fw_cstq cp_X1) = true := by decide +kernel
  exact fun en he => fw_cstX cp_X1_ok cst_X1_ok (List.all_eq_true.mp h en he)
def kX1_choose : List fw_Ent := [
  (0, 1, .aload_n 1, 0, 0), (1, 3, .invokevirtual 75, 0, 0), (4, 1, .iconst (-1), (-1), 0), (5, 1, .istore_n 2, 0, 0),
  (6, 3, .sipush 1000, 1000, 0), (9, 1, .istore_n 3, 0, 0), (10, 1, .iconst 0, 0, 0), (11, 2, .istore 4, 0, 0),
  (13, 2, .iload 4, 0, 0), (15, 1, .aload_n 0, 0, 0), (16, 3, .getfield 35, 0, 0), (19, 3, .if_icmp .ge 69, 0, 88),
  (22, 1, .aload_n 0, 0, 0), (23, 2, .iload 4, 0, 0), (25, 3, .invokevirtual 55, 0, 0), (28, 2, .astore 5, 0, 0),
  (30, 2, .aload 5, 0, 0), (32, 3, .ifnull 50, 0, 82), (35, 2, .aload 5, 0, 0), (37, 3, .getfield 72, 0, 0),
  (40, 3, .ifCond .ne 42, 0, 82), (43, 2, .aload 5, 0, 0), (45, 3, .getfield 134, 0, 0), (48, 1, .iload_n 3, 0, 0),
  (49, 3, .if_icmp .ge 33, 0, 82), (52, 2, .aload 5, 0, 0), (54, 1, .aload_n 1, 0, 0), (55, 3, .getfield 78, 0, 0),
  (58, 3, .invokevirtual 150, 0, 0), (61, 3, .ifCond .eq 21, 0, 82), (64, 1, .aload_n 0, 0, 0), (65, 2, .iload 4, 0, 0),
  (67, 3, .invokevirtual 154, 0, 0), (70, 3, .ifCond .ne 12, 0, 82), (73, 2, .iload 4, 0, 0), (75, 1, .istore_n 2, 0, 0),
  (76, 2, .aload 5, 0, 0), (78, 3, .getfield 134, 0, 0), (81, 1, .istore_n 3, 0, 0), (82, 3, .iinc 4 1, 1, 0),
  (85, 3, .goto (-72), 0, 13), (88, 1, .iload_n 2, 0, 0), (89, 1, .iconst (-1), (-1), 0), (90, 3, .if_icmp .eq 13, 0, 103),
  (93, 1, .aload_n 1, 0, 0), (94, 1, .iconst 1, 1, 0), (95, 3, .putfield 92, 0, 0), (98, 1, .aload_n 1, 0, 0),
  (99, 1, .iload_n 2, 0, 0), (100, 3, .putfield 69, 0, 0), (103, 1, .return_, 0, 0)]
theorem kX1_choose_ok : fw_chk cX1_choose 6 kX1_choose = true := by decide +kernel
theorem kX1_choose_cst : ∀ en ∈ kX1_choose, fw_CstOK RX1 cst_X1 en := by
  have h : kX1_choose.all (fw_cstq cp_X1) = true := by decide +kernel
  exact fun en he => fw_cstX cp_X1_ok cst_X1_ok (List.all_eq_true.mp h en he)
def kX1_isSought : List fw_Ent := [
  (0, 1, .iconst 0, 0, 0), (1, 1, .istore_n 2, 0, 0), (2, 1, .iload_n 2, 0, 0), (3, 1, .aload_n 0, 0, 0),
  (4, 3, .getfield 32, 0, 0), (7, 3, .if_icmp .ge 29, 0, 36), (10, 1, .aload_n 0, 0, 0), (11, 1, .iload_n 2, 0, 0),
  (12, 3, .invokevirtual 47, 0, 0), (15, 1, .astore_n 3, 0, 0), (16, 1, .aload_n 3, 0, 0), (17, 3, .ifnull 13, 0, 30),
  (20, 1, .aload_n 3, 0, 0), (21, 3, .getfield 69, 0, 0), (24, 1, .iload_n 1, 0, 0), (25, 3, .if_icmp .ne 5, 0, 30),
  (28, 1, .iconst 1, 1, 0), (29, 1, .ireturn, 0, 0), (30, 3, .iinc 2 1, 1, 0), (33, 3, .goto (-31), 0, 2),
  (36, 1, .iconst 0, 0, 0), (37, 1, .ireturn, 0, 0)]
theorem kX1_isSought_ok : fw_chk cX1_isSought 4 kX1_isSought = true := by decide +kernel
theorem kX1_isSought_cst : ∀ en ∈ kX1_isSought, fw_CstOK RX1 cst_X1 en := by
  have h : kX1_isSought.all (fw_cstq cp_X1) = true := by decide +kernel
  exact fun en he => fw_cstX cp_X1_ok cst_X1_ok (List.all_eq_true.mp h en he)
def kX1_failLateParcels : List fw_Ent := [
  (0, 1, .iconst 0, 0, 0), (1, 1, .istore_n 1, 0, 0), (2, 1, .iload_n 1, 0, 0), (3, 1, .aload_n 0, 0, 0),
  (4, 3, .getfield 35, 0, 0), (7, 3, .if_icmp .ge 52, 0, 59), (10, 1, .aload_n 0, 0, 0), (11, 1, .iload_n 1, 0, 0),
  (12, 3, .invokevirtual 55, 0, 0), (15, 1, .astore_n 2, 0, 0), (16, 1, .aload_n 2, 0, 0), (17, 3, .ifnull 36, 0, 53),
  (20, 1, .aload_n 2, 0, 0), (21, 3, .invokevirtual 157, 0, 0), (24, 3, .ifCond .eq 29, 0, 53), (27, 1, .aload_n 2, 0, 0),
  (28, 3, .getfield 134, 0, 0), (31, 1, .aload_n 0, 0, 0), (32, 3, .getfield 23, 0, 0), (35, 1, .iadd, 0, 0),
  (36, 1, .aload_n 0, 0, 0), (37, 3, .getfield 29, 0, 0), (40, 3, .if_icmp .ge 13, 0, 53), (43, 1, .aload_n 2, 0, 0),
  (44, 1, .iconst 3, 3, 0), (45, 3, .putfield 72, 0, 0), (48, 1, .aload_n 0, 0, 0), (49, 1, .iload_n 1, 0, 0),
  (50, 3, .invokevirtual 161, 0, 0), (53, 3, .iinc 1 1, 1, 0), (56, 3, .goto (-54), 0, 2), (59, 1, .return_, 0, 0)]
theorem kX1_failLateParcels_ok : fw_chk cX1_failLateParcels 3 kX1_failLateParcels = true := by decide +kernel
theorem kX1_failLateParcels_cst : ∀ en ∈ kX1_failLateParcels, fw_CstOK RX1 cst_X1 en := by
  have h : kX1_failLateParcels.all (fw_cstq cp_X1) = true := by decide +kernel
  exact fun en he => fw_cstX cp_X1_ok cst_X1_ok (List.all_eq_true.mp h en he)
def kX1_freeCouriersOf : List fw_Ent := [
  (0, 1, .iconst 0, 0, 0), (1, 1, .istore_n 2, 0, 0), (2, 1, .iload_n 2, 0, 0), (3, 1, .aload_n 0, 0, 0),
  (4, 3, .getfield 32, 0, 0), (7, 3, .if_icmp .ge 31, 0, 38), (10, 1, .aload_n 0, 0, 0), (11, 1, .iload_n 2, 0, 0),
  (12, 3, .invokevirtual 47, 0, 0), (15, 1, .astore_n 3, 0, 0), (16, 1, .aload_n 3, 0, 0), (17, 3, .ifnull 15, 0, 32),
  (20, 1, .aload_n 3, 0, 0), (21, 3, .getfield 69, 0, 0), (24, 1, .iload_n 1, 0, 0), (25, 3, .if_icmp .ne 7, 0, 32),
  (28, 1, .aload_n 3, 0, 0), (29, 3, .invokevirtual 75, 0, 0), (32, 3, .iinc 2 1, 1, 0), (35, 3, .goto (-33), 0, 2),
  (38, 1, .return_, 0, 0)]
theorem kX1_freeCouriersOf_ok : fw_chk cX1_freeCouriersOf 4 kX1_freeCouriersOf = true := by decide +kernel
theorem kX1_freeCouriersOf_cst : ∀ en ∈ kX1_freeCouriersOf, fw_CstOK RX1 cst_X1 en := by
  have h : kX1_freeCouriersOf.all (fw_cstq cp_X1) = true := by decide +kernel
  exact fun en he => fw_cstX cp_X1_ok cst_X1_ok (List.all_eq_true.mp h en he)
def kX1_parcelsIn : List fw_Ent := [
  (0, 1, .iconst 0, 0, 0), (1, 1, .istore_n 2, 0, 0), (2, 1, .iconst 0, 0, 0), (3, 1, .istore_n 3, 0, 0),
  (4, 1, .iload_n 3, 0, 0), (5, 1, .aload_n 0, 0, 0), (6, 3, .getfield 35, 0, 0), (9, 3, .if_icmp .ge 33, 0, 42),
  (12, 1, .aload_n 0, 0, 0), (13, 1, .iload_n 3, 0, 0), (14, 3, .invokevirtual 55, 0, 0), (17, 2, .astore 4, 0, 0),
  (19, 2, .aload 4, 0, 0), (21, 3, .ifnull 15, 0, 36), (24, 2, .aload 4, 0, 0), (26, 3, .getfield 72, 0, 0),
  (29, 1, .iload_n 1, 0, 0), (30, 3, .if_icmp .ne 6, 0, 36), (33, 3, .iinc 2 1, 1, 0), (36, 3, .iinc 3 1, 1, 0),
  (39, 3, .goto (-35), 0, 4), (42, 1, .iload_n 2, 0, 0), (43, 1, .ireturn, 0, 0)]
theorem kX1_parcelsIn_ok : fw_chk cX1_parcelsIn 5 kX1_parcelsIn = true := by decide +kernel
theorem kX1_parcelsIn_cst : ∀ en ∈ kX1_parcelsIn, fw_CstOK RX1 cst_X1 en := by
  have h : kX1_parcelsIn.all (fw_cstq cp_X1) = true := by decide +kernel
  exact fun en he => fw_cstX cp_X1_ok cst_X1_ok (List.all_eq_true.mp h en he)
def kX1_legsBy : List fw_Ent := [
  (0, 1, .iconst 0, 0, 0), (1, 1, .istore_n 2, 0, 0), (2, 1, .iconst 0, 0, 0), (3, 1, .istore_n 3, 0, 0),
  (4, 1, .iload_n 3, 0, 0), (5, 1, .aload_n 0, 0, 0), (6, 3, .getfield 35, 0, 0), (9, 3, .if_icmp .ge 30, 0, 39),
  (12, 1, .aload_n 0, 0, 0), (13, 1, .iload_n 3, 0, 0), (14, 3, .invokevirtual 55, 0, 0), (17, 2, .astore 4, 0, 0),
  (19, 2, .aload 4, 0, 0), (21, 3, .ifnull 12, 0, 33), (24, 1, .iload_n 2, 0, 0), (25, 2, .aload 4, 0, 0),
  (27, 1, .iload_n 1, 0, 0), (28, 3, .invokevirtual 167, 0, 0), (31, 1, .iadd, 0, 0), (32, 1, .istore_n 2, 0, 0),
  (33, 3, .iinc 3 1, 1, 0), (36, 3, .goto (-32), 0, 4), (39, 1, .iload_n 2, 0, 0), (40, 1, .ireturn, 0, 0)]
theorem kX1_legsBy_ok : fw_chk cX1_legsBy 5 kX1_legsBy = true := by decide +kernel
theorem kX1_legsBy_cst : ∀ en ∈ kX1_legsBy, fw_CstOK RX1 cst_X1 en := by
  have h : kX1_legsBy.all (fw_cstq cp_X1) = true := by decide +kernel
  exact fun en he => fw_cstX cp_X1_ok cst_X1_ok (List.all_eq_true.mp h en he)
def kX1_figure : List fw_Ent := [
  (0, 1, .iload_n 1, 0, 0), (1, 59, .tableswitch 94 0 10 #[59, 64, 69, 74, 94, 94, 94, 94, 79, 84, 89], 0, 0), (60, 1, .aload_n 0, 0, 0), (61, 3, .getfield 29, 0, 0),
  (64, 1, .ireturn, 0, 0), (65, 1, .aload_n 0, 0, 0), (66, 3, .getfield 32, 0, 0), (69, 1, .ireturn, 0, 0),
  (70, 1, .aload_n 0, 0, 0), (71, 3, .getfield 35, 0, 0), (74, 1, .ireturn, 0, 0), (75, 1, .aload_n 0, 0, 0),
  (76, 3, .getfield 23, 0, 0), (79, 1, .ireturn, 0, 0), (80, 1, .aload_n 0, 0, 0), (81, 3, .getfield 38, 0, 0),
  (84, 1, .ireturn, 0, 0), (85, 1, .aload_n 0, 0, 0), (86, 3, .getfield 41, 0, 0), (89, 1, .ireturn, 0, 0),
  (90, 1, .aload_n 0, 0, 0), (91, 3, .getfield 44, 0, 0), (94, 1, .ireturn, 0, 0), (95, 1, .aload_n 0, 0, 0),
  (96, 1, .iload_n 1, 0, 0), (97, 1, .iconst 4, 4, 0), (98, 1, .isub, 0, 0), (99, 3, .invokevirtual 88, 0, 0),
  (102, 1, .ireturn, 0, 0)]
theorem kX1_figure_ok : fw_chk cX1_figure 2 kX1_figure = true := by decide +kernel
theorem kX1_figure_cst : ∀ en ∈ kX1_figure, fw_CstOK RX1 cst_X1 en := by
  have h : kX1_figure.all (fw_cstq cp_X1) = true := by decide +kernel
  exact fun en he => fw_cstX cp_X1_ok cst_X1_ok (List.all_eq_true.mp h en he)
def kX1_courierFigure : List fw_Ent := [
  (0, 1, .iload_n 3, 0, 0), (1, 35, .tableswitch 60 0 4 #[35, 40, 45, 50, 55], 0, 0), (36, 1, .aload_n 1, 0, 0), (37, 3, .getfield 78, 0, 0),
  (40, 1, .ireturn, 0, 0), (41, 1, .aload_n 1, 0, 0), (42, 3, .getfield 109, 0, 0), (45, 1, .ireturn, 0, 0),
  (46, 1, .aload_n 1, 0, 0), (47, 3, .getfield 144, 0, 0), (50, 1, .ireturn, 0, 0), (51, 1, .aload_n 1, 0, 0),
  (52, 3, .getfield 92, 0, 0), (55, 1, .ireturn, 0, 0), (56, 1, .aload_n 1, 0, 0), (57, 3, .getfield 69, 0, 0),
  (60, 1, .ireturn, 0, 0), (61, 1, .aload_n 0, 0, 0), (62, 1, .iload_n 2, 0, 0), (63, 3, .invokevirtual 170, 0, 0),
  (66, 1, .ireturn, 0, 0)]
theorem kX1_courierFigure_ok : fw_chk cX1_courierFigure 4 kX1_courierFigure = true := by decide +kernel
theorem kX1_courierFigure_cst : ∀ en ∈ kX1_courierFigure, fw_CstOK RX1 cst_X1 en := by
  have h : kX1_courierFigure.all (fw_cstq cp_X1) = true := by decide +kernel
  exact fun en he => fw_cstX cp_X1_ok cst_X1_ok (List.all_eq_true.mp h en he)
def kX2_stateAt : List fw_Ent := [
  (0, 1, .aload_n 0, 0, 0), (1, 3, .getfield 18, 0, 0), (4, 1, .iload_n 1, 0, 0), (5, 1, .iadd, 0, 0),
  (6, 1, .iconst 4, 4, 0), (7, 1, .irem, 0, 0), (8, 1, .istore_n 2, 0, 0), (9, 1, .iload_n 2, 0, 0),
  (10, 3, .ifCond .lt 12, 0, 22), (13, 1, .iload_n 2, 0, 0), (14, 1, .aload_n 0, 0, 0), (15, 3, .getfield 11, 0, 0),
  (18, 1, .arraylength, 0, 0), (19, 3, .if_icmp .lt 5, 0, 24), (22, 1, .aconst_null, 0, 0), (23, 1, .areturn, 0, 0),
  (24, 1, .aload_n 0, 0, 0), (25, 3, .getfield 11, 0, 0), (28, 1, .iload_n 2, 0, 0), (29, 1, .aaload, 0, 0),
  (30, 1, .areturn, 0, 0)]
theorem kX2_stateAt_ok : fw_chk cX2_stateAt 3 kX2_stateAt = true := by decide +kernel
theorem kX2_stateAt_cst : ∀ en ∈ kX2_stateAt, fw_CstOK RX2 cst_X2 en := by
  have h : kX2_stateAt.all (fw_cstq cp_X2) = true := by decide +kernel
  exact fun en he => fw_cstX cp_X2_ok cst_X2_ok (List.all_eq_true.mp h en he)
def kX2_save : List fw_Ent := [
  (0, 1, .aload_n 0, 0, 0), (1, 3, .getfield 22, 0, 0), (4, 1, .iconst 4, 4, 0), (5, 3, .if_icmp .lt 25, 0, 30),
  (8, 1, .aload_n 0, 0, 0), (9, 1, .aload_n 0, 0, 0), (10, 3, .getfield 18, 0, 0), (13, 1, .iconst 1, 1, 0),
  (14, 1, .iadd, 0, 0), (15, 1, .iconst 4, 4, 0), (16, 1, .irem, 0, 0), (17, 3, .putfield 18, 0, 0),
  (20, 1, .aload_n 0, 0, 0), (21, 1, .dup, 0, 0), (22, 3, .getfield 22, 0, 0), (25, 1, .iconst 1, 1, 0),
  (26, 1, .isub, 0, 0), (27, 3, .putfield 22, 0, 0), (30, 1, .aload_n 0, 0, 0), (31, 1, .aload_n 0, 0, 0),
  (32, 3, .getfield 22, 0, 0), (35, 3, .invokevirtual 25, 0, 0), (38, 1, .astore_n 2, 0, 0), (39, 1, .aload_n 2, 0, 0),
  (40, 3, .ifnull 8, 0, 48), (43, 1, .aload_n 2, 0, 0), (44, 1, .aload_n 1, 0, 0), (45, 3, .invokevirtual 29, 0, 0),
  (48, 1, .aload_n 0, 0, 0), (49, 1, .dup, 0, 0), (50, 3, .getfield 22, 0, 0), (53, 1, .iconst 1, 1, 0),
  (54, 1, .iadd, 0, 0), (55, 3, .putfield 22, 0, 0), (58, 1, .return_, 0, 0)]
theorem kX2_save_ok : fw_chk cX2_save 3 kX2_save = true := by decide +kernel
theorem kX2_save_cst : ∀ en ∈ kX2_save, fw_CstOK RX2 cst_X2 en := by
  have h : kX2_save.all (fw_cstq cp_X2) = true := by decide +kernel
  exact fun en he => fw_cstX cp_X2_ok cst_X2_ok (List.all_eq_true.mp h en he)
def kX3_begin : List fw_Ent := [
  (0, 1, .aload_n 0, 0, 0), (1, 1, .iload_n 1, 0, 0), (2, 3, .putfield 18, 0, 0), (5, 1, .aload_n 0, 0, 0),
  (6, 1, .iload_n 2, 0, 0), (7, 3, .putfield 22, 0, 0), (10, 1, .aload_n 0, 0, 0), (11, 1, .iload_n 3, 0, 0),
  (12, 3, .putfield 25, 0, 0), (15, 1, .aload_n 0, 0, 0), (16, 2, .iload 4, 0, 0), (18, 3, .putfield 28, 0, 0),
  (21, 1, .aload_n 0, 0, 0), (22, 1, .iconst 0, 0, 0), (23, 3, .putfield 31, 0, 0), (26, 1, .aload_n 0, 0, 0),
  (27, 1, .iload_n 1, 0, 0), (28, 3, .putfield 34, 0, 0), (31, 1, .aload_n 0, 0, 0), (32, 1, .iconst (-1), (-1), 0),
  (33, 3, .putfield 37, 0, 0), (36, 1, .aload_n 0, 0, 0), (37, 1, .iconst 0, 0, 0), (38, 3, .putfield 40, 0, 0),
  (41, 1, .iconst 0, 0, 0), (42, 2, .istore 5, 0, 0), (44, 2, .iload 5, 0, 0), (46, 1, .aload_n 0, 0, 0),
  (47, 3, .getfield 9, 0, 0), (50, 1, .arraylength, 0, 0), (51, 3, .if_icmp .ge 17, 0, 68), (54, 1, .aload_n 0, 0, 0),
  (55, 3, .getfield 9, 0, 0), (58, 2, .iload 5, 0, 0), (60, 1, .iconst 0, 0, 0), (61, 1, .iastore, 0, 0),
  (62, 3, .iinc 5 1, 1, 0), (65, 3, .goto (-21), 0, 44), (68, 1, .iconst 0, 0, 0), (69, 2, .istore 5, 0, 0),
  (71, 2, .iload 5, 0, 0), (73, 1, .aload_n 0, 0, 0), (74, 3, .getfield 15, 0, 0), (77, 1, .arraylength, 0, 0),
  (78, 3, .if_icmp .ge 17, 0, 95), (81, 1, .aload_n 0, 0, 0), (82, 3, .getfield 15, 0, 0), (85, 2, .iload 5, 0, 0),
  (87, 1, .iconst 0, 0, 0), (88, 1, .iastore, 0, 0), (89, 3, .iinc 5 1, 1, 0), (92, 3, .goto (-21), 0, 71),
  (95, 1, .return_, 0, 0)]
theorem kX3_begin_ok : fw_chk cX3_begin 6 kX3_begin = true := by decide +kernel
theorem kX3_begin_cst : ∀ en ∈ kX3_begin, fw_CstOK RX3 cst_X3 en := by
  have h : kX3_begin.all (fw_cstq cp_X3) = true := by decide +kernel
  exact fun en he => fw_cstX cp_X3_ok cst_X3_ok (List.all_eq_true.mp h en he)
def kX3_become : List fw_Ent := [
  (0, 1, .aload_n 0, 0, 0), (1, 1, .aload_n 1, 0, 0), (2, 3, .getfield 18, 0, 0), (5, 3, .putfield 18, 0, 0),
  (8, 1, .aload_n 0, 0, 0), (9, 1, .aload_n 1, 0, 0), (10, 3, .getfield 22, 0, 0), (13, 3, .putfield 22, 0, 0),
  (16, 1, .aload_n 0, 0, 0), (17, 1, .aload_n 1, 0, 0), (18, 3, .getfield 25, 0, 0), (21, 3, .putfield 25, 0, 0),
  (24, 1, .aload_n 0, 0, 0), (25, 1, .aload_n 1, 0, 0), (26, 3, .getfield 28, 0, 0), (29, 3, .putfield 28, 0, 0),
  (32, 1, .aload_n 0, 0, 0), (33, 1, .aload_n 1, 0, 0), (34, 3, .getfield 31, 0, 0), (37, 3, .putfield 31, 0, 0),
  (40, 1, .aload_n 0, 0, 0), (41, 1, .aload_n 1, 0, 0), (42, 3, .getfield 34, 0, 0), (45, 3, .putfield 34, 0, 0),
  (48, 1, .aload_n 0, 0, 0), (49, 1, .aload_n 1, 0, 0), (50, 3, .getfield 37, 0, 0), (53, 3, .putfield 37, 0, 0),
  (56, 1, .aload_n 0, 0, 0), (57, 1, .aload_n 1, 0, 0), (58, 3, .getfield 40, 0, 0), (61, 3, .putfield 40, 0, 0),
  (64, 1, .aload_n 1, 0, 0), (65, 3, .getfield 9, 0, 0), (68, 1, .aload_n 0, 0, 0), (69, 3, .getfield 9, 0, 0),
  (72, 3, .invokestatic 43, 0, 0), (75, 1, .aload_n 1, 0, 0), (76, 3, .getfield 15, 0, 0), (79, 1, .aload_n 0, 0, 0),
  (80, 3, .getfield 15, 0, 0), (83, 3, .invokestatic 43, 0, 0), (86, 1, .return_, 0, 0)]
theorem kX3_become_ok : fw_chk cX3_become 2 kX3_become = true := by decide +kernel
theorem kX3_become_cst : ∀ en ∈ kX3_become, fw_CstOK RX3 cst_X3 en := by
  have h : kX3_become.all (fw_cstq cp_X3) = true := by decide +kernel
  exact fun en he => fw_cstX cp_X3_ok cst_X3_ok (List.all_eq_true.mp h en he)
def kX3_isOpen : List fw_Ent := [
  (0, 1, .aload_n 0, 0, 0), (1, 3, .getfield 31, 0, 0), (4, 3, .ifCond .eq 11, 0, 15), (7, 1, .aload_n 0, 0, 0),
  (8, 3, .getfield 31, 0, 0), (11, 1, .iconst 1, 1, 0), (12, 3, .if_icmp .ne 7, 0, 19), (15, 1, .iconst 1, 1, 0),
  (16, 3, .goto 4, 0, 20), (19, 1, .iconst 0, 0, 0), (20, 1, .ireturn, 0, 0)]
theorem kX3_isOpen_ok : fw_chk cX3_isOpen 1 kX3_isOpen = true := by decide +kernel
theorem kX3_isOpen_cst : ∀ en ∈ kX3_isOpen, fw_CstOK RX3 cst_X3 en := by
  have h : kX3_isOpen.all (fw_cstq cp_X3) = true := by decide +kernel
  exact fun en he => fw_cstX cp_X3_ok cst_X3_ok (List.all_eq_true.mp h en he)
def kX3_suits : List fw_Ent := [
  (0, 1, .iload_n 1, 0, 0), (1, 1, .aload_n 0, 0, 0), (2, 3, .getfield 34, 0, 0), (5, 3, .invokestatic 47, 0, 0),
  (8, 3, .ifCond .eq 25, 0, 33), (11, 1, .iload_n 1, 0, 0), (12, 1, .aload_n 0, 0, 0), (13, 3, .getfield 34, 0, 0),
  (16, 1, .aload_n 0, 0, 0), (17, 3, .getfield 22, 0, 0), (20, 3, .invokestatic 51, 0, 0), (23, 3, .invokestatic 47, 0, 0),
  (26, 3, .ifCond .eq 7, 0, 33), (29, 1, .iconst 1, 1, 0), (30, 3, .goto 4, 0, 34), (33, 1, .iconst 0, 0, 0),
  (34, 1, .ireturn, 0, 0)]
theorem kX3_suits_ok : fw_chk cX3_suits 2 kX3_suits = true := by decide +kernel
theorem kX3_suits_cst : ∀ en ∈ kX3_suits, fw_CstOK RX3 cst_X3 en := by
  have h : kX3_suits.all (fw_cstq cp_X3) = true := by decide +kernel
  exact fun en he => fw_cstX cp_X3_ok cst_X3_ok (List.all_eq_true.mp h en he)
def kX3_legsOf : List fw_Ent := [
  (0, 1, .aload_n 0, 0, 0), (1, 3, .getfield 9, 0, 0), (4, 1, .iload_n 1, 0, 0), (5, 3, .invokestatic 55, 0, 0),
  (8, 1, .ireturn, 0, 0)]
theorem kX3_legsOf_ok : fw_chk cX3_legsOf 2 kX3_legsOf = true := by decide +kernel
theorem kX3_legsOf_cst : ∀ en ∈ kX3_legsOf, fw_CstOK RX3 cst_X3 en := by
  have h : kX3_legsOf.all (fw_cstq cp_X3) = true := by decide +kernel
  exact fun en he => fw_cstX cp_X3_ok cst_X3_ok (List.all_eq_true.mp h en he)
def kX3_shareOf : List fw_Ent := [
  (0, 1, .aload_n 0, 0, 0), (1, 3, .getfield 15, 0, 0), (4, 1, .iload_n 1, 0, 0), (5, 3, .invokestatic 55, 0, 0),
  (8, 1, .ireturn, 0, 0)]
theorem kX3_shareOf_ok : fw_chk cX3_shareOf 2 kX3_shareOf = true := by decide +kernel
theorem kX3_shareOf_cst : ∀ en ∈ kX3_shareOf, fw_CstOK RX3 cst_X3 en := by
  have h : kX3_shareOf.all (fw_cstq cp_X3) = true := by decide +kernel
  exact fun en he => fw_cstX cp_X3_ok cst_X3_ok (List.all_eq_true.mp h en he)
def kX3_addLeg : List fw_Ent := [
  (0, 1, .iload_n 1, 0, 0), (1, 3, .ifCond .lt 22, 0, 23), (4, 1, .iload_n 1, 0, 0), (5, 1, .aload_n 0, 0, 0),
  (6, 3, .getfield 9, 0, 0), (9, 1, .arraylength, 0, 0), (10, 3, .if_icmp .ge 13, 0, 23), (13, 1, .aload_n 0, 0, 0),
  (14, 3, .getfield 9, 0, 0), (17, 1, .iload_n 1, 0, 0), (18, 1, .dup2, 0, 0), (19, 1, .iaload, 0, 0),
  (20, 1, .iconst 1, 1, 0), (21, 1, .iadd, 0, 0), (22, 1, .iastore, 0, 0), (23, 1, .return_, 0, 0)]
theorem kX3_addLeg_ok : fw_chk cX3_addLeg 2 kX3_addLeg = true := by decide +kernel
theorem kX3_addLeg_cst : ∀ en ∈ kX3_addLeg, fw_CstOK RX3 cst_X3 en := by
  have h : kX3_addLeg.all (fw_cstq cp_X3) = true := by decide +kernel
  exact fun en he => fw_cstX cp_X3_ok cst_X3_ok (List.all_eq_true.mp h en he)
def kX3_sharePaid : List fw_Ent := [
  (0, 1, .aload_n 0, 0, 0), (1, 3, .getfield 9, 0, 0), (4, 3, .invokestatic 59, 0, 0), (7, 1, .istore_n 1, 0, 0),
  (8, 1, .iload_n 1, 0, 0), (9, 3, .ifCond .gt 4, 0, 13), (12, 1, .return_, 0, 0), (13, 1, .aload_n 0, 0, 0),
  (14, 3, .getfield 40, 0, 0), (17, 1, .istore_n 2, 0, 0), (18, 1, .iconst 0, 0, 0), (19, 1, .istore_n 3, 0, 0),
  (20, 1, .iload_n 3, 0, 0), (21, 1, .aload_n 0, 0, 0), (22, 3, .getfield 9, 0, 0), (25, 1, .arraylength, 0, 0),
  (26, 3, .if_icmp .ge 46, 0, 72), (29, 1, .iload_n 3, 0, 0), (30, 1, .aload_n 0, 0, 0), (31, 3, .getfield 15, 0, 0),
  (34, 1, .arraylength, 0, 0), (35, 3, .if_icmp .ge 37, 0, 72), (38, 1, .aload_n 0, 0, 0), (39, 3, .getfield 15, 0, 0),
  (42, 1, .iload_n 3, 0, 0), (43, 1, .aload_n 0, 0, 0), (44, 3, .getfield 40, 0, 0), (47, 1, .aload_n 0, 0, 0),
  (48, 3, .getfield 9, 0, 0), (51, 1, .iload_n 3, 0, 0), (52, 1, .iaload, 0, 0), (53, 1, .imul, 0, 0),
  (54, 1, .iload_n 1, 0, 0), (55, 1, .idiv, 0, 0), (56, 1, .iastore, 0, 0), (57, 1, .iload_n 2, 0, 0),
  (58, 1, .aload_n 0, 0, 0), (59, 3, .getfield 15, 0, 0), (62, 1, .iload_n 3, 0, 0), (63, 1, .iaload, 0, 0),
  (64, 1, .isub, 0, 0), (65, 1, .istore_n 2, 0, 0), (66, 3, .iinc 3 1, 1, 0), (69, 3, .goto (-49), 0, 20),
  (72, 1, .iconst 0, 0, 0), (73, 1, .istore_n 3, 0, 0), (74, 1, .iload_n 3, 0, 0), (75, 1, .aload_n 0, 0, 0),
  (76, 3, .getfield 9, 0, 0), (79, 1, .arraylength, 0, 0), (80, 3, .if_icmp .ge 51, 0, 131), (83, 1, .iload_n 3, 0, 0),
  (84, 1, .aload_n 0, 0, 0), (85, 3, .getfield 15, 0, 0), (88, 1, .arraylength, 0, 0), (89, 3, .if_icmp .ge 42, 0, 131),
  (92, 1, .aload_n 0, 0, 0), (93, 1, .iload_n 3, 0, 0), (94, 1, .aload_n 0, 0, 0), (95, 3, .getfield 40, 0, 0),
  (98, 1, .aload_n 0, 0, 0), (99, 3, .getfield 9, 0, 0), (102, 1, .iload_n 3, 0, 0), (103, 1, .iaload, 0, 0),
  (104, 1, .imul, 0, 0), (105, 1, .iload_n 1, 0, 0), (106, 1, .irem, 0, 0), (107, 1, .iload_n 1, 0, 0),
  (108, 3, .invokevirtual 63, 0, 0), (111, 1, .iload_n 2, 0, 0), (112, 3, .if_icmp .ge 13, 0, 125), (115, 1, .aload_n 0, 0, 0),
  (116, 3, .getfield 15, 0, 0), (119, 1, .iload_n 3, 0, 0), (120, 1, .dup2, 0, 0), (121, 1, .iaload, 0, 0),
  (122, 1, .iconst 1, 1, 0), (123, 1, .iadd, 0, 0), (124, 1, .iastore, 0, 0), (125, 3, .iinc 3 1, 1, 0),
  (128, 3, .goto (-54), 0, 74), (131, 1, .return_, 0, 0)]
theorem kX3_sharePaid_ok : fw_chk cX3_sharePaid 4 kX3_sharePaid = true := by decide +kernel
theorem kX3_sharePaid_cst : ∀ en ∈ kX3_sharePaid, fw_CstOK RX3 cst_X3 en := by
  have h : kX3_sharePaid.all (fw_cstq cp_X3) = true := by decide +kernel
  exact fun en he => fw_cstX cp_X3_ok cst_X3_ok (List.all_eq_true.mp h en he)
def kX3_rankOf : List fw_Ent := [
  (0, 1, .iconst 0, 0, 0), (1, 2, .istore 4, 0, 0), (3, 1, .iconst 0, 0, 0), (4, 2, .istore 5, 0, 0),
  (6, 2, .iload 5, 0, 0), (8, 1, .aload_n 0, 0, 0), (9, 3, .getfield 9, 0, 0), (12, 1, .arraylength, 0, 0),
  (13, 3, .if_icmp .ge 50, 0, 63), (16, 1, .iload_n 3, 0, 0), (17, 3, .ifCond .le 46, 0, 63), (20, 1, .aload_n 0, 0, 0),
  (21, 3, .getfield 40, 0, 0), (24, 1, .aload_n 0, 0, 0), (25, 3, .getfield 9, 0, 0), (28, 2, .iload 5, 0, 0),
  (30, 1, .iaload, 0, 0), (31, 1, .imul, 0, 0), (32, 1, .iload_n 3, 0, 0), (33, 1, .irem, 0, 0),
  (34, 2, .istore 6, 0, 0), (36, 2, .iload 6, 0, 0), (38, 1, .iload_n 2, 0, 0), (39, 3, .if_icmp .gt 15, 0, 54),
  (42, 2, .iload 6, 0, 0), (44, 1, .iload_n 2, 0, 0), (45, 3, .if_icmp .ne 12, 0, 57), (48, 2, .iload 5, 0, 0),
  (50, 1, .iload_n 1, 0, 0), (51, 3, .if_icmp .ge 6, 0, 57), (54, 3, .iinc 4 1, 1, 0), (57, 3, .iinc 5 1, 1, 0),
  (60, 3, .goto (-54), 0, 6), (63, 2, .iload 4, 0, 0), (65, 1, .ireturn, 0, 0)]
theorem kX3_rankOf_ok : fw_chk cX3_rankOf 7 kX3_rankOf = true := by decide +kernel
theorem kX3_rankOf_cst : ∀ en ∈ kX3_rankOf, fw_CstOK RX3 cst_X3 en := by
  have h : kX3_rankOf.all (fw_cstq cp_X3) = true := by decide +kernel
  exact fun en he => fw_cstX cp_X3_ok cst_X3_ok (List.all_eq_true.mp h en he)
def kX3_figure : List fw_Ent := [
  (0, 1, .iload_n 1, 0, 0), (1, 47, .tableswitch 87 0 7 #[47, 52, 57, 62, 67, 72, 77, 82], 0, 0), (48, 1, .aload_n 0, 0, 0), (49, 3, .getfield 18, 0, 0),
  (52, 1, .ireturn, 0, 0), (53, 1, .aload_n 0, 0, 0), (54, 3, .getfield 22, 0, 0), (57, 1, .ireturn, 0, 0),
  (58, 1, .aload_n 0, 0, 0), (59, 3, .getfield 25, 0, 0), (62, 1, .ireturn, 0, 0), (63, 1, .aload_n 0, 0, 0),
  (64, 3, .getfield 28, 0, 0), (67, 1, .ireturn, 0, 0), (68, 1, .aload_n 0, 0, 0), (69, 3, .getfield 31, 0, 0),
  (72, 1, .ireturn, 0, 0), (73, 1, .aload_n 0, 0, 0), (74, 3, .getfield 34, 0, 0), (77, 1, .ireturn, 0, 0),
  (78, 1, .aload_n 0, 0, 0), (79, 3, .getfield 37, 0, 0), (82, 1, .ireturn, 0, 0), (83, 1, .aload_n 0, 0, 0),
  (84, 3, .getfield 40, 0, 0), (87, 1, .ireturn, 0, 0), (88, 1, .aload_n 0, 0, 0), (89, 3, .getfield 9, 0, 0),
  (92, 3, .invokestatic 59, 0, 0), (95, 1, .ireturn, 0, 0)]
theorem kX3_figure_ok : fw_chk cX3_figure 2 kX3_figure = true := by decide +kernel
theorem kX3_figure_cst : ∀ en ∈ kX3_figure, fw_CstOK RX3 cst_X3 en := by
  have h : kX3_figure.all (fw_cstq cp_X3) = true := by decide +kernel
  exact fun en he => fw_cstX cp_X3_ok cst_X3_ok (List.all_eq_true.mp h en he)
def kX5_addCourier : List fw_Ent := [
  (0, 1, .iload_n 1, 0, 0), (1, 3, .invokestatic 33, 0, 0), (4, 3, .ifCond .eq 10, 0, 14), (7, 1, .iload_n 2, 0, 0),
  (8, 3, .invokestatic 37, 0, 0), (11, 3, .ifCond .ne 11, 0, 22), (14, 3, .new 40, 0, 0), (17, 1, .dup, 0, 0),
  (18, 3, .invokespecial 42, 0, 0), (21, 1, .athrow, 0, 0), (22, 1, .aload_n 0, 0, 0), (23, 3, .getfield 10, 0, 0),
  (26, 3, .getfield 43, 0, 0), (29, 2, .bipush 6, 6, 0), (31, 3, .if_icmp .lt 11, 0, 42), (34, 3, .new 47, 0, 0),
  (37, 1, .dup, 0, 0), (38, 3, .invokespecial 49, 0, 0), (41, 1, .athrow, 0, 0), (42, 1, .aload_n 0, 0, 0),
  (43, 3, .getfield 22, 0, 0), (46, 1, .aload_n 0, 0, 0), (47, 3, .getfield 10, 0, 0), (50, 3, .invokevirtual 50, 0, 0),
  (53, 1, .aload_n 0, 0, 0), (54, 3, .getfield 10, 0, 0), (57, 1, .iload_n 1, 0, 0), (58, 1, .iload_n 2, 0, 0),
  (59, 3, .invokevirtual 54, 0, 0), (62, 1, .ireturn, 0, 0)]
theorem kX5_addCourier_ok : fw_chk cX5_addCourier 3 kX5_addCourier = true := by decide +kernel
theorem kX5_addCourier_cst : ∀ en ∈ kX5_addCourier, fw_CstOK RX5 cst_X5 en := by
  have h : kX5_addCourier.all (fw_cstq cp_X5) = true := by decide +kernel
  exact fun en he => fw_cstX cp_X5_ok cst_X5_ok (List.all_eq_true.mp h en he)
def kX5_setArea : List fw_Ent := [
  (0, 1, .aload_n 0, 0, 0), (1, 3, .getfield 10, 0, 0), (4, 1, .iload_n 1, 0, 0), (5, 3, .invokevirtual 58, 0, 0),
  (8, 1, .astore_n 3, 0, 0), (9, 1, .aload_n 3, 0, 0), (10, 3, .ifnonnull 11, 0, 21), (13, 3, .new 62, 0, 0),
  (16, 1, .dup, 0, 0), (17, 3, .invokespecial 64, 0, 0), (20, 1, .athrow, 0, 0), (21, 1, .iload_n 2, 0, 0),
  (22, 3, .invokestatic 33, 0, 0), (25, 3, .ifCond .ne 11, 0, 36), (28, 3, .new 40, 0, 0), (31, 1, .dup, 0, 0),
  (32, 3, .invokespecial 42, 0, 0), (35, 1, .athrow, 0, 0), (36, 1, .aload_n 0, 0, 0), (37, 3, .getfield 22, 0, 0),
  (40, 1, .aload_n 0, 0, 0), (41, 3, .getfield 10, 0, 0), (44, 3, .invokevirtual 50, 0, 0), (47, 1, .aload_n 3, 0, 0),
  (48, 3, .getfield 65, 0, 0), (51, 2, .istore 4, 0, 0), (53, 1, .aload_n 3, 0, 0), (54, 1, .iload_n 2, 0, 0),
  (55, 3, .putfield 65, 0, 0), (58, 2, .iload 4, 0, 0), (60, 1, .ireturn, 0, 0)]
theorem kX5_setArea_ok : fw_chk cX5_setArea 5 kX5_setArea = true := by decide +kernel
theorem kX5_setArea_cst : ∀ en ∈ kX5_setArea, fw_CstOK RX5 cst_X5 en := by
  have h : kX5_setArea.all (fw_cstq cp_X5) = true := by decide +kernel
  exact fun en he => fw_cstX cp_X5_ok cst_X5_ok (List.all_eq_true.mp h en he)
def kX5_give : List fw_Ent := [
  (0, 1, .iload_n 1, 0, 0), (1, 3, .invokestatic 37, 0, 0), (4, 3, .ifCond .eq 30, 0, 34), (7, 1, .iload_n 2, 0, 0),
  (8, 3, .invokestatic 37, 0, 0), (11, 3, .ifCond .eq 23, 0, 34), (14, 1, .iload_n 1, 0, 0), (15, 1, .iload_n 2, 0, 0),
  (16, 3, .if_icmp .eq 18, 0, 34), (19, 1, .iload_n 3, 0, 0), (20, 3, .invokestatic 70, 0, 0), (23, 3, .ifCond .eq 11, 0, 34),
  (26, 2, .iload 4, 0, 0), (28, 3, .invokestatic 73, 0, 0), (31, 3, .ifCond .ne 11, 0, 42), (34, 3, .new 40, 0, 0),
  (37, 1, .dup, 0, 0), (38, 3, .invokespecial 42, 0, 0), (41, 1, .athrow, 0, 0), (42, 1, .aload_n 0, 0, 0),
  (43, 3, .getfield 10, 0, 0), (46, 3, .getfield 76, 0, 0), (49, 2, .bipush 24, 24, 0), (51, 3, .if_icmp .lt 11, 0, 62),
  (54, 3, .new 47, 0, 0), (57, 1, .dup, 0, 0), (58, 3, .invokespecial 49, 0, 0), (61, 1, .athrow, 0, 0),
  (62, 1, .aload_n 0, 0, 0), (63, 3, .getfield 22, 0, 0), (66, 1, .aload_n 0, 0, 0), (67, 3, .getfield 10, 0, 0),
  (70, 3, .invokevirtual 50, 0, 0), (73, 1, .aload_n 0, 0, 0), (74, 3, .getfield 10, 0, 0), (77, 1, .iload_n 1, 0, 0),
  (78, 1, .iload_n 2, 0, 0), (79, 1, .iload_n 3, 0, 0), (80, 2, .iload 4, 0, 0), (82, 3, .invokevirtual 79, 0, 0),
  (85, 1, .ireturn, 0, 0)]
theorem kX5_give_ok : fw_chk cX5_give 5 kX5_give = true := by decide +kernel
theorem kX5_give_cst : ∀ en ∈ kX5_give, fw_CstOK RX5 cst_X5 en := by
  have h : kX5_give.all (fw_cstq cp_X5) = true := by decide +kernel
  exact fun en he => fw_cstX cp_X5_ok cst_X5_ok (List.all_eq_true.mp h en he)
def kX5_setGrace : List fw_Ent := [
  (0, 1, .iload_n 1, 0, 0), (1, 3, .ifCond .lt 9, 0, 10), (4, 1, .iload_n 1, 0, 0), (5, 2, .bipush 100, 100, 0),
  (7, 3, .if_icmp .le 11, 0, 18), (10, 3, .new 40, 0, 0), (13, 1, .dup, 0, 0), (14, 3, .invokespecial 42, 0, 0),
  (17, 1, .athrow, 0, 0), (18, 1, .aload_n 0, 0, 0), (19, 3, .getfield 22, 0, 0), (22, 1, .aload_n 0, 0, 0),
  (23, 3, .getfield 10, 0, 0), (26, 3, .invokevirtual 50, 0, 0), (29, 1, .aload_n 0, 0, 0), (30, 3, .getfield 10, 0, 0),
  (33, 3, .getfield 83, 0, 0), (36, 1, .istore_n 2, 0, 0), (37, 1, .aload_n 0, 0, 0), (38, 3, .getfield 10, 0, 0),
  (41, 1, .iload_n 1, 0, 0), (42, 3, .putfield 83, 0, 0), (45, 1, .iload_n 2, 0, 0), (46, 1, .ireturn, 0, 0)]
theorem kX5_setGrace_ok : fw_chk cX5_setGrace 3 kX5_setGrace = true := by decide +kernel
theorem kX5_setGrace_cst : ∀ en ∈ kX5_setGrace, fw_CstOK RX5 cst_X5 en := by
  have h : kX5_setGrace.all (fw_cstq cp_X5) = true := by decide +kernel
  exact fun en he => fw_cstX cp_X5_ok cst_X5_ok (List.all_eq_true.mp h en he)
def kX5_drop : List fw_Ent := [
  (0, 1, .aload_n 0, 0, 0), (1, 3, .getfield 10, 0, 0), (4, 1, .iload_n 1, 0, 0), (5, 3, .invokevirtual 58, 0, 0),
  (8, 1, .astore_n 2, 0, 0), (9, 1, .aload_n 2, 0, 0), (10, 3, .ifnonnull 11, 0, 21), (13, 3, .new 62, 0, 0),
  (16, 1, .dup, 0, 0), (17, 3, .invokespecial 64, 0, 0), (20, 1, .athrow, 0, 0), (21, 1, .aload_n 0, 0, 0),
  (22, 3, .getfield 22, 0, 0), (25, 1, .aload_n 0, 0, 0), (26, 3, .getfield 10, 0, 0), (29, 3, .invokevirtual 50, 0, 0),
  (32, 1, .aload_n 2, 0, 0), (33, 3, .getfield 86, 0, 0), (36, 1, .istore_n 3, 0, 0), (37, 1, .aload_n 0, 0, 0),
  (38, 3, .getfield 10, 0, 0), (41, 1, .aload_n 2, 0, 0), (42, 3, .invokevirtual 89, 0, 0), (45, 1, .iload_n 3, 0, 0),
  (46, 1, .ireturn, 0, 0)]
theorem kX5_drop_ok : fw_chk cX5_drop 4 kX5_drop = true := by decide +kernel
theorem kX5_drop_cst : ∀ en ∈ kX5_drop, fw_CstOK RX5 cst_X5 en := by
  have h : kX5_drop.all (fw_cstq cp_X5) = true := by decide +kernel
  exact fun en he => fw_cstX cp_X5_ok cst_X5_ok (List.all_eq_true.mp h en he)
def kX5_run : List fw_Ent := [
  (0, 1, .iload_n 1, 0, 0), (1, 3, .invokestatic 93, 0, 0), (4, 3, .ifCond .ne 11, 0, 15), (7, 3, .new 40, 0, 0),
  (10, 1, .dup, 0, 0), (11, 3, .invokespecial 42, 0, 0), (14, 1, .athrow, 0, 0), (15, 1, .aload_n 0, 0, 0),
  (16, 3, .getfield 10, 0, 0), (19, 3, .getfield 96, 0, 0), (22, 1, .iload_n 1, 0, 0), (23, 1, .iadd, 0, 0),
  (24, 3, .sipush 2000, 2000, 0), (27, 3, .if_icmp .le 11, 0, 38), (30, 3, .new 47, 0, 0), (33, 1, .dup, 0, 0),
  (34, 3, .invokespecial 49, 0, 0), (37, 1, .athrow, 0, 0), (38, 1, .aload_n 0, 0, 0), (39, 3, .getfield 22, 0, 0),
  (42, 1, .aload_n 0, 0, 0), (43, 3, .getfield 10, 0, 0), (46, 3, .invokevirtual 50, 0, 0), (49, 1, .aload_n 0, 0, 0),
  (50, 3, .getfield 10, 0, 0), (53, 1, .iconst 2, 2, 0), (54, 3, .invokevirtual 99, 0, 0), (57, 1, .istore_n 2, 0, 0),
  (58, 1, .aload_n 0, 0, 0), (59, 3, .getfield 10, 0, 0), (62, 1, .iload_n 1, 0, 0), (63, 3, .invokevirtual 103, 0, 0),
  (66, 1, .pop, 0, 0), (67, 1, .aload_n 0, 0, 0), (68, 3, .getfield 10, 0, 0), (71, 1, .iconst 2, 2, 0),
  (72, 3, .invokevirtual 99, 0, 0), (75, 1, .iload_n 2, 0, 0), (76, 1, .isub, 0, 0), (77, 1, .ireturn, 0, 0)]
theorem kX5_run_ok : fw_chk cX5_run 3 kX5_run = true := by decide +kernel
theorem kX5_run_cst : ∀ en ∈ kX5_run, fw_CstOK RX5 cst_X5 en := by
  have h : kX5_run.all (fw_cstq cp_X5) = true := by decide +kernel
  exact fun en he => fw_cstX cp_X5_ok cst_X5_ok (List.all_eq_true.mp h en he)
def kX5_value : List fw_Ent := [
  (0, 1, .iload_n 1, 0, 0), (1, 3, .ifCond .lt 9, 0, 10), (4, 1, .iload_n 1, 0, 0), (5, 2, .bipush 10, 10, 0),
  (7, 3, .if_icmp .le 11, 0, 18), (10, 3, .new 40, 0, 0), (13, 1, .dup, 0, 0), (14, 3, .invokespecial 42, 0, 0),
  (17, 1, .athrow, 0, 0), (18, 1, .aload_n 0, 0, 0), (19, 3, .getfield 10, 0, 0), (22, 1, .iload_n 1, 0, 0),
  (23, 3, .invokevirtual 106, 0, 0), (26, 1, .ireturn, 0, 0)]
theorem kX5_value_ok : fw_chk cX5_value 2 kX5_value = true := by decide +kernel
theorem kX5_value_cst : ∀ en ∈ kX5_value, fw_CstOK RX5 cst_X5 en := by
  have h : kX5_value.all (fw_cstq cp_X5) = true := by decide +kernel
  exact fun en he => fw_cstX cp_X5_ok cst_X5_ok (List.all_eq_true.mp h en he)
def kX5_courier : List fw_Ent := [
  (0, 1, .aload_n 0, 0, 0), (1, 3, .getfield 10, 0, 0), (4, 1, .iload_n 1, 0, 0), (5, 3, .invokevirtual 58, 0, 0),
  (8, 1, .astore_n 3, 0, 0), (9, 1, .aload_n 3, 0, 0), (10, 3, .ifnonnull 11, 0, 21), (13, 3, .new 62, 0, 0),
  (16, 1, .dup, 0, 0), (17, 3, .invokespecial 64, 0, 0), (20, 1, .athrow, 0, 0), (21, 1, .iload_n 2, 0, 0),
  (22, 3, .ifCond .lt 8, 0, 30), (25, 1, .iload_n 2, 0, 0), (26, 1, .iconst 5, 5, 0), (27, 3, .if_icmp .le 11, 0, 38),
  (30, 3, .new 40, 0, 0), (33, 1, .dup, 0, 0), (34, 3, .invokespecial 42, 0, 0), (37, 1, .athrow, 0, 0),
  (38, 1, .aload_n 0, 0, 0), (39, 3, .getfield 10, 0, 0), (42, 1, .aload_n 3, 0, 0), (43, 1, .iload_n 1, 0, 0),
  (44, 1, .iload_n 2, 0, 0), (45, 3, .invokevirtual 109, 0, 0), (48, 1, .ireturn, 0, 0)]
theorem kX5_courier_ok : fw_chk cX5_courier 4 kX5_courier = true := by decide +kernel
theorem kX5_courier_cst : ∀ en ∈ kX5_courier, fw_CstOK RX5 cst_X5 en := by
  have h : kX5_courier.all (fw_cstq cp_X5) = true := by decide +kernel
  exact fun en he => fw_cstX cp_X5_ok cst_X5_ok (List.all_eq_true.mp h en he)
def kX5_parcel : List fw_Ent := [
  (0, 1, .aload_n 0, 0, 0), (1, 3, .getfield 10, 0, 0), (4, 1, .iload_n 1, 0, 0), (5, 3, .invokevirtual 113, 0, 0),
  (8, 1, .astore_n 3, 0, 0), (9, 1, .aload_n 3, 0, 0), (10, 3, .ifnonnull 11, 0, 21), (13, 3, .new 62, 0, 0),
  (16, 1, .dup, 0, 0), (17, 3, .invokespecial 64, 0, 0), (20, 1, .athrow, 0, 0), (21, 1, .iload_n 2, 0, 0),
  (22, 3, .ifCond .lt 9, 0, 31), (25, 1, .iload_n 2, 0, 0), (26, 2, .bipush 8, 8, 0), (28, 3, .if_icmp .le 11, 0, 39),
  (31, 3, .new 40, 0, 0), (34, 1, .dup, 0, 0), (35, 3, .invokespecial 42, 0, 0), (38, 1, .athrow, 0, 0),
  (39, 1, .aload_n 3, 0, 0), (40, 1, .iload_n 2, 0, 0), (41, 3, .invokevirtual 117, 0, 0), (44, 1, .ireturn, 0, 0)]
theorem kX5_parcel_ok : fw_chk cX5_parcel 4 kX5_parcel = true := by decide +kernel
theorem kX5_parcel_cst : ∀ en ∈ kX5_parcel, fw_CstOK RX5 cst_X5 en := by
  have h : kX5_parcel.all (fw_cstq cp_X5) = true := by decide +kernel
  exact fun en he => fw_cstX cp_X5_ok cst_X5_ok (List.all_eq_true.mp h en he)
def kX5_legs : List fw_Ent := [
  (0, 1, .aload_n 0, 0, 0), (1, 3, .getfield 10, 0, 0), (4, 1, .iload_n 1, 0, 0), (5, 3, .invokevirtual 113, 0, 0),
  (8, 2, .astore 4, 0, 0), (10, 2, .aload 4, 0, 0), (12, 3, .ifnull 14, 0, 26), (15, 1, .aload_n 0, 0, 0),
  (16, 3, .getfield 10, 0, 0), (19, 1, .iload_n 2, 0, 0), (20, 3, .invokevirtual 58, 0, 0), (23, 3, .ifnonnull 11, 0, 34),
  (26, 3, .new 62, 0, 0), (29, 1, .dup, 0, 0), (30, 3, .invokespecial 64, 0, 0), (33, 1, .athrow, 0, 0),
  (34, 1, .iload_n 3, 0, 0), (35, 3, .ifCond .eq 12, 0, 47), (38, 2, .aload 4, 0, 0), (40, 1, .iload_n 2, 0, 0),
  (41, 3, .invokevirtual 120, 0, 0), (44, 3, .goto 9, 0, 53), (47, 2, .aload 4, 0, 0), (49, 1, .iload_n 2, 0, 0),
  (50, 3, .invokevirtual 123, 0, 0), (53, 1, .ireturn, 0, 0)]
theorem kX5_legs_ok : fw_chk cX5_legs 5 kX5_legs = true := by decide +kernel
theorem kX5_legs_cst : ∀ en ∈ kX5_legs, fw_CstOK RX5 cst_X5 en := by
  have h : kX5_legs.all (fw_cstq cp_X5) = true := by decide +kernel
  exact fun en he => fw_cstX cp_X5_ok cst_X5_ok (List.all_eq_true.mp h en he)
def kX5_distance : List fw_Ent := [
  (0, 1, .iload_n 1, 0, 0), (1, 3, .invokestatic 37, 0, 0), (4, 3, .ifCond .eq 10, 0, 14), (7, 1, .iload_n 2, 0, 0),
  (8, 3, .invokestatic 37, 0, 0), (11, 3, .ifCond .ne 11, 0, 22), (14, 3, .new 62, 0, 0), (17, 1, .dup, 0, 0),
  (18, 3, .invokespecial 64, 0, 0), (21, 1, .athrow, 0, 0), (22, 1, .iload_n 1, 0, 0), (23, 1, .iconst 4, 4, 0),
  (24, 1, .idiv, 0, 0), (25, 1, .iload_n 2, 0, 0), (26, 1, .iconst 4, 4, 0), (27, 1, .idiv, 0, 0),
  (28, 1, .isub, 0, 0), (29, 3, .invokestatic 126, 0, 0), (32, 1, .iload_n 1, 0, 0), (33, 1, .iconst 4, 4, 0),
  (34, 1, .irem, 0, 0), (35, 1, .iload_n 2, 0, 0), (36, 1, .iconst 4, 4, 0), (37, 1, .irem, 0, 0),
  (38, 1, .isub, 0, 0), (39, 3, .invokestatic 126, 0, 0), (42, 1, .iadd, 0, 0), (43, 1, .ireturn, 0, 0)]
theorem kX5_distance_ok : fw_chk cX5_distance 3 kX5_distance = true := by decide +kernel
theorem kX5_distance_cst : ∀ en ∈ kX5_distance, fw_CstOK RX5 cst_X5 en := by
  have h : kX5_distance.all (fw_cstq cp_X5) = true := by decide +kernel
  exact fun en he => fw_cstX cp_X5_ok cst_X5_ok (List.all_eq_true.mp h en he)
def kX5_isZone : List fw_Ent := [
  (0, 1, .iload_n 0, 0, 0), (1, 3, .ifCond .lt 13, 0, 14), (4, 1, .iload_n 0, 0, 0), (5, 2, .bipush 16, 16, 0),
  (7, 3, .if_icmp .ge 7, 0, 14), (10, 1, .iconst 1, 1, 0), (11, 3, .goto 4, 0, 15), (14, 1, .iconst 0, 0, 0),
  (15, 1, .ireturn, 0, 0)]
theorem kX5_isZone_ok : fw_chk cX5_isZone 1 kX5_isZone = true := by decide +kernel
theorem kX5_isZone_cst : ∀ en ∈ kX5_isZone, fw_CstOK RX5 cst_X5 en := by
  have h : kX5_isZone.all (fw_cstq cp_X5) = true := by decide +kernel
  exact fun en he => fw_cstX cp_X5_ok cst_X5_ok (List.all_eq_true.mp h en he)
def kX5_isArea : List fw_Ent := [
  (0, 1, .iload_n 0, 0, 0), (1, 3, .ifCond .lt 13, 0, 14), (4, 1, .iload_n 0, 0, 0), (5, 2, .ldc 207, 65535, 0),
  (7, 3, .if_icmp .gt 7, 0, 14), (10, 1, .iconst 1, 1, 0), (11, 3, .goto 4, 0, 15), (14, 1, .iconst 0, 0, 0),
  (15, 1, .ireturn, 0, 0)]
theorem kX5_isArea_ok : fw_chk cX5_isArea 1 kX5_isArea = true := by decide +kernel
theorem kX5_isArea_cst : ∀ en ∈ kX5_isArea, fw_CstOK RX5 cst_X5 en := by
  have h : kX5_isArea.all (fw_cstq cp_X5) = true := by decide +kernel
  exact fun en he => fw_cstX cp_X5_ok cst_X5_ok (List.all_eq_true.mp h en he)
def kX5_isCutOff : List fw_Ent := [
  (0, 1, .iload_n 0, 0, 0), (1, 1, .iconst 1, 1, 0), (2, 3, .if_icmp .lt 14, 0, 16), (5, 1, .iload_n 0, 0, 0),
  (6, 3, .sipush 999, 999, 0), (9, 3, .if_icmp .gt 7, 0, 16), (12, 1, .iconst 1, 1, 0), (13, 3, .goto 4, 0, 17),
  (16, 1, .iconst 0, 0, 0), (17, 1, .ireturn, 0, 0)]
theorem kX5_isCutOff_ok : fw_chk cX5_isCutOff 1 kX5_isCutOff = true := by decide +kernel
theorem kX5_isCutOff_cst : ∀ en ∈ kX5_isCutOff, fw_CstOK RX5 cst_X5 en := by
  have h : kX5_isCutOff.all (fw_cstq cp_X5) = true := by decide +kernel
  exact fun en he => fw_cstX cp_X5_ok cst_X5_ok (List.all_eq_true.mp h en he)
def kX5_isTip : List fw_Ent := [
  (0, 1, .iload_n 0, 0, 0), (1, 3, .ifCond .lt 14, 0, 15), (4, 1, .iload_n 0, 0, 0), (5, 3, .sipush 1000, 1000, 0),
  (8, 3, .if_icmp .gt 7, 0, 15), (11, 1, .iconst 1, 1, 0), (12, 3, .goto 4, 0, 16), (15, 1, .iconst 0, 0, 0),
  (16, 1, .ireturn, 0, 0)]
theorem kX5_isTip_ok : fw_chk cX5_isTip 1 kX5_isTip = true := by decide +kernel
theorem kX5_isTip_cst : ∀ en ∈ kX5_isTip, fw_CstOK RX5 cst_X5 en := by
  have h : kX5_isTip.all (fw_cstq cp_X5) = true := by decide +kernel
  exact fun en he => fw_cstX cp_X5_ok cst_X5_ok (List.all_eq_true.mp h en he)
def kX5_isTicks : List fw_Ent := [
  (0, 1, .iload_n 0, 0, 0), (1, 3, .ifCond .lt 14, 0, 15), (4, 1, .iload_n 0, 0, 0), (5, 3, .sipush 200, 200, 0),
  (8, 3, .if_icmp .gt 7, 0, 15), (11, 1, .iconst 1, 1, 0), (12, 3, .goto 4, 0, 16), (15, 1, .iconst 0, 0, 0),
  (16, 1, .ireturn, 0, 0)]
theorem kX5_isTicks_ok : fw_chk cX5_isTicks 1 kX5_isTicks = true := by decide +kernel
theorem kX5_isTicks_cst : ∀ en ∈ kX5_isTicks, fw_CstOK RX5 cst_X5 en := by
  have h : kX5_isTicks.all (fw_cstq cp_X5) = true := by decide +kernel
  exact fun en he => fw_cstX cp_X5_ok cst_X5_ok (List.all_eq_true.mp h en he)
def kX5_holds : List fw_Ent := [
  (0, 1, .iload_n 0, 0, 0), (1, 1, .iload_n 1, 0, 0), (2, 1, .ishr, 0, 0), (3, 1, .iconst 1, 1, 0),
  (4, 1, .iand, 0, 0), (5, 1, .iconst 1, 1, 0), (6, 3, .if_icmp .ne 7, 0, 13), (9, 1, .iconst 1, 1, 0),
  (10, 3, .goto 4, 0, 14), (13, 1, .iconst 0, 0, 0), (14, 1, .ireturn, 0, 0)]
theorem kX5_holds_ok : fw_chk cX5_holds 2 kX5_holds = true := by decide +kernel
theorem kX5_holds_cst : ∀ en ∈ kX5_holds, fw_CstOK RX5 cst_X5 en := by
  have h : kX5_holds.all (fw_cstq cp_X5) = true := by decide +kernel
  exact fun en he => fw_cstX cp_X5_ok cst_X5_ok (List.all_eq_true.mp h en he)
def kX5_nextZone : List fw_Ent := [
  (0, 1, .iload_n 1, 0, 0), (1, 1, .iconst 4, 4, 0), (2, 1, .irem, 0, 0), (3, 1, .iload_n 0, 0, 0),
  (4, 1, .iconst 4, 4, 0), (5, 1, .irem, 0, 0), (6, 1, .isub, 0, 0), (7, 1, .istore_n 2, 0, 0),
  (8, 1, .iload_n 2, 0, 0), (9, 3, .ifCond .eq 17, 0, 26), (12, 1, .iload_n 2, 0, 0), (13, 3, .ifCond .le 9, 0, 22),
  (16, 1, .iload_n 0, 0, 0), (17, 1, .iconst 1, 1, 0), (18, 1, .iadd, 0, 0), (19, 3, .goto 6, 0, 25),
  (22, 1, .iload_n 0, 0, 0), (23, 1, .iconst 1, 1, 0), (24, 1, .isub, 0, 0), (25, 1, .ireturn, 0, 0),
  (26, 1, .iload_n 1, 0, 0), (27, 1, .iconst 4, 4, 0), (28, 1, .idiv, 0, 0), (29, 1, .iload_n 0, 0, 0),
  (30, 1, .iconst 4, 4, 0), (31, 1, .idiv, 0, 0), (32, 1, .isub, 0, 0), (33, 1, .istore_n 3, 0, 0),
  (34, 1, .iload_n 3, 0, 0), (35, 3, .ifCond .eq 17, 0, 52), (38, 1, .iload_n 3, 0, 0), (39, 3, .ifCond .le 9, 0, 48),
  (42, 1, .iload_n 0, 0, 0), (43, 1, .iconst 4, 4, 0), (44, 1, .iadd, 0, 0), (45, 3, .goto 6, 0, 51),
  (48, 1, .iload_n 0, 0, 0), (49, 1, .iconst 4, 4, 0), (50, 1, .isub, 0, 0), (51, 1, .ireturn, 0, 0),
  (52, 1, .iload_n 0, 0, 0), (53, 1, .ireturn, 0, 0)]
theorem kX5_nextZone_ok : fw_chk cX5_nextZone 4 kX5_nextZone = true := by decide +kernel
theorem kX5_nextZone_cst : ∀ en ∈ kX5_nextZone, fw_CstOK RX5 cst_X5 en := by
  have h : kX5_nextZone.all (fw_cstq cp_X5) = true := by decide +kernel
  exact fun en he => fw_cstX cp_X5_ok cst_X5_ok (List.all_eq_true.mp h en he)
def kX5_at : List fw_Ent := [
  (0, 1, .iload_n 1, 0, 0), (1, 3, .ifCond .lt 15, 0, 16), (4, 1, .iload_n 1, 0, 0), (5, 1, .aload_n 0, 0, 0),
  (6, 1, .arraylength, 0, 0), (7, 3, .if_icmp .ge 9, 0, 16), (10, 1, .aload_n 0, 0, 0), (11, 1, .iload_n 1, 0, 0),
  (12, 1, .iaload, 0, 0), (13, 3, .goto 4, 0, 17), (16, 1, .iconst 0, 0, 0), (17, 1, .ireturn, 0, 0)]
theorem kX5_at_ok : fw_chk cX5_at 2 kX5_at = true := by decide +kernel
theorem kX5_at_cst : ∀ en ∈ kX5_at, fw_CstOK RX5 cst_X5 en := by
  have h : kX5_at.all (fw_cstq cp_X5) = true := by decide +kernel
  exact fun en he => fw_cstX cp_X5_ok cst_X5_ok (List.all_eq_true.mp h en he)
def kX5_sum : List fw_Ent := [
  (0, 1, .iconst 0, 0, 0), (1, 1, .istore_n 1, 0, 0), (2, 1, .iconst 0, 0, 0), (3, 1, .istore_n 2, 0, 0),
  (4, 1, .iload_n 2, 0, 0), (5, 1, .aload_n 0, 0, 0), (6, 1, .arraylength, 0, 0), (7, 3, .if_icmp .ge 15, 0, 22),
  (10, 1, .iload_n 1, 0, 0), (11, 1, .aload_n 0, 0, 0), (12, 1, .iload_n 2, 0, 0), (13, 1, .iaload, 0, 0),
  (14, 1, .iadd, 0, 0), (15, 1, .istore_n 1, 0, 0), (16, 3, .iinc 2 1, 1, 0), (19, 3, .goto (-15), 0, 4),
  (22, 1, .iload_n 1, 0, 0), (23, 1, .ireturn, 0, 0)]
theorem kX5_sum_ok : fw_chk cX5_sum 3 kX5_sum = true := by decide +kernel
theorem kX5_sum_cst : ∀ en ∈ kX5_sum, fw_CstOK RX5 cst_X5 en := by
  have h : kX5_sum.all (fw_cstq cp_X5) = true := by decide +kernel
  exact fun en he => fw_cstX cp_X5_ok cst_X5_ok (List.all_eq_true.mp h en he)
def kX5_copyRow : List fw_Ent := [
  (0, 1, .aload_n 0, 0, 0), (1, 1, .iconst 0, 0, 0), (2, 1, .aload_n 1, 0, 0), (3, 1, .iconst 0, 0, 0),
  (4, 1, .aload_n 0, 0, 0), (5, 1, .arraylength, 0, 0), (6, 1, .aload_n 1, 0, 0), (7, 1, .arraylength, 0, 0),
  (8, 3, .invokestatic 208, 0, 0), (11, 3, .invokestatic 211, 0, 0), (14, 1, .return_, 0, 0)]
theorem kX5_copyRow_ok : fw_chk cX5_copyRow 2 kX5_copyRow = true := by decide +kernel
theorem kX5_copyRow_cst : ∀ en ∈ kX5_copyRow, fw_CstOK RX5 cst_X5 en := by
  have h : kX5_copyRow.all (fw_cstq cp_X5) = true := by decide +kernel
  exact fun en he => fw_cstX cp_X5_ok cst_X5_ok (List.all_eq_true.mp h en he)
end
section
/-! PLAIN FACTS that the walks use: places, rows of the memory, small numbers -/
section BS
theorem kd_at {B o k : Nat} (h : fw_ko o = k) : fw_kd B (B + o) = k := by
  unfold fw_kd
  rw [if_neg (by omega), Nat.add_sub_cancel_left]
  exact h
theorem kd_492 {B : Nat} : fw_kd B (B + 492) = 7 := kd_at (by decide)
theorem kd_493 {B : Nat} : fw_kd B (B + 493) = 7 := kd_at (by decide)
theorem kd_494 {B : Nat} : fw_kd B (B + 494) = 7 := kd_at (by decide)
theorem kd_495 {B : Nat} : fw_kd B (B + 495) = 7 := kd_at (by decide)
theorem kd_496 {B : Nat} : fw_kd B (B + 496) = 7 := kd_at (by decide)
theorem ln_at {B o k : Nat} (h : fw_lo o = k) : fw_len B (B + o) = k := by
  unfold fw_len
  rw [Nat.add_sub_cancel_left]
  exact h
theorem ln_493 {B : Nat} : fw_len B (B + 493) = 30 := ln_at (by decide)
theorem ln_494 {B : Nat} : fw_len B (B + 494) = 64 := ln_at (by decide)
theorem ln_495 {B : Nat} : fw_len B (B + 495) = 48 := ln_at (by decide)
theorem ln_496 {B : Nat} : fw_len B (B + 496) = 48 := ln_at (by decide)
theorem ln_492 {B : Nat} : fw_len B (B + 492) = 7 := ln_at (by decide)
theorem row_1 {M : fw_M} {a : Nat} {f : Nat → Int32} : (fw_row M a f).1 a = f := if_pos rfl
theorem row_n {M : fw_M} {a b : Nat} {f : Nat → Int32} (h : b ≠ a) : (fw_row M a f).1 b = M.1 b := if_neg h
theorem row_2 {M : fw_M} {a : Nat} {f : Nat → Int32} : (fw_row M a f).2 = M.2 := rfl
theorem row_row {M : fw_M} {a : Nat} {f f' : Nat → Int32} : fw_row (fw_row M a f) a f' = fw_row M a f' := by
  unfold fw_row
  refine Prod.ext (funext fun b => ?_) rfl
  dsimp only
  by_cases h : b = a
  · rw [if_pos h, if_pos h]
  · rw [if_neg h, if_neg h, if_neg h]
theorem row_self {M : fw_M} {a : Nat} : fw_row M a (M.1 a) = M := by
  refine Prod.ext (funext fun b => ?_) rfl
  show (if b = a then M.1 a else M.1 b) = M.1 b
  by_cases h : b = a
  · rw [if_pos h, h]
  · rw [if_neg h]
theorem row_comm {M : fw_M} {a b : Nat} {f f' : Nat → Int32} (h : a ≠ b) : fw_row (fw_row M a f) b f' = fw_row (fw_row M b f') a f := by
  refine Prod.ext (funext fun c => ?_) rfl
  show (if c = b then f' else if c = a then f else M.1 c) = (if c = a then f else if c = b then f' else M.1 c)
  by_cases h1 : c = b
  · subst h1
    rw [if_pos rfl, if_neg (Ne.symm h), if_pos rfl]
  · rw [if_neg h1, if_neg h1]
theorem st_row {M : fw_M} {a k : Nat} {x : Int32} : fw_st M a k x = fw_row M a (upd (M.1 a) k x) := rfl
theorem stl_1 {M : fw_M} {j : Nat} {x : Int64} : (fw_stl M j x).1 = M.1 := rfl
theorem upd_s {f : Nat → Int32} {k : Nat} {x : Int32} : upd f k x k = x := if_pos rfl
theorem upd_n {f : Nat → Int32} {k j : Nat} {x : Int32} (h : j ≠ k) : upd f k x j = f j := if_neg h
theorem upd_upd {f : Nat → Int32} {k : Nat} {x y : Int32} : upd (upd f k x) k y = upd f k y := by
  funext j
  unfold upd
  by_cases h : j = k
  · rw [if_pos h, if_pos h]
  · rw [if_neg h, if_neg h, if_neg h]
theorem upd_comm {f : Nat → Int32} {k j : Nat} {x y : Int32} (h : k ≠ j) : upd (upd f k x) j y = upd (upd f j y) k x := by
  funext i
  unfold upd
  by_cases h1 : i = j
  · subst h1
    rw [if_pos rfl, if_neg (Ne.symm h), if_pos rfl]
  · rw [if_neg h1, if_neg h1]
theorem upd_self {f : Nat → Int32} {k : Nat} : upd f k (f k) = f := by
  funext j
  unfold upd
  by_cases h : j = k
  · rw [if_pos h, h]
  · rw [if_neg h]
/-- one or zero -/
def bi (b : Bool) : Int32 := bif b then 1 else 0
theorem bi_0 {b : Bool} : bi b = 0 ↔ b = false := by cases b <;> decide
theorem bi_n0 {b : Bool} : ¬ bi b = 0 ↔ b = true := by cases b <;> decide
theorem bi_1 {b : Bool} : bi b = 1 ↔ b = true := by cases b <;> decide
theorem bi_01 {b : Bool} : bi b = 0 ∨ bi b = 1 := by cases b <;> decide
theorem bi_t : bi true = 1 := rfl
theorem bi_f : bi false = 0 := rfl
/-- the first n of one, the rest of another -/
def cpN (n : Nat) (f g : Nat → Int32) : Nat → Int32 := fun k => if k < n then f k else g k
theorem cpN_0 {f g : Nat → Int32} : cpN 0 f g = g := by funext k; simp [cpN]
theorem cpN_s {n : Nat} {f g : Nat → Int32} : upd (cpN n f g) n (f n) = cpN (n + 1) f g := by
  funext k
  unfold upd cpN
  by_cases h : k = n
  · subst h; simp
  · rw [if_neg h]
    by_cases h2 : k < n
    · rw [if_pos h2, if_pos (by omega)]
    · rw [if_neg h2, if_neg (by omega)]
theorem n_ge {a b : Nat} (ha : a < 2 ^ 31) (hb : b < 2 ^ 31) : nI a ≤ nI b ↔ a ≤ b := nI_leI ha hb
theorem n_lt {a b : Nat} (ha : a < 2 ^ 31) (hb : b < 2 ^ 31) : nI a < nI b ↔ a < b := nI_ltI ha hb
theorem n_add (a b : Nat) : nI a + nI b = nI (a + b) := nI_add a b
theorem n_mul (a b : Nat) : nI a * nI b = nI (a * b) := pk_mul a b
theorem n_cl {n : Nat} (h : n < 2 ^ 31) : (nI n).toNatClampNeg = n := nI_clamp h
theorem n_in {n N : Nat} (h : n < N) (hN : N < 2 ^ 31) : vp_in (nI n) N := vp_in_nI h hN
/-- the places of the reference's row -/
theorem ixC {c w : Nat} : (7 : Int32) + 5 * nI c + nI w = nI (7 + 5 * c + w) := by
  rw [show (7 : Int32) = nI 7 from rfl, show (5 : Int32) = nI 5 from rfl, n_mul, n_add, n_add]
theorem ixP {p w : Nat} : (37 : Int32) + 20 * nI p + nI w = nI (37 + 20 * p + w) := by
  rw [show (37 : Int32) = nI 37 from rfl, show (20 : Int32) = nI 20 from rfl, n_mul, n_add, n_add]
end BS
end
section
/-! the places of the reference's row, with the numbers as the code has them -/
section B2
theorem cx0 {c : Nat} : (7 : Int32) + 5 * nI c + 0 = nI (7 + 5 * c + 0) := ixC
theorem vC0 {c : Nat} (h : c < 6) : fw_sd (vp_in ((7 : Int32) + 5 * nI c + 0) 517) := by rw [cx0]; exact fw_sd_i (n_in (by omega) (by decide))
theorem cx1 {c : Nat} : (7 : Int32) + 5 * nI c + 1 = nI (7 + 5 * c + 1) := ixC
theorem vC1 {c : Nat} (h : c < 6) : fw_sd (vp_in ((7 : Int32) + 5 * nI c + 1) 517) := by rw [cx1]; exact fw_sd_i (n_in (by omega) (by decide))
theorem cx2 {c : Nat} : (7 : Int32) + 5 * nI c + 2 = nI (7 + 5 * c + 2) := ixC
theorem vC2 {c : Nat} (h : c < 6) : fw_sd (vp_in ((7 : Int32) + 5 * nI c + 2) 517) := by rw [cx2]; exact fw_sd_i (n_in (by omega) (by decide))
theorem cx3 {c : Nat} : (7 : Int32) + 5 * nI c + 3 = nI (7 + 5 * c + 3) := ixC
theorem vC3 {c : Nat} (h : c < 6) : fw_sd (vp_in ((7 : Int32) + 5 * nI c + 3) 517) := by rw [cx3]; exact fw_sd_i (n_in (by omega) (by decide))
theorem cx4 {c : Nat} : (7 : Int32) + 5 * nI c + 4 = nI (7 + 5 * c + 4) := ixC
theorem vC4 {c : Nat} (h : c < 6) : fw_sd (vp_in ((7 : Int32) + 5 * nI c + 4) 517) := by rw [cx4]; exact fw_sd_i (n_in (by omega) (by decide))
theorem px0 {p : Nat} : (37 : Int32) + 20 * nI p + 0 = nI (37 + 20 * p + 0) := ixP
theorem vP0 {p : Nat} (h : p < 24) : fw_sd (vp_in ((37 : Int32) + 20 * nI p + 0) 517) := by rw [px0]; exact fw_sd_i (n_in (by omega) (by decide))
theorem px1 {p : Nat} : (37 : Int32) + 20 * nI p + 1 = nI (37 + 20 * p + 1) := ixP
theorem vP1 {p : Nat} (h : p < 24) : fw_sd (vp_in ((37 : Int32) + 20 * nI p + 1) 517) := by rw [px1]; exact fw_sd_i (n_in (by omega) (by decide))
theorem px2 {p : Nat} : (37 : Int32) + 20 * nI p + 2 = nI (37 + 20 * p + 2) := ixP
theorem vP2 {p : Nat} (h : p < 24) : fw_sd (vp_in ((37 : Int32) + 20 * nI p + 2) 517) := by rw [px2]; exact fw_sd_i (n_in (by omega) (by decide))
theorem px3 {p : Nat} : (37 : Int32) + 20 * nI p + 3 = nI (37 + 20 * p + 3) := ixP
theorem vP3 {p : Nat} (h : p < 24) : fw_sd (vp_in ((37 : Int32) + 20 * nI p + 3) 517) := by rw [px3]; exact fw_sd_i (n_in (by omega) (by decide))
theorem px4 {p : Nat} : (37 : Int32) + 20 * nI p + 4 = nI (37 + 20 * p + 4) := ixP
theorem vP4 {p : Nat} (h : p < 24) : fw_sd (vp_in ((37 : Int32) + 20 * nI p + 4) 517) := by rw [px4]; exact fw_sd_i (n_in (by omega) (by decide))
theorem px5 {p : Nat} : (37 : Int32) + 20 * nI p + 5 = nI (37 + 20 * p + 5) := ixP
theorem vP5 {p : Nat} (h : p < 24) : fw_sd (vp_in ((37 : Int32) + 20 * nI p + 5) 517) := by rw [px5]; exact fw_sd_i (n_in (by omega) (by decide))
theorem px6 {p : Nat} : (37 : Int32) + 20 * nI p + 6 = nI (37 + 20 * p + 6) := ixP
theorem vP6 {p : Nat} (h : p < 24) : fw_sd (vp_in ((37 : Int32) + 20 * nI p + 6) 517) := by rw [px6]; exact fw_sd_i (n_in (by omega) (by decide))
theorem px7 {p : Nat} : (37 : Int32) + 20 * nI p + 7 = nI (37 + 20 * p + 7) := ixP
theorem vP7 {p : Nat} (h : p < 24) : fw_sd (vp_in ((37 : Int32) + 20 * nI p + 7) 517) := by rw [px7]; exact fw_sd_i (n_in (by omega) (by decide))
theorem pxL {p c : Nat} : (37 : Int32) + 20 * nI p + (8 + nI c) = nI (37 + 20 * p + (8 + c)) := by
  rw [show (8 : Int32) = nI 8 from rfl, n_add]
  exact ixP
theorem vPL {p c : Nat} (h : p < 24) (h2 : c < 6) : fw_sd (vp_in ((37 : Int32) + 20 * nI p + (8 + nI c)) 517) := by rw [pxL]; exact fw_sd_i (n_in (by omega) (by decide))
theorem pxS {p c : Nat} : (37 : Int32) + 20 * nI p + (14 + nI c) = nI (37 + 20 * p + (14 + c)) := by
  rw [show (14 : Int32) = nI 14 from rfl, n_add]
  exact ixP
theorem vPS {p c : Nat} (h : p < 24) (h2 : c < 6) : fw_sd (vp_in ((37 : Int32) + 20 * nI p + (14 + nI c)) 517) := by rw [pxS]; exact fw_sd_i (n_in (by omega) (by decide))
theorem vn_i {i n : Nat} (h : i < n) (hn : n < 2 ^ 31) : fw_sd (vp_in (nI i) n) := fw_sd_i (n_in h hn)
theorem cl0 : (0 : Int32).toNatClampNeg = 0 := by decide
theorem cl1 : (1 : Int32).toNatClampNeg = 1 := by decide
theorem cl2 : (2 : Int32).toNatClampNeg = 2 := by decide
theorem cl3 : (3 : Int32).toNatClampNeg = 3 := by decide
theorem cl4 : (4 : Int32).toNatClampNeg = 4 := by decide
theorem cl5 : (5 : Int32).toNatClampNeg = 5 := by decide
theorem cl6 : (6 : Int32).toNatClampNeg = 6 := by decide
theorem cl7 : (7 : Int32).toNatClampNeg = 7 := by decide
theorem cl8 : (8 : Int32).toNatClampNeg = 8 := by decide
theorem cl9 : (9 : Int32).toNatClampNeg = 9 := by decide
theorem cl10 : (10 : Int32).toNatClampNeg = 10 := by decide
theorem b493 {B : Nat} : B + 492 + 1 = B + 493 := rfl
theorem b494 {B : Nat} : B + 492 + 2 = B + 494 := rfl
theorem b495 {B : Nat} : B + 492 + 3 = B + 495 := rfl
theorem b496 {B : Nat} : B + 492 + 4 = B + 496 := rfl
theorem b497 {B : Nat} : B + 492 + 5 = B + 497 := rfl
theorem n_sub4 (j : Nat) : nI (j + 4) - (4 : Int32) = nI j := by
  rw [show (4 : Int32) = nI 4 from rfl, pk_sub (by omega), Nat.add_sub_cancel]
end B2
end
section
/-! WHAT A STATE IS, AND WHAT IS DONE TO IT: one row of 517 ints (time, grace, couriers, parcels, handovers, moves, paid; six couriers of five; 24 parcels of twenty), as the reference holds it -/
section SP
abbrev Sx : Type := Nat → Int32
def sC (S : Sx) (c w : Nat) : Int32 := S (7 + 5 * c + w)
def sP (S : Sx) (p w : Nat) : Int32 := S (37 + 20 * p + w)
def uC (S : Sx) (c w : Nat) (v : Int32) : Sx := upd S (7 + 5 * c + w) v
def uP (S : Sx) (p w : Nat) (v : Int32) : Sx := upd S (37 + 20 * p + w) v
def cn (S : Sx) : Nat := (S 2).toNatClampNeg
def pn (S : Sx) : Nat := (S 3).toNatClampNeg
def rem4 (x : Int32) : Int32 := x - x / 4 * 4
def nxz (f t : Int32) : Int32 := if rem4 f = rem4 t then (if f < t then f + 4 else if t < f then f - 4 else f) else if rem4 f < rem4 t then f + 1 else f - 1
def hs (a z : Int32) : Bool := decide ((a >>> (z &&& 31)) &&& 1 = 1)
def frS (S : Sx) (c : Nat) : Sx := uC (uC S c 3 0) c 4 (-1)
def suit (S : Sx) (p c : Nat) : Bool := hs (sC S c 0) (sP S p 5) && hs (sC S c 0) (nxz (sP S p 5) (sP S p 1))
def lsum (S : Sx) (p : Nat) : Nat → Int32
  | 0 => 0
  | c + 1 => lsum S p c + sP S p (8 + c)
/-- the share by division, what is left by it, who comes before, what remains after the shares of the first ones -/
def shq (S : Sx) (p : Nat) (paid : Int32) (c : Nat) : Int32 := paid * sP S p (8 + c) / lsum S p 6
def shr (S : Sx) (p : Nat) (paid : Int32) (c : Nat) : Int32 := paid * sP S p (8 + c) - paid * sP S p (8 + c) / lsum S p 6 * lsum S p 6
def rnk (S : Sx) (p : Nat) (paid : Int32) (c : Nat) : Nat → Nat
  | 0 => 0
  | d + 1 => rnk S p paid c d + (if shr S p paid c < shr S p paid d ∨ (shr S p paid d = shr S p paid c ∧ d < c) then 1 else 0)
def rst (S : Sx) (p : Nat) (paid : Int32) : Nat → Int32
  | 0 => paid
  | c + 1 => rst S p paid c - shq S p paid c
def fsh (S : Sx) (p : Nat) (paid : Int32) (c : Nat) : Int32 := if nI (rnk S p paid c 6) < rst S p paid 6 then shq S p paid c + 1 else shq S p paid c
def shW (S : Sx) (p : Nat) (paid : Int32) : Nat → Sx
  | 0 => S
  | c + 1 => uP (shW S p paid c) p (14 + c) (fsh S p paid c)
def tipW (S : Sx) (p : Nat) : Nat → Sx
  | 0 => S
  | c + 1 => uC (tipW S p c) c 2 (sC (tipW S p c) c 2 + sP (tipW S p c) p (14 + c))
def shareS (S : Sx) (p : Nat) (paid : Int32) : Sx := tipW (shW S p paid 6) p (cn S)
def payS (S : Sx) (p : Nat) : Int32 := if S 0 ≤ sP S p 2 then sP S p 3 else sP S p 3 / 2
def delS (S : Sx) (c p : Nat) : Sx :=
  frS (shareS (upd (uP (uP (uP S p 4 2) p 6 (S 0)) p 7 (payS S p)) 6 (S 6 + payS S p)) p (payS S p)) c
/-- a leg: the courier and the parcel move on -/
def legS (S : Sx) (c p : Nat) (z : Int32) : Sx := uP (uP (upd (uC S c 1 z) 5 (S 5 + 1)) p 5 z) p (8 + c) (sP S p (8 + c) + 1)
def carS (S : Sx) (c p : Nat) : Sx :=
  if hs (sC S c 0) (nxz (sC S c 1) (sP S p 1)) = true then
    (if nxz (sC S c 1) (sP S p 1) = sP S p 1 then delS (legS S c p (nxz (sC S c 1) (sP S p 1))) c p else legS S c p (nxz (sC S c 1) (sP S p 1)))
  else frS (upd (uP S p 4 0) 4 (S 4 + 1)) c
def goS (S : Sx) (c p : Nat) : Sx :=
  if sC S c 1 = sP S p 5 then uP (uC S c 3 2) p 4 1 else upd (uC S c 1 (nxz (sC S c 1) (sP S p 5))) 5 (S 5 + 1)
def asked (S : Sx) (p c : Nat) : Nat → Bool
  | 0 => false
  | o + 1 => asked S p c o || (decide (o ≠ c) && decide (sC S o 3 = 1) && decide (sC S o 4 = nI p))
def may (S : Sx) (c p : Nat) : Bool := decide (sP S p 4 = 0) && suit S p c && !(asked S p c (cn S))
def chB (S : Sx) (c : Nat) : Nat → Int32
  | 0 => -1
  | p + 1 => if may S c p = true ∧ (chB S c p = -1 ∨ sP S p 2 < sP S (chB S c p).toNatClampNeg 2) then nI p else chB S c p
def chS (S : Sx) (c : Nat) : Sx := uC (uC S c 3 (if chB S c (pn S) = -1 then 0 else 1)) c 4 (chB S c (pn S))
def frW (S : Sx) (p : Nat) : Nat → Sx
  | 0 => S
  | c + 1 => if sC (frW S p c) c 4 = nI p then frS (frW S p c) c else frW S p c
def faiS (S : Sx) (p : Nat) : Sx := frW (uP S p 4 3) p (cn S)
def actS (S : Sx) (c : Nat) : Sx :=
  if sC S c 3 = 2 then carS S c (sC S c 4).toNatClampNeg
  else if sC S c 3 = 1 ∧ sP S (sC S c 4).toNatClampNeg 4 = 0 then goS S c (sC S c 4).toNatClampNeg
  else chS S c
def actW (S : Sx) : Nat → Sx
  | 0 => S
  | c + 1 => actS (actW S c) c
def flW (S : Sx) : Nat → Sx
  | 0 => S
  | p + 1 => if sP (flW S p) p 4 < 2 ∧ sP (flW S p) p 2 + (flW S p) 1 < (flW S p) 0 then faiS (flW S p) p else flW S p
def tkA (S : Sx) : Sx := actW (upd S 0 (S 0 + 1)) (cn S)
def tickS (S : Sx) : Sx := flW (tkA S) (pn S)
def tkN (S : Sx) : Nat → Sx
  | 0 => S
  | n + 1 => tickS (tkN S n)
/-- what holds of every state: the counts, the couriers, who carries what, the parcels; t: a bound of the legs -/
def WFc (S : Sx) (c : Nat) : Prop := (∃ z, z < 16 ∧ sC S c 1 = nI z) ∧ ((sC S c 3 = 0 ∧ sC S c 4 = -1) ∨ ∃ p, p < pn S ∧ sC S c 4 = nI p ∧ (sC S c 3 = 1 ∨ (sC S c 3 = 2 ∧ sP S p 4 = 1)))
def WFp (t : Nat) (S : Sx) (p : Nat) : Prop := (∃ o d, o < 16 ∧ d < 16 ∧ o ≠ d ∧ sP S p 0 = nI o ∧ sP S p 1 = nI d) ∧ (∃ k, 1 ≤ k ∧ k ≤ 999 ∧ sP S p 2 = nI k) ∧ (∃ k, k ≤ 1000 ∧ sP S p 3 = nI k) ∧ (∃ k, k ≤ 3 ∧ sP S p 4 = nI k) ∧ (∃ z, z < 16 ∧ sP S p 5 = nI z) ∧ ∀ c, c < 6 → ∃ k, k ≤ t ∧ sP S p (8 + c) = nI k
def WF (t : Nat) (S : Sx) : Prop := S 2 = nI (cn S) ∧ cn S ≤ 6 ∧ S 3 = nI (pn S) ∧ pn S ≤ 24 ∧ (∀ c, c < cn S → WFc S c) ∧ (∀ c d, c < cn S → d < cn S → sC S c 3 = 2 → sC S d 3 = 2 → sC S c 4 = sC S d 4 → c = d) ∧ ∀ p, p < pn S → WFp t S p
end SP
end
section
/-! WHAT THE REFERENCE'S METHODS DO (to the tick) -/
section CM
/-- the legs of a parcel as numbers: bounded, and some -/
def LG (S : Sx) (p : Nat) : Prop := ∃ L : Nat → Nat, (∀ c, c < 6 → L c ≤ 100000 ∧ sP S p (8 + c) = nI (L c)) ∧ ∃ c, c < 6 ∧ 0 < L c
end CM
end
section
/-! THE REFERENCE'S METHODS WALKED: loops -/
section WO
theorem chB_ok (S : Sx) (c : Nat) : ∀ p, chB S c p = -1 ∨ ∃ b, b < p ∧ chB S c p = nI b := by
  intro p
  induction p with
  | zero => exact Or.inl rfl
  | succ p ih =>
    unfold chB
    split
    · exact Or.inr ⟨p, by omega, rfl⟩
    · rcases ih with h | ⟨b, hb, h⟩
      · exact Or.inl h
      · exact Or.inr ⟨b, by omega, h⟩
theorem nI_m1 {b : Nat} (h : b < 2 ^ 31) : nI b ≠ -1 := by
  intro e
  have := congrArg Int32.toInt e
  rw [nI_toInt h] at this
  have e2 : ((-1 : Int32)).toInt = -1 := by decide
  omega
end WO
end
section
/-! SHARING BY LEGS: the greedy way and the way by ranks are one -/
section SG
def sm (f : Nat → Nat) : Nat → Nat
  | 0 => 0
  | c + 1 => sm f c + f c
def cB (P : Nat → Bool) : Nat → Nat
  | 0 => 0
  | c + 1 => cB P c + (bif P c then 1 else 0)
theorem cB_le {P Q : Nat → Bool} : ∀ {n : Nat}, (∀ d, d < n → P d = true → Q d = true) → cB P n ≤ cB Q n := by
  intro n
  induction n with
  | zero => intro _; exact Nat.le_refl 0
  | succ n ih =>
    intro h
    have h1 := ih (fun d hd => h d (by omega))
    have h2 := h n (by omega)
    unfold cB
    cases hp : P n with
    | false => cases Q n <;> simp only [cond_true, cond_false] <;> omega
    | true => rw [h2 hp]; simp only [cond_true]; omega
theorem cB_lt {P Q : Nat → Bool} : ∀ {n : Nat}, (∀ d, d < n → P d = true → Q d = true) → (∃ e, e < n ∧ Q e = true ∧ P e = false) → cB P n < cB Q n := by
  intro n
  induction n with
  | zero => rintro _ ⟨e, h, -⟩; omega
  | succ n ih =>
    rintro h ⟨e, he, hq, hp⟩
    have h1 := cB_le (P := P) (Q := Q) (n := n) (fun d hd => h d (by omega))
    unfold cB
    by_cases hen : e = n
    · subst hen
      rw [hq, hp]
      simp only [cond_true, cond_false]
      omega
    · have h3 := ih (fun d hd => h d (by omega)) ⟨e, by omega, hq, hp⟩
      have h2 := h n (by omega)
      cases hpn : P n with
      | false => cases Q n <;> simp only [cond_true, cond_false] <;> omega
      | true => rw [h2 hpn]; simp only [cond_true]; omega
theorem cB_eq {P Q : Nat → Bool} : ∀ {n : Nat}, (∀ d, d < n → P d = Q d) → cB P n = cB Q n := by
  intro n
  induction n with
  | zero => intro _; rfl
  | succ n ih =>
    intro h
    unfold cB
    rw [ih (fun d hd => h d (by omega)), h n (by omega)]
/-- one more -/
theorem cB_one {P Q : Nat → Bool} {b : Nat} : ∀ {n : Nat}, b < n → P b = false → Q b = true → (∀ d, d < n → d ≠ b → P d = Q d) → cB Q n = cB P n + 1 := by
  intro n
  induction n with
  | zero => intro h; omega
  | succ n ih =>
    intro hb hp hq h
    unfold cB
    by_cases e : b = n
    · subst e
      rw [hp, hq, cB_eq (fun d hd => h d (by omega) (by omega))]
      rfl
    · rw [ih (by omega) hp hq (fun d hd => h d (by omega)), h n (by omega) (fun z => e z.symm)]
      omega
theorem sm_le {r : Nat → Nat} {A : Nat} : ∀ {n : Nat}, (∀ d, d < n → r d ≤ A) → sm r n ≤ cB (fun d => decide (0 < r d)) n * A := by
  intro n
  induction n with
  | zero => intro _; simp [sm]
  | succ n ih =>
    intro h
    have h1 := ih (fun d hd => h d (by omega))
    have h2 := h n (by omega)
    unfold sm cB
    by_cases hz : 0 < r n
    · rw [decide_eq_true hz, cond_true, Nat.succ_mul]
      omega
    · rw [decide_eq_false hz, cond_false, Nat.add_zero]
      omega
/-- d comes before c -/
def bf (r : Nat → Nat) (d c : Nat) : Bool := decide (r c < r d) || (decide (r d = r c) && decide (d < c))
def rk (r : Nat → Nat) (c : Nat) : Nat := cB (fun d => bf r d c) 6
theorem bf_iff {r : Nat → Nat} {d c : Nat} : bf r d c = true ↔ r c < r d ∨ (r d = r c ∧ d < c) := by simp [bf]
theorem bf_no {r : Nat → Nat} {d c : Nat} : bf r d c = false ↔ ¬ (r c < r d ∨ (r d = r c ∧ d < c)) := by
  rw [← bf_iff]
  cases bf r d c <;> simp
theorem rk_lt {r : Nat → Nat} {d c : Nat} (hd : d < 6) (h : bf r d c = true) : rk r d < rk r c := by
  refine cB_lt (fun x _ hx => ?_) ⟨d, hd, h, ?_⟩
  · rw [bf_iff] at *
    omega
  · rw [bf_no]
    omega
theorem bf_tot {r : Nat → Nat} {d c : Nat} (h : d ≠ c) : bf r d c = true ∨ bf r c d = true := by
  rw [bf_iff, bf_iff]
  omega
/-- the first of those who are not set has just the rank that is next -/
theorem rk_next {r : Nat → Nat} {j b : Nat} (hset : cB (fun c => decide (rk r c < j)) 6 = j) (hb : b < 6) (hbn : ¬ rk r b < j) (hmax : ∀ d, d < 6 → ¬ rk r d < j → d ≠ b → bf r b d = true) :
    rk r b = j ∧ cB (fun c => decide (rk r c < j + 1)) 6 = j + 1 ∧ ∀ d, d < 6 → (rk r d < j + 1 ↔ rk r d < j ∨ d = b) := by
  have e1 : rk r b = j := by
    rw [← hset]
    refine cB_eq (fun d hd => ?_)
    show bf r d b = decide (rk r d < j)
    by_cases hj : rk r d < j
    · rw [decide_eq_true hj]
      have hne : d ≠ b := fun z => by rw [z] at hj; exact hbn hj
      rcases bf_tot (r := r) hne with z | z
      · exact z
      · have := rk_lt hb z
        omega
    · rw [decide_eq_false hj]
      by_cases hne : d = b
      · rw [hne, bf_no]; omega
      · have := hmax d hd hj hne
        rw [bf_iff] at this
        rw [bf_no]
        omega
  have e3 : ∀ d, d < 6 → (rk r d < j + 1 ↔ rk r d < j ∨ d = b) := by
    intro d hd
    constructor
    · intro h
      by_cases hne : d = b
      · exact Or.inr hne
      · rcases bf_tot (r := r) hne with z | z
        · have := rk_lt hd z
          omega
        · have := rk_lt hb z
          omega
    · rintro (h | h)
      · omega
      · rw [h]; omega
  refine ⟨e1, ?_, e3⟩
  rw [cB_one (P := fun c => decide (rk r c < j)) (b := b) hb (decide_eq_false hbn) (decide_eq_true (by omega)) (fun d hd hne => ?_), hset]
  by_cases h : rk r d < j
  · rw [decide_eq_true h, decide_eq_true (by omega)]
  · rw [decide_eq_false h, decide_eq_false (fun z => ((e3 d hd).mp z).elim h hne)]
/-- as long as something remains there is one with a remainder who is not set -/
theorem rk_some {r : Nat → Nat} {j A R : Nat} (hset : cB (fun c => decide (rk r c < j)) 6 = j) (hr : ∀ d, d < 6 → r d < A) (hs : sm r 6 = R * A) (hj : j < R) : ∃ d, d < 6 ∧ ¬ rk r d < j ∧ 0 < r d := by
  refine Classical.byContradiction fun hno => ?_
  have hall : ∀ d, d < 6 → decide (0 < r d) = true → decide (rk r d < j) = true := by
    intro d hd h
    refine decide_eq_true (Classical.byContradiction fun h2 => hno ⟨d, hd, h2, of_decide_eq_true h⟩)
  have h1 := cB_le hall
  rw [hset] at h1
  have h2 := sm_le (r := r) (A := A) (n := 6) (fun d hd => Nat.le_of_lt (hr d hd))
  rw [hs] at h2
  have hA : 0 < A := Nat.lt_of_le_of_lt (Nat.zero_le _) (hr 0 (by decide))
  have h3 := Nat.mul_le_mul_right A h1
  have h4 : (j + 1) * A ≤ R * A := Nat.mul_le_mul_right A hj
  rw [Nat.succ_mul] at h4
  omega
/-- the scan for the greatest remainder among those not set -/
def gS (r : Nat → Nat) (u : Nat → Bool) : Nat → Option Nat
  | 0 => none
  | i + 1 => if u i = false ∧ (match gS r u i with | none => 0 | some b => r b) < r i then some i else gS r u i
theorem gS_ok (r : Nat → Nat) (u : Nat → Bool) : ∀ i, (gS r u i = none → ∀ d, d < i → u d = false → r d = 0) ∧ ∀ b, gS r u i = some b → b < i ∧ u b = false ∧ 0 < r b ∧ ∀ d, d < i → u d = false → d ≠ b → bf r b d = true := by
  intro i
  induction i with
  | zero => exact ⟨fun _ d h => (by omega), fun b h => (by cases h)⟩
  | succ i ih =>
    obtain ⟨ih1, ih2⟩ := ih
    unfold gS
    cases hg : gS r u i with
    | none =>
      have ih1 := ih1 hg
      by_cases hc : u i = false ∧ 0 < r i
      · rw [if_pos hc]
        refine ⟨fun h => (by cases h), fun b h => ?_⟩
        cases h
        refine ⟨by omega, hc.1, hc.2, fun d hd hu hne => ?_⟩
        rw [bf_iff, ih1 d (by omega) hu]
        omega
      · rw [if_neg hc]
        refine ⟨fun _ d hd hu => ?_, fun b h => (by cases h)⟩
        by_cases e : d = i
        · subst e
          exact Nat.eq_zero_of_not_pos fun z => hc ⟨hu, z⟩
        · exact ih1 d (by omega) hu
    | some b0 =>
      obtain ⟨k1, k2, k3, k4⟩ := ih2 b0 hg
      by_cases hc : u i = false ∧ r b0 < r i
      · rw [if_pos hc]
        refine ⟨fun h => (by cases h), fun b h => ?_⟩
        cases h
        refine ⟨by omega, hc.1, by omega, fun d hd hu hne => ?_⟩
        rw [bf_iff]
        by_cases e : d = b0
        · subst e; omega
        · have := k4 d (by omega) hu e
          rw [bf_iff] at this
          omega
      · rw [if_neg hc]
        refine ⟨fun h => (by cases h), fun b h => ?_⟩
        cases h
        refine ⟨by omega, k2, k3, fun d hd hu hne => ?_⟩
        by_cases e : d = i
        · subst e
          rw [bf_iff]
          have : ¬ r b0 < r d := fun z => hc ⟨hu, z⟩
          omega
        · exact k4 d (by omega) hu hne
/-- masks of six -/
theorem mk_bit : ∀ v, v < 64 → ∀ c, c < 6 → ((nI v >>> (nI c &&& 31)) &&& 1 = 0 ↔ v.testBit c = false) := by decide +kernel
theorem mk_set : ∀ v, v < 64 → ∀ b, b < 6 → nI v ||| ((1 : Int32) <<< (nI b &&& 31)) = nI (v ||| 2 ^ b) ∧ v ||| 2 ^ b < 64 ∧ ∀ c, c < 6 → (v ||| 2 ^ b).testBit c = (v.testBit c || decide (c = b)) := by decide +kernel
/-! the numbers of a sharing -/
theorem sm_mul {L : Nat → Nat} {k : Nat} : ∀ n, sm (fun c => k * L c) n = k * sm L n := by
  intro n
  induction n with
  | zero => rfl
  | succ n ih => unfold sm; rw [ih, Nat.mul_add]
theorem sm_dm {f : Nat → Nat} {A : Nat} : ∀ n, sm f n = A * sm (fun c => f c / A) n + sm (fun c => f c % A) n := by
  intro n
  induction n with
  | zero => rfl
  | succ n ih =>
    unfold sm
    rw [ih, Nat.mul_add]
    have := Nat.div_add_mod (f n) A
    omega
theorem sm_bd {L : Nat → Nat} {b : Nat} : ∀ n, (∀ c, c < n → L c ≤ b) → sm L n ≤ n * b := by
  intro n
  induction n with
  | zero => intro _; simp [sm]
  | succ n ih =>
    intro h
    have h1 := ih (fun c hc => h c (by omega))
    have h2 := h n (by omega)
    unfold sm
    rw [Nat.succ_mul]
    omega
theorem sm_pos {L : Nat → Nat} : ∀ n c, c < n → 0 < L c → 0 < sm L n := by
  intro n
  induction n with
  | zero => intro c h; omega
  | succ n ih =>
    intro c hc hp
    unfold sm
    by_cases e : c = n
    · subst e; omega
    · have := ih c (by omega) hp
      omega
theorem sm_cl {f g : Nat → Nat} : ∀ n, (∀ c, c < n → f c ≤ g c) → sm f n ≤ sm g n := by
  intro n
  induction n with
  | zero => intro _; exact Nat.le_refl 0
  | succ n ih =>
    intro h
    have h1 := ih (fun c hc => h c (by omega))
    have h2 := h n (by omega)
    unfold sm
    omega
theorem sm_mono {f : Nat → Nat} {i : Nat} : ∀ n, i ≤ n → sm f i ≤ sm f n := by
  intro n
  induction n with
  | zero => intro h; rw [Nat.le_zero.mp h]; exact Nat.le_refl _
  | succ n ih =>
    intro h
    by_cases e : i = n + 1
    · rw [e]; exact Nat.le_refl _
    · have h1 := ih (by omega)
      show sm f i ≤ sm f n + f n
      omega
/-- what a sharing is in numbers: paid k, legs L, all A, quotients, remainders, rest R -/
def SHN (S : Sx) (p k A R : Nat) (L : Nat → Nat) : Prop :=
  (∀ c, c < 6 → L c ≤ 100000 ∧ sP S p (8 + c) = nI (L c)) ∧ sm L 6 = A ∧ 0 < A ∧ A ≤ 600000 ∧ k ≤ 1000 ∧ sm (fun c => k * L c / A) 6 + R = k ∧ sm (fun c => k * L c % A) 6 = R * A
theorem SHN_of {S : Sx} {p k : Nat} (hk : k ≤ 1000) (h : LG S p) : ∃ A R L, SHN S p k A R L := by
  obtain ⟨L, h1, c0, hc0, h2⟩ := h
  have hA : 0 < sm L 6 := sm_pos 6 c0 hc0 h2
  have hb := sm_bd 6 (fun c hc => (h1 c hc).1)
  have e1 := sm_mul (L := L) (k := k) 6
  rw [sm_dm (A := sm L 6) 6] at e1
  have hq : sm (fun c => k * L c / sm L 6) 6 ≤ k := by
    have : sm L 6 * sm (fun c => k * L c / sm L 6) 6 ≤ sm L 6 * k := by rw [Nat.mul_comm (sm L 6) k]; omega
    exact Nat.le_of_mul_le_mul_left this hA
  refine ⟨sm L 6, k - sm (fun c => k * L c / sm L 6) 6, L, h1, rfl, hA, by omega, hk, by omega, ?_⟩
  have e2 : sm L 6 * k = sm L 6 * sm (fun c => k * L c / sm L 6) 6 + sm L 6 * (k - sm (fun c => k * L c / sm L 6) 6) := by
    rw [← Nat.mul_add]
    congr 1
    omega
  rw [Nat.mul_comm k] at e1
  rw [Nat.mul_comm (k - _)]
  omega
theorem lsum_n {S : Sx} {p k A R : Nat} {L : Nat → Nat} (h : SHN S p k A R L) : ∀ i, i ≤ 6 → lsum S p i = nI (sm L i) := by
  intro i
  induction i with
  | zero => intro _; rfl
  | succ i ih =>
    intro hi
    unfold lsum sm
    rw [ih (by omega), (h.1 i (by omega)).2, n_add]
theorem kL_lt {S : Sx} {p k A R : Nat} {L : Nat → Nat} (h : SHN S p k A R L) {c : Nat} (hc : c < 6) : k * L c < 2 ^ 31 := by
  have h1 := (h.1 c hc).1
  have h2 := h.2.2.2.2.1
  have : k * L c ≤ 1000 * 100000 := Nat.mul_le_mul h2 h1
  omega
theorem shq_n {S : Sx} {p k A R : Nat} {L : Nat → Nat} (h : SHN S p k A R L) {c : Nat} (hc : c < 6) : shq S p (nI k) c = nI (k * L c / A) := by
  unfold shq
  rw [lsum_n h 6 (Nat.le_refl _), (h.1 c hc).2, n_mul, h.2.1, pk_div (kL_lt h hc) h.2.2.1 (by have := h.2.2.2.1; omega)]
theorem shr_n {S : Sx} {p k A R : Nat} {L : Nat → Nat} (h : SHN S p k A R L) {c : Nat} (hc : c < 6) : shr S p (nI k) c = nI (k * L c % A) := by
  unfold shr
  rw [lsum_n h 6 (Nat.le_refl _), (h.1 c hc).2, n_mul, h.2.1, pk_rem (kL_lt h hc) h.2.2.1 (by have := h.2.2.2.1; omega)]
theorem rst_n {S : Sx} {p k A R : Nat} {L : Nat → Nat} (h : SHN S p k A R L) : ∀ i, i ≤ 6 → rst S p (nI k) i = nI (k - sm (fun c => k * L c / A) i) := by
  intro i
  induction i with
  | zero => intro _; rfl
  | succ i ih =>
    intro hi
    have h6 := h.2.2.2.2.2.1
    have hm : sm (fun c => k * L c / A) i + k * L i / A ≤ sm (fun c => k * L c / A) 6 := sm_mono (f := fun c => k * L c / A) (i := i + 1) 6 hi
    show rst S p (nI k) i - shq S p (nI k) i = nI (k - (sm (fun c => k * L c / A) i + k * L i / A))
    rw [ih (by omega), shq_n h (by omega), pk_sub (by omega)]
    congr 1
    omega
theorem rst_R {S : Sx} {p k A R : Nat} {L : Nat → Nat} (h : SHN S p k A R L) : rst S p (nI k) 6 = nI R := by
  rw [rst_n h 6 (Nat.le_refl _)]
  have := h.2.2.2.2.2.1
  congr 1
  omega
theorem rR_lt {S : Sx} {p k A R : Nat} {L : Nat → Nat} (h : SHN S p k A R L) : R ≤ 1000 := by
  have := h.2.2.2.2.2.1
  have := h.2.2.2.2.1
  omega
theorem rnk_n {S : Sx} {p k A R : Nat} {L : Nat → Nat} (h : SHN S p k A R L) {c : Nat} (hc : c < 6) : ∀ i, i ≤ 6 → rnk S p (nI k) c i = cB (fun d => bf (fun c => k * L c % A) d c) i := by
  intro i
  induction i with
  | zero => intro _; rfl
  | succ i ih =>
    intro hi
    have hA := h.2.2.1
    have hA2 := h.2.2.2.1
    have m1 := Nat.mod_lt (k * L c) hA
    have m2 := Nat.mod_lt (k * L i) hA
    unfold rnk cB
    have e1 : (shr S p (nI k) c < shr S p (nI k) i ∨ (shr S p (nI k) i = shr S p (nI k) c ∧ i < c)) ↔ bf (fun c => k * L c % A) i c = true := by
      rw [bf_iff, shr_n h hc, shr_n h (by omega), n_lt (by omega) (by omega), nI_eq (by omega) (by omega)]
    rw [ih (by omega)]
    congr 1
    by_cases z : bf (fun c => k * L c % A) i c = true
    · rw [z, cond_true, if_pos (e1.mpr z)]
    · rw [if_neg (fun y => z (e1.mp y))]
      rw [Bool.not_eq_true] at z
      rw [z, cond_false]
theorem fsh_n {S : Sx} {p k A R : Nat} {L : Nat → Nat} (h : SHN S p k A R L) {c : Nat} (hc : c < 6) : fsh S p (nI k) c = nI (k * L c / A + (if rk (fun c => k * L c % A) c < R then 1 else 0)) := by
  have h1 := rnk_n h hc 6 (Nat.le_refl _)
  have hb : rk (fun c => k * L c % A) c ≤ 6 := by
    have : ∀ (P : Nat → Bool) n, cB P n ≤ n := by
      intro P n
      induction n with
      | zero => exact Nat.le_refl 0
      | succ n ih => unfold cB; cases P n <;> simp only [cond_true, cond_false] <;> omega
    exact this _ 6
  have hR := rR_lt h
  have e1 : nI (rnk S p (nI k) c 6) < rst S p (nI k) 6 ↔ rk (fun c => k * L c % A) c < R := by
    rw [h1, rst_R h, n_lt (by show rk _ c < _; omega) (by omega)]
    exact Iff.rfl
  unfold fsh
  rw [shq_n h hc]
  by_cases z : rk (fun c => k * L c % A) c < R
  · rw [if_pos (e1.mpr z), if_pos z, nI_1]
  · rw [if_neg (fun y => z (e1.mp y)), if_neg z]; rfl
/-- the shares of a parcel replaced -/
def shF (S : Sx) (p : Nat) (f : Nat → Int32) : Sx := fun k => if 51 + 20 * p ≤ k ∧ k < 57 + 20 * p then f (k - (51 + 20 * p)) else S k
theorem shF_put {S : Sx} {p b : Nat} {f : Nat → Int32} {v : Int32} (hb : b < 6) : upd (shF S p f) (37 + 20 * p + (14 + b)) v = shF S p (upd f b v) := by
  funext k
  unfold shF upd
  by_cases h1 : k = 37 + 20 * p + (14 + b)
  · rw [if_pos h1, if_pos (by omega), if_pos (by omega)]
  · rw [if_neg h1]
    by_cases h2 : 51 + 20 * p ≤ k ∧ k < 57 + 20 * p
    · dsimp only
      rw [if_pos h2, if_pos h2, if_neg (by omega)]
    · dsimp only
      rw [if_neg h2, if_neg h2]
theorem shF_get {S : Sx} {p c : Nat} {f : Nat → Int32} (hc : c < 6) : shF S p f (37 + 20 * p + (14 + c)) = f c := by
  unfold shF
  rw [if_pos (by omega)]
  congr 1
  omega
theorem shF_off {S : Sx} {p k : Nat} {f : Nat → Int32} (h : k < 51 + 20 * p ∨ 57 + 20 * p ≤ k) : shF S p f k = S k := by
  unfold shF
  rw [if_neg (by omega)]
theorem shF_id {S : Sx} {p : Nat} {f : Nat → Int32} (h : ∀ c, c < 6 → f c = S (51 + 20 * p + c)) : shF S p f = S := by
  funext k
  unfold shF
  by_cases h2 : 51 + 20 * p ≤ k ∧ k < 57 + 20 * p
  · rw [if_pos h2, h _ (by omega)]
    congr 1
    omega
  · rw [if_neg h2]
theorem shF_cg {S : Sx} {p : Nat} {f g : Nat → Int32} (h : ∀ c, c < 6 → f c = g c) : shF S p f = shF S p g := by
  funext k
  unfold shF
  by_cases h2 : 51 + 20 * p ≤ k ∧ k < 57 + 20 * p
  · rw [if_pos h2, if_pos h2, h _ (by omega)]
  · rw [if_neg h2, if_neg h2]
theorem shW_F {S : Sx} {p : Nat} {m : Int32} : ∀ i, i ≤ 6 → shW S p m i = shF S p (fun c => if c < i then fsh S p m c else S (51 + 20 * p + c)) := by
  intro i
  induction i with
  | zero => intro _; exact (shF_id (fun c _ => if_neg (Nat.not_lt_zero c))).symm
  | succ i ih =>
    intro hi
    unfold shW uP
    rw [ih (by omega), shF_put (by omega)]
    refine shF_cg (fun c hc => ?_)
    unfold upd
    by_cases e : c = i
    · subst e
      rw [if_pos rfl, if_pos (by omega)]
    · rw [if_neg e]
      dsimp only
      by_cases e2 : c < i
      · rw [if_pos e2, if_pos (by omega)]
      · rw [if_neg e2, if_neg (by omega)]
end SG
end
section
/-! THE REFERENCE'S shares, walked -/
section WS
theorem uC_lo {S : Sx} {c w k : Nat} {v : Int32} (h : k < 7) : uC S c w v k = S k := upd_n (by omega)
theorem uP_lo {S : Sx} {p w k : Nat} {v : Int32} (h : k < 37) : uP S p w v k = S k := upd_n (by omega)
theorem frS_lo {S : Sx} {c k : Nat} (h : k < 7) : frS S c k = S k := by unfold frS; rw [uC_lo h, uC_lo h]
theorem tipW_lo {S : Sx} {p k : Nat} (h : k < 7) : ∀ i, tipW S p i k = S k := by
  intro i
  induction i with
  | zero => rfl
  | succ i ih => unfold tipW; rw [uC_lo h, ih]
theorem shW_lo {S : Sx} {p k : Nat} {m : Int32} (h : k < 37) : ∀ i, shW S p m i k = S k := by
  intro i
  induction i with
  | zero => rfl
  | succ i ih => unfold shW; rw [uP_lo h, ih]
end WS
end
section
/-! A TICK KEEPS STATES WELL -/
section PU
theorem gCC {S : Sx} {c d w x : Nat} {v : Int32} (hx : x < 5) (hw : w < 5) : sC (uC S c w v) d x = if d = c ∧ x = w then v else sC S d x := by
  unfold sC uC upd
  by_cases h : d = c ∧ x = w
  · rw [if_pos h, if_pos (by omega)]
  · rw [if_neg h, if_neg (by omega)]
theorem gPP {S : Sx} {p q w x : Nat} {v : Int32} (hx : x < 20) (hw : w < 20) : sP (uP S p w v) q x = if q = p ∧ x = w then v else sP S q x := by
  unfold sP uP upd
  by_cases h : q = p ∧ x = w
  · rw [if_pos h, if_pos (by omega)]
  · rw [if_neg h, if_neg (by omega)]
theorem gCP {S : Sx} {p c w x : Nat} {v : Int32} (hc : c < 6) (hx : x < 5) : sC (uP S p w v) c x = sC S c x := upd_n (by omega)
theorem gPC {S : Sx} {p c w x : Nat} {v : Int32} (hc : c < 6) (hw : w < 5) : sP (uC S c w v) p x = sP S p x := upd_n (by omega)
theorem gCu {S : Sx} {c k x : Nat} {v : Int32} (hk : k < 7) : sC (upd S k v) c x = sC S c x := upd_n (by omega)
theorem gPu {S : Sx} {p k x : Nat} {v : Int32} (hk : k < 37) : sP (upd S k v) p x = sP S p x := upd_n (by omega)
theorem frS_C {S : Sx} {c d x : Nat} (hx : x < 5) : sC (frS S c) d x = if d = c ∧ x = 4 then -1 else if d = c ∧ x = 3 then 0 else sC S d x := by
  unfold frS
  rw [gCC hx (by decide), gCC hx (by decide)]
theorem frS_P {S : Sx} {c p x : Nat} (hc : c < 6) : sP (frS S c) p x = sP S p x := by
  unfold frS
  rw [gPC hc (by decide), gPC hc (by decide)]
theorem tipW_C {S : Sx} {p d x : Nat} (hx : x < 5) (h2 : x ≠ 2) : ∀ i, sC (tipW S p i) d x = sC S d x := by
  intro i
  induction i with
  | zero => rfl
  | succ i ih => unfold tipW; rw [gCC hx (by decide), if_neg (by omega), ih]
theorem tipW_P {S : Sx} {p q x : Nat} : ∀ i, i ≤ 6 → sP (tipW S p i) q x = sP S q x := by
  intro i
  induction i with
  | zero => intro _; rfl
  | succ i ih => intro h; unfold tipW; rw [gPC (by omega) (by decide), ih (by omega)]
theorem shW_C {S : Sx} {p d x : Nat} {m : Int32} (hd : d < 6) (hx : x < 5) : ∀ i, sC (shW S p m i) d x = sC S d x := by
  intro i
  induction i with
  | zero => rfl
  | succ i ih => unfold shW; rw [gCP hd hx, ih]
theorem shW_P {S : Sx} {p q x : Nat} {m : Int32} (hx : x < 14) : ∀ i, i ≤ 6 → sP (shW S p m i) q x = sP S q x := by
  intro i
  induction i with
  | zero => intro _; rfl
  | succ i ih => intro h; unfold shW; rw [gPP (by omega) (by omega), if_neg (by omega), ih (by omega)]
theorem shareS_C {S : Sx} {p d x : Nat} {m : Int32} (hd : d < 6) (hx : x < 5) (h2 : x ≠ 2) : sC (shareS S p m) d x = sC S d x := by
  unfold shareS
  rw [tipW_C hx h2, shW_C hd hx]
theorem shareS_P {S : Sx} {p q x : Nat} {m : Int32} (hn : cn S ≤ 6) (hx : x < 14) : sP (shareS S p m) q x = sP S q x := by
  unfold shareS
  rw [tipW_P _ hn, shW_P hx 6 (Nat.le_refl _)]
theorem shareS_lo {S : Sx} {p k : Nat} {m : Int32} (h : k < 7) : shareS S p m k = S k := by
  unfold shareS
  rw [tipW_lo h, shW_lo (by omega)]
theorem cn_eq {S S' : Sx} (h : S' 2 = S 2) : cn S' = cn S := by unfold cn; rw [h]
theorem pn_eq {S S' : Sx} (h : S' 3 = S 3) : pn S' = pn S := by unfold pn; rw [h]
/-- what delS writes before the shares -/
def dl1 (S : Sx) (p : Nat) : Sx := upd (uP (uP (uP S p 4 2) p 6 (S 0)) p 7 (payS S p)) 6 (S 6 + payS S p)
theorem delS_eq {S : Sx} {c p : Nat} : delS S c p = frS (shareS (dl1 S p) p (payS S p)) c := rfl
theorem dl1_lo {S : Sx} {p k : Nat} (h : k < 6) : dl1 S p k = S k := by
  unfold dl1
  rw [upd_n (by omega), uP_lo (by omega), uP_lo (by omega), uP_lo (by omega)]
theorem dl1_C {S : Sx} {p d x : Nat} (hd : d < 6) (hx : x < 5) : sC (dl1 S p) d x = sC S d x := by
  unfold dl1
  rw [gCu (by decide), gCP hd hx, gCP hd hx, gCP hd hx]
theorem dl1_P {S : Sx} {p q x : Nat} (hx : x < 20) (h6 : x ≠ 6) (h7 : x ≠ 7) : sP (dl1 S p) q x = if q = p ∧ x = 4 then 2 else sP S q x := by
  unfold dl1
  rw [gPu (by decide), gPP hx (by decide), if_neg (by omega), gPP hx (by decide), if_neg (by omega), gPP hx (by decide)]
theorem delS_lo {S : Sx} {c p k : Nat} (h : k < 6) : delS S c p k = S k := by
  rw [delS_eq, frS_lo (by omega), shareS_lo (by omega), dl1_lo h]
theorem delS_C {S : Sx} {c p d x : Nat} (hd : d < 6) (hx : x < 5) (h2 : x ≠ 2) : sC (delS S c p) d x = if d = c ∧ x = 4 then -1 else if d = c ∧ x = 3 then 0 else sC S d x := by
  rw [delS_eq, frS_C hx, shareS_C hd hx h2, dl1_C hd hx]
theorem delS_P {S : Sx} {c p q x : Nat} (hc : c < 6) (hn : cn S ≤ 6) (hx : x < 14) (h6 : x ≠ 6) (h7 : x ≠ 7) : sP (delS S c p) q x = if q = p ∧ x = 4 then 2 else sP S q x := by
  rw [delS_eq, frS_P hc, shareS_P (by rw [cn_eq (dl1_lo (by decide))]; exact hn) hx, dl1_P (by omega) h6 h7]
theorem legS_lo {S : Sx} {c p k : Nat} {z : Int32} (h : k < 5) : legS S c p z k = S k := by
  unfold legS
  rw [uP_lo (by omega), uP_lo (by omega), upd_n (by omega), uC_lo (by omega)]
theorem legS_C {S : Sx} {c p d x : Nat} {z : Int32} (hd : d < 6) (hx : x < 5) : sC (legS S c p z) d x = if d = c ∧ x = 1 then z else sC S d x := by
  unfold legS
  rw [gCP hd hx, gCP hd hx, gCu (by decide), gCC hx (by decide)]
theorem legS_P {S : Sx} {c p q x : Nat} {z : Int32} (hc : c < 6) (hx : x < 20) : sP (legS S c p z) q x = if q = p ∧ x = 8 + c then sP S p (8 + c) + 1 else if q = p ∧ x = 5 then z else sP S q x := by
  unfold legS
  rw [gPP hx (by omega), gPP hx (by decide), gPu (by decide), gPC hc (by decide)]
/-- one courier has acted: what is enough -/
theorem WF_step {b b' : Nat} {S S' : Sx} {c : Nat} (h : WF b S) (hc : c < cn S) (e2 : S' 2 = S 2) (e3 : S' 3 = S 3)
    (hC : ∀ d, d < 6 → d ≠ c → sC S' d 1 = sC S d 1 ∧ sC S' d 3 = sC S d 3 ∧ sC S' d 4 = sC S d 4) (hz : ∃ z, z < 16 ∧ sC S' c 1 = nI z)
    (hl : (sC S' c 3 = 0 ∧ sC S' c 4 = -1) ∨ ∃ p, p < pn S ∧ sC S' c 4 = nI p ∧ (sC S' c 3 = 1 ∨ (sC S' c 3 = 2 ∧ sP S' p 4 = 1)))
    (hst : ∀ q, q < pn S → sP S' q 4 = sP S q 4 ∨ ∀ d, d < cn S → d ≠ c → ¬ (sC S d 3 = 2 ∧ sC S d 4 = nI q))
    (hu : sC S' c 3 = 2 → ∀ d, d < cn S → d ≠ c → ¬ (sC S d 3 = 2 ∧ sC S d 4 = sC S' c 4)) (hp : ∀ q, q < pn S → WFp b' S' q) : WF b' S' := by
  obtain ⟨h1, h2, h3, h4, h5, h6, h7⟩ := h
  have en := cn_eq e2
  have em := pn_eq e3
  refine ⟨by rw [e2, en]; exact h1, by rw [en]; exact h2, by rw [e3, em]; exact h3, by rw [em]; exact h4, ?_, ?_, by rw [em]; exact hp⟩
  · rw [en]
    intro d hd
    by_cases e : d = c
    · subst e
      exact ⟨hz, by rw [em]; exact hl⟩
    · obtain ⟨k1, k2, k3⟩ := hC d (by omega) e
      obtain ⟨z1, z2⟩ := h5 d hd
      refine ⟨by rw [k1]; exact z1, ?_⟩
      rw [k2, k3, em]
      rcases z2 with z2 | ⟨p, q1, q2, q3⟩
      · exact Or.inl z2
      · refine Or.inr ⟨p, q1, q2, ?_⟩
        rcases q3 with q3 | ⟨q3, q4⟩
        · exact Or.inl q3
        · refine Or.inr ⟨q3, ?_⟩
          rcases hst p q1 with y | y
          · rw [y]; exact q4
          · exact absurd ⟨q3, q2⟩ (y d hd e)
  · rw [en]
    intro d d' hd hd' k1 k2 k3
    by_cases e : d = c
    · by_cases e' : d' = c
      · omega
      · exfalso
        subst e
        obtain ⟨y1, y2, y3⟩ := hC d' (by omega) e'
        exact hu k1 d' hd' e' ⟨by rw [← y2]; exact k2, by rw [← y3]; exact k3.symm⟩
    · obtain ⟨x1, x2, x3⟩ := hC d (by omega) e
      by_cases e' : d' = c
      · exfalso
        subst e'
        exact hu k2 d hd e ⟨by rw [← x2]; exact k1, by rw [← x3]; exact k3⟩
      · obtain ⟨y1, y2, y3⟩ := hC d' (by omega) e'
        exact h6 d d' hd hd' (by rw [← x2]; exact k1) (by rw [← y2]; exact k2) (by rw [← x3, ← y3]; exact k3)
theorem WFp_le {b b' : Nat} {S S' : Sx} {q : Nat} (hb : b ≤ b') (h : WFp b S q) (e : ∀ x, x < 14 → x ≠ 4 → x ≠ 6 → x ≠ 7 → sP S' q x = sP S q x) (h4 : ∃ k, k ≤ 3 ∧ sP S' q 4 = nI k) : WFp b' S' q := by
  obtain ⟨h0, h2, h3, -, h5, hl⟩ := h
  refine ⟨?_, ?_, ?_, h4, ?_, fun c hc => ?_⟩
  · rw [e 0 (by decide) (by decide) (by decide) (by decide), e 1 (by decide) (by decide) (by decide) (by decide)]; exact h0
  · rw [e 2 (by decide) (by decide) (by decide) (by decide)]; exact h2
  · rw [e 3 (by decide) (by decide) (by decide) (by decide)]; exact h3
  · rw [e 5 (by decide) (by decide) (by decide) (by decide)]; exact h5
  · rw [e (8 + c) (by omega) (by omega) (by omega) (by omega)]
    obtain ⟨k, hk, hk2⟩ := hl c hc
    exact ⟨k, by omega, hk2⟩
theorem nxz_in : ∀ f, f < 16 → ∀ t, t < 16 → ∃ z, z < 16 ∧ nxz (nI f) (nI t) = nI z := by decide +kernel
theorem n0 : (0 : Int32) = nI 0 := rfl
theorem n1 : (1 : Int32) = nI 1 := rfl
theorem n2 : (2 : Int32) = nI 2 := rfl
theorem n3 : (3 : Int32) = nI 3 := rfl
theorem WF_frees {b : Nat} {S : Sx} {c p : Nat} (h : WF b S) (hc : c < cn S) (h3 : sC S c 3 = 2) (h4 : sC S c 4 = nI p) (hp : p < pn S) (v : Int32) : WF b (frS (upd (uP S p 4 0) 4 v) c) := by
  have hn6 := h.2.1
  refine WF_step (S := S) h hc ?_ ?_ (fun d hd hne => ?_) ?_ (Or.inl ?_) (fun q hq => ?_) (fun z => ?_) (fun q hq => ?_)
  · rw [frS_lo (by decide), upd_n (by decide), uP_lo (by decide)]
  · rw [frS_lo (by decide), upd_n (by decide), uP_lo (by decide)]
  · refine ⟨?_, ?_, ?_⟩ <;> rw [frS_C (by decide), if_neg (by omega), if_neg (by omega), gCu (by decide), gCP hd (by decide)]
  · obtain ⟨z, hz, ez⟩ := (h.2.2.2.2.1 c hc).1
    exact ⟨z, hz, by rw [frS_C (by decide), if_neg (by omega), if_neg (by omega), gCu (by decide), gCP (by omega) (by decide)]; exact ez⟩
  · refine ⟨?_, ?_⟩
    · rw [frS_C (by decide), if_neg (by omega), if_pos ⟨rfl, rfl⟩]
    · rw [frS_C (by decide), if_pos ⟨rfl, rfl⟩]
  · by_cases e : q = p
    · refine Or.inr fun d hd hne y => hne (h.2.2.2.2.2.1 d c hd hc y.1 h3 (by rw [y.2, h4, e]))
    · refine Or.inl ?_
      rw [frS_P (by omega), gPu (by decide), gPP (by decide) (by decide), if_neg (by omega)]
  · exfalso
    rw [frS_C (by decide), if_neg (by omega), if_pos ⟨rfl, rfl⟩] at z
    exact absurd z (by decide)
  · refine WFp_le (Nat.le_refl b) (h.2.2.2.2.2.2 q hq) (fun x hx k4 k6 k7 => ?_) ?_
    · rw [frS_P (by omega), gPu (by decide), gPP (by omega) (by decide), if_neg (by omega)]
    · rw [frS_P (by omega), gPu (by decide), gPP (by decide) (by decide)]
      by_cases e : q = p
      · rw [if_pos ⟨e, rfl⟩]; exact ⟨0, by decide, rfl⟩
      · rw [if_neg (by omega)]; exact (h.2.2.2.2.2.2 q hq).2.2.2.1
theorem WF_leg {b : Nat} {S : Sx} {c p z : Nat} (h : WF b S) (hc : c < cn S) (h3 : sC S c 3 = 2) (h4 : sC S c 4 = nI p) (hp : p < pn S) (hz : z < 16) : WF (b + 1) (legS S c p (nI z)) := by
  have hn6 := h.2.1
  have hp4 : sP S p 4 = 1 := by
    rcases (h.2.2.2.2.1 c hc).2 with ⟨y, -⟩ | ⟨p', q1, q2, q3⟩
    · rw [h3] at y; exact absurd y (by decide)
    · have : p' = p := by
        have hm := h.2.2.2.1
        rw [h4, nI_eq (by omega) (by omega)] at q2
        exact q2.symm
      subst this
      rcases q3 with y | y
      · rw [h3] at y; exact absurd y (by decide)
      · exact y.2
  refine WF_step (S := S) h hc (legS_lo (by decide)) (legS_lo (by decide)) (fun d hd hne => ?_) ?_ (Or.inr ⟨p, hp, ?_, Or.inr ⟨?_, ?_⟩⟩) (fun q hq => Or.inl ?_) (fun y d hd hne k => ?_) (fun q hq => ?_)
  · refine ⟨?_, ?_, ?_⟩ <;> rw [legS_C hd (by decide), if_neg (by omega)]
  · exact ⟨z, hz, by rw [legS_C (by omega) (by decide), if_pos ⟨rfl, rfl⟩]⟩
  · rw [legS_C (by omega) (by decide), if_neg (by omega)]; exact h4
  · rw [legS_C (by omega) (by decide), if_neg (by omega)]; exact h3
  · rw [legS_P (by omega) (by decide), if_neg (by omega), if_neg (by omega)]; exact hp4
  · rw [legS_P (by omega) (by decide), if_neg (by omega), if_neg (by omega)]
  · rw [legS_C (by omega) (by decide), if_neg (by omega)] at k
    exact hne (h.2.2.2.2.2.1 d c hd hc k.1 h3 k.2)
  · obtain ⟨q0, q2, q3, q4, q5, ql⟩ := h.2.2.2.2.2.2 q hq
    have g : ∀ x, x < 8 → x ≠ 5 → sP (legS S c p (nI z)) q x = sP S q x := fun x hx h5 => by rw [legS_P (by omega) (by omega), if_neg (by omega), if_neg (by omega)]
    refine ⟨by rw [g 0 (by decide) (by decide), g 1 (by decide) (by decide)]; exact q0, by rw [g 2 (by decide) (by decide)]; exact q2, by rw [g 3 (by decide) (by decide)]; exact q3, by rw [g 4 (by decide) (by decide)]; exact q4, ?_, fun d hd => ?_⟩
    · rw [legS_P (by omega) (by decide), if_neg (by omega)]
      by_cases e : q = p
      · rw [if_pos ⟨e, rfl⟩]; exact ⟨z, hz, rfl⟩
      · rw [if_neg (by omega)]; exact q5
    · rw [legS_P (by omega) (by omega)]
      by_cases e : q = p ∧ 8 + d = 8 + c
      · rw [if_pos e]
        obtain ⟨k, hk, hk2⟩ := ql c (by omega)
        refine ⟨k + 1, by omega, ?_⟩
        rw [← e.1, hk2, nI_1]
      · rw [if_neg e, if_neg (by omega)]
        obtain ⟨k, hk, hk2⟩ := ql d hd
        exact ⟨k, by omega, hk2⟩
theorem WF_del {b : Nat} {S : Sx} {c p : Nat} (h : WF b S) (hc : c < cn S) (h3 : sC S c 3 = 2) (h4 : sC S c 4 = nI p) (hp : p < pn S) : WF b (delS S c p) := by
  have hn6 := h.2.1
  refine WF_step (S := S) h hc (delS_lo (by decide)) (delS_lo (by decide)) (fun d hd hne => ?_) ?_ (Or.inl ?_) (fun q hq => ?_) (fun z => ?_) (fun q hq => ?_)
  · refine ⟨?_, ?_, ?_⟩ <;> rw [delS_C hd (by decide) (by decide), if_neg (by omega), if_neg (by omega)]
  · obtain ⟨z, hz, ez⟩ := (h.2.2.2.2.1 c hc).1
    exact ⟨z, hz, by rw [delS_C (by omega) (by decide) (by decide), if_neg (by omega), if_neg (by omega)]; exact ez⟩
  · refine ⟨?_, ?_⟩
    · rw [delS_C (by omega) (by decide) (by decide), if_neg (by omega), if_pos ⟨rfl, rfl⟩]
    · rw [delS_C (by omega) (by decide) (by decide), if_pos ⟨rfl, rfl⟩]
  · by_cases e : q = p
    · refine Or.inr fun d hd hne y => hne (h.2.2.2.2.2.1 d c hd hc y.1 h3 (by rw [y.2, h4, e]))
    · refine Or.inl ?_
      rw [delS_P (by omega) hn6 (by decide) (by decide) (by decide), if_neg (by omega)]
  · exfalso
    rw [delS_C (by omega) (by decide) (by decide), if_neg (by omega), if_pos ⟨rfl, rfl⟩] at z
    exact absurd z (by decide)
  · refine WFp_le (Nat.le_refl b) (h.2.2.2.2.2.2 q hq) (fun x hx k4 k6 k7 => ?_) ?_
    · rw [delS_P (by omega) hn6 hx k6 k7, if_neg (by omega)]
    · rw [delS_P (by omega) hn6 (by decide) (by decide) (by decide)]
      by_cases e : q = p
      · rw [if_pos ⟨e, rfl⟩]; exact ⟨2, by decide, rfl⟩
      · rw [if_neg (by omega)]; exact (h.2.2.2.2.2.2 q hq).2.2.2.1
theorem WF_up {b b' : Nat} {S : Sx} (hb : b ≤ b') (h : WF b S) : WF b' S := by
  obtain ⟨h1, h2, h3, h4, h5, h6, h7⟩ := h
  refine ⟨h1, h2, h3, h4, h5, h6, fun q hq => WFp_le hb (h7 q hq) (fun _ _ _ _ _ => rfl) (h7 q hq).2.2.2.1⟩
theorem WF_car {b : Nat} {S : Sx} {c p : Nat} (h : WF b S) (hc : c < cn S) (h3 : sC S c 3 = 2) (h4 : sC S c 4 = nI p) (hp : p < pn S) : WF (b + 1) (carS S c p) := by
  have hn6 := h.2.1
  obtain ⟨f, hf, ef⟩ := (h.2.2.2.2.1 c hc).1
  obtain ⟨o, d, ho, hd, -, -, ed⟩ := (h.2.2.2.2.2.2 p hp).1
  obtain ⟨z, hz, ez⟩ := nxz_in f hf d hd
  have hleg := WF_leg h hc h3 h4 hp hz
  unfold carS
  rw [ef, ed, ez]
  split
  · split
    · refine WF_del hleg (by rw [cn_eq (legS_lo (by decide))]; exact hc) ?_ ?_ (by rw [pn_eq (legS_lo (by decide))]; exact hp)
      · rw [legS_C (by omega) (by decide), if_neg (by omega)]; exact h3
      · rw [legS_C (by omega) (by decide), if_neg (by omega)]; exact h4
    · exact hleg
  · exact WF_up (by omega) (WF_frees h hc h3 h4 hp _)
theorem WF_go {b : Nat} {S : Sx} {c p : Nat} (h : WF b S) (hc : c < cn S) (h3 : sC S c 3 = 1) (h4 : sC S c 4 = nI p) (hp : p < pn S) (hs : sP S p 4 = 0) : WF b (goS S c p) := by
  have hn6 := h.2.1
  unfold goS
  split
  · refine WF_step (S := S) h hc ?_ ?_ (fun d hd hne => ?_) ?_ (Or.inr ⟨p, hp, ?_, Or.inr ⟨?_, ?_⟩⟩) (fun q hq => ?_) (fun y d hd hne k => ?_) (fun q hq => ?_)
    · rw [uP_lo (by decide), uC_lo (by decide)]
    · rw [uP_lo (by decide), uC_lo (by decide)]
    · refine ⟨?_, ?_, ?_⟩ <;> rw [gCP hd (by decide), gCC (by decide) (by decide), if_neg (by omega)]
    · obtain ⟨z, hz, ez⟩ := (h.2.2.2.2.1 c hc).1
      exact ⟨z, hz, by rw [gCP (by omega) (by decide), gCC (by decide) (by decide), if_neg (by omega)]; exact ez⟩
    · rw [gCP (by omega) (by decide), gCC (by decide) (by decide), if_neg (by omega)]; exact h4
    · rw [gCP (by omega) (by decide), gCC (by decide) (by decide), if_pos ⟨rfl, rfl⟩]
    · rw [gPP (by decide) (by decide), if_pos ⟨rfl, rfl⟩]
    · by_cases e : q = p
      · refine Or.inr fun d hd hne y => ?_
        rcases (h.2.2.2.2.1 d hd).2 with ⟨w, -⟩ | ⟨p', q1, q2, q3⟩
        · rw [y.1] at w; exact absurd w (by decide)
        · have hm := h.2.2.2.1
          rw [y.2, nI_eq (by omega) (by omega)] at q2
          rcases q3 with w | w
          · rw [y.1] at w; exact absurd w (by decide)
          · rw [← q2, e, hs] at w
            exact absurd w.2 (by decide)
      · refine Or.inl ?_
        rw [gPP (by decide) (by decide), if_neg (by omega), gPC (by omega) (by decide)]
    · rw [gCP (by omega) (by decide), gCC (by decide) (by decide), if_neg (by omega), h4] at k
      rcases (h.2.2.2.2.1 d hd).2 with ⟨w, -⟩ | ⟨p', q1, q2, q3⟩
      · rw [k.1] at w; exact absurd w (by decide)
      · have hm := h.2.2.2.1
        rw [k.2, nI_eq (by omega) (by omega)] at q2
        rcases q3 with w | w
        · rw [k.1] at w; exact absurd w (by decide)
        · rw [← q2, hs] at w
          exact absurd w.2 (by decide)
    · refine WFp_le (Nat.le_refl b) (h.2.2.2.2.2.2 q hq) (fun x hx k4 k6 k7 => ?_) ?_
      · rw [gPP (by omega) (by decide), if_neg (by omega), gPC (by omega) (by decide)]
      · rw [gPP (by decide) (by decide)]
        by_cases e : q = p
        · rw [if_pos ⟨e, rfl⟩]; exact ⟨1, by decide, rfl⟩
        · rw [if_neg (by omega), gPC (by omega) (by decide)]; exact (h.2.2.2.2.2.2 q hq).2.2.2.1
  · obtain ⟨f, hf, ef⟩ := (h.2.2.2.2.1 c hc).1
    obtain ⟨z5, hz5, ez5⟩ := (h.2.2.2.2.2.2 p hp).2.2.2.2.1
    obtain ⟨z, hz, ez⟩ := nxz_in f hf z5 hz5
    rw [ef, ez5, ez]
    refine WF_step (S := S) h hc ?_ ?_ (fun d hd hne => ?_) ⟨z, hz, ?_⟩ ?_ (fun q hq => Or.inl ?_) (fun y d hd hne k => ?_) (fun q hq => ?_)
    · rw [upd_n (by decide), uC_lo (by decide)]
    · rw [upd_n (by decide), uC_lo (by decide)]
    · refine ⟨?_, ?_, ?_⟩ <;> rw [gCu (by decide), gCC (by decide) (by decide), if_neg (by omega)]
    · rw [gCu (by decide), gCC (by decide) (by decide), if_pos ⟨rfl, rfl⟩]
    · refine Or.inr ⟨p, hp, ?_, Or.inl ?_⟩
      · rw [gCu (by decide), gCC (by decide) (by decide), if_neg (by omega)]; exact h4
      · rw [gCu (by decide), gCC (by decide) (by decide), if_neg (by omega)]; exact h3
    · rw [gPu (by decide), gPC (by omega) (by decide)]
    · rw [gCu (by decide), gCC (by decide) (by decide), if_neg (by omega), h3] at y
      exact absurd y (by decide)
    · refine WFp_le (Nat.le_refl b) (h.2.2.2.2.2.2 q hq) (fun x hx k4 k6 k7 => ?_) ?_
      · rw [gPu (by decide), gPC (by omega) (by decide)]
      · rw [gPu (by decide), gPC (by omega) (by decide)]; exact (h.2.2.2.2.2.2 q hq).2.2.2.1
theorem WF_ch {b : Nat} {S : Sx} {c : Nat} (h : WF b S) (hc : c < cn S) : WF b (chS S c) := by
  have hn6 := h.2.1
  unfold chS
  have hz := (h.2.2.2.2.1 c hc).1
  have hm := h.2.2.2.1
  refine WF_step (S := S) h hc ?_ ?_ (fun d hd hne => ?_) ?_ ?_ (fun q hq => Or.inl ?_) (fun y d hd hne k => ?_) (fun q hq => ?_)
  · rw [uC_lo (by decide), uC_lo (by decide)]
  · rw [uC_lo (by decide), uC_lo (by decide)]
  · refine ⟨?_, ?_, ?_⟩ <;> rw [gCC (by decide) (by decide), if_neg (by omega), gCC (by decide) (by decide), if_neg (by omega)]
  · obtain ⟨z, hz, ez⟩ := hz
    exact ⟨z, hz, by rw [gCC (by decide) (by decide), if_neg (by omega), gCC (by decide) (by decide), if_neg (by omega)]; exact ez⟩
  · have e3 : sC (uC (uC S c 3 (if chB S c (pn S) = -1 then 0 else 1)) c 4 (chB S c (pn S))) c 3 = (if chB S c (pn S) = -1 then 0 else 1) := by
      rw [gCC (by decide) (by decide), if_neg (by omega), gCC (by decide) (by decide), if_pos ⟨rfl, rfl⟩]
    have e4 : sC (uC (uC S c 3 (if chB S c (pn S) = -1 then 0 else 1)) c 4 (chB S c (pn S))) c 4 = chB S c (pn S) := by
      rw [gCC (by decide) (by decide), if_pos ⟨rfl, rfl⟩]
    rw [e3, e4]
    rcases chB_ok S c (pn S) with e | ⟨q, hq, e⟩
    · rw [e, if_pos rfl]; exact Or.inl ⟨rfl, rfl⟩
    · rw [e, if_neg (nI_m1 (by omega))]; exact Or.inr ⟨q, hq, rfl, Or.inl rfl⟩
  · rw [gPC (by omega) (by decide), gPC (by omega) (by decide)]
  · rw [gCC (by decide) (by decide), if_neg (by omega), gCC (by decide) (by decide), if_pos ⟨rfl, rfl⟩] at y
    split at y <;> exact absurd y (by decide)
  · refine WFp_le (Nat.le_refl b) (h.2.2.2.2.2.2 q hq) (fun x hx k4 k6 k7 => ?_) ?_
    · rw [gPC (by omega) (by decide), gPC (by omega) (by decide)]
    · rw [gPC (by omega) (by decide), gPC (by omega) (by decide)]; exact (h.2.2.2.2.2.2 q hq).2.2.2.1
/-- with whom a courier does something: its parcel -/
theorem WF_with {b : Nat} {S : Sx} {c : Nat} (h : WF b S) (hc : c < cn S) (h3 : sC S c 3 ≠ 0) : ∃ p, p < pn S ∧ sC S c 4 = nI p ∧ (sC S c 4).toNatClampNeg = p := by
  rcases (h.2.2.2.2.1 c hc).2 with y | ⟨p, hp, e, -⟩
  · exact absurd y.1 h3
  · have hm := h.2.2.2.1
    exact ⟨p, hp, e, by rw [e, n_cl (by omega)]⟩
theorem WF_act {b : Nat} {S : Sx} {c : Nat} (h : WF b S) (hc : c < cn S) : WF (b + 1) (actS S c) := by
  unfold actS
  split
  · rename_i h3
    obtain ⟨p, hp, e1, e2⟩ := WF_with h hc (by rw [h3]; decide)
    rw [e2]
    exact WF_car h hc h3 e1 hp
  · split
    · rename_i h3
      obtain ⟨p, hp, e1, e2⟩ := WF_with h hc (by rw [h3.1]; decide)
      rw [e2] at h3 ⊢
      exact WF_up (by omega) (WF_go h hc h3.1 e1 hp h3.2)
    · exact WF_up (by omega) (WF_ch h hc)
theorem carS_lo {S : Sx} {c p k : Nat} (h : k < 4) : carS S c p k = S k := by
  unfold carS
  split
  · split
    · rw [delS_lo (by omega), legS_lo (by omega)]
    · rw [legS_lo (by omega)]
  · rw [frS_lo (by omega), upd_n (by omega), uP_lo (by omega)]
theorem goS_lo {S : Sx} {c p k : Nat} (h : k < 4) : goS S c p k = S k := by
  unfold goS
  split
  · rw [uP_lo (by omega), uC_lo (by omega)]
  · rw [upd_n (by omega), uC_lo (by omega)]
theorem chS_lo {S : Sx} {c k : Nat} (h : k < 7) : chS S c k = S k := by
  unfold chS
  rw [uC_lo h, uC_lo h]
theorem actS_lo {S : Sx} {c k : Nat} (h : k < 4) : actS S c k = S k := by
  unfold actS
  split
  · exact carS_lo h
  · split
    · exact goS_lo h
    · exact chS_lo (by omega)
theorem actW_lo {S : Sx} {k : Nat} (h : k < 4) : ∀ i, actW S i k = S k := by
  intro i
  induction i with
  | zero => rfl
  | succ i ih => unfold actW; rw [actS_lo h, ih]
theorem WF_actW {b : Nat} {S : Sx} (h : WF b S) : ∀ i, i ≤ cn S → WF (b + i) (actW S i) := by
  intro i
  induction i with
  | zero => intro _; exact h
  | succ i ih =>
    intro hi
    unfold actW
    exact WF_act (ih (by omega)) (by rw [cn_eq (actW_lo (by decide) i)]; exact hi)
theorem frW_lo {S : Sx} {p k : Nat} (h : k < 7) : ∀ i, frW S p i k = S k := by
  intro i
  induction i with
  | zero => rfl
  | succ i ih =>
    unfold frW
    split
    · rw [frS_lo h, ih]
    · exact ih
theorem frW_P {S : Sx} {p q x : Nat} : ∀ i, i ≤ 6 → sP (frW S p i) q x = sP S q x := by
  intro i
  induction i with
  | zero => intro _; rfl
  | succ i ih =>
    intro hi
    unfold frW
    split
    · rw [frS_P (by omega), ih (by omega)]
    · exact ih (by omega)
theorem frW_C {S : Sx} {p d x : Nat} (hx : x < 5) : ∀ i, sC (frW S p i) d x = if d < i ∧ sC S d 4 = nI p then (if x = 4 then -1 else if x = 3 then 0 else sC S d x) else sC S d x := by
  intro i
  induction i generalizing d x with
  | zero => rw [if_neg (by omega)]; rfl
  | succ i ih =>
    have e4 : sC (frW S p i) i 4 = sC S i 4 := by rw [ih (by decide), if_neg (by omega)]
    unfold frW
    rw [e4]
    by_cases h : sC S i 4 = nI p
    · rw [if_pos h, frS_C hx, ih hx]
      by_cases e : d = i
      · subst e
        rw [if_pos (show d < d + 1 ∧ sC S d 4 = nI p from ⟨Nat.lt_succ_self d, h⟩)]
        by_cases x4 : x = 4
        · rw [if_pos (show d = d ∧ x = 4 from ⟨rfl, x4⟩), if_pos x4]
        · rw [if_neg (show ¬ (d = d ∧ x = 4) from fun y => x4 y.2), if_neg x4]
          by_cases x3 : x = 3
          · rw [if_pos (show d = d ∧ x = 3 from ⟨rfl, x3⟩), if_pos x3]
          · rw [if_neg (show ¬ (d = d ∧ x = 3) from fun y => x3 y.2), if_neg x3, if_neg (show ¬ (d < d ∧ sC S d 4 = nI p) from fun y => Nat.lt_irrefl d y.1)]
      · rw [if_neg (show ¬ (d = i ∧ x = 4) from fun y => e y.1), if_neg (show ¬ (d = i ∧ x = 3) from fun y => e y.1)]
        by_cases e2 : d < i ∧ sC S d 4 = nI p
        · rw [if_pos e2, if_pos (show d < i + 1 ∧ sC S d 4 = nI p from ⟨by omega, e2.2⟩)]
        · rw [if_neg e2, if_neg (show ¬ (d < i + 1 ∧ sC S d 4 = nI p) from fun z => e2 ⟨by omega, z.2⟩)]
    · rw [if_neg h, ih hx]
      by_cases e2 : d < i ∧ sC S d 4 = nI p
      · rw [if_pos e2, if_pos (show d < i + 1 ∧ sC S d 4 = nI p from ⟨by omega, e2.2⟩)]
      · rw [if_neg e2, if_neg (show ¬ (d < i + 1 ∧ sC S d 4 = nI p) from fun z => e2 ⟨(by
          rcases Nat.lt_or_ge d i with y | y
          · exact y
          · have : d = i := by omega
            subst this
            exact absurd z.2 h), z.2⟩)]
theorem faiS_lo {S : Sx} {p k : Nat} (h : k < 7) : faiS S p k = S k := by
  unfold faiS
  rw [frW_lo h, uP_lo (by omega)]
theorem WF_fai {b : Nat} {S : Sx} {p : Nat} (h : WF b S) (hp : p < pn S) : WF b (faiS S p) := by
  obtain ⟨h1, h2, h3, h4, h5, h6, h7⟩ := h
  have e2 : faiS S p 2 = S 2 := faiS_lo (by decide)
  have e3 : faiS S p 3 = S 3 := faiS_lo (by decide)
  have en := cn_eq e2
  have em := pn_eq e3
  have eP : ∀ q x, x < 20 → sP (faiS S p) q x = if q = p ∧ x = 4 then 3 else sP S q x := fun q x hx => by
    unfold faiS
    rw [frW_P _ h2, gPP hx (by decide)]
  have eC : ∀ d x, d < cn S → x < 5 → sC (faiS S p) d x = if sC S d 4 = nI p then (if x = 4 then -1 else if x = 3 then 0 else sC S d x) else sC S d x := fun d x hd hx => by
    unfold faiS
    rw [frW_C hx, gCP (by omega) hx, gCP (by omega) (by decide)]
    by_cases z : sC S d 4 = nI p
    · rw [if_pos ⟨hd, z⟩, if_pos z]
    · rw [if_neg (fun y => z y.2), if_neg z]
  refine ⟨by rw [e2, en]; exact h1, by rw [en]; exact h2, by rw [e3, em]; exact h3, by rw [em]; exact h4, ?_, ?_, ?_⟩
  · rw [en]
    intro d hd
    obtain ⟨z1, z2⟩ := h5 d hd
    by_cases z : sC S d 4 = nI p
    · refine ⟨by rw [eC d 1 hd (by decide), if_pos z, if_neg (by decide), if_neg (by decide)]; exact z1, Or.inl ⟨?_, ?_⟩⟩
      · rw [eC d 3 hd (by decide), if_pos z]; rfl
      · rw [eC d 4 hd (by decide), if_pos z]; rfl
    · refine ⟨by rw [eC d 1 hd (by decide), if_neg z]; exact z1, ?_⟩
      rw [eC d 3 hd (by decide), eC d 4 hd (by decide), if_neg z, if_neg z, em]
      rcases z2 with z2 | ⟨q, q1, q2, q3⟩
      · exact Or.inl z2
      · refine Or.inr ⟨q, q1, q2, ?_⟩
        rcases q3 with q3 | ⟨q3, q4⟩
        · exact Or.inl q3
        · refine Or.inr ⟨q3, ?_⟩
          rw [eP q 4 (by decide), if_neg (fun y => z (by rw [q2, y.1]))]
          exact q4
  · rw [en]
    intro d d' hd hd' k1 k2 k3
    by_cases z : sC S d 4 = nI p
    · rw [eC d 3 hd (by decide), if_pos z, if_neg (by decide), if_pos rfl] at k1
      exact absurd k1 (by decide)
    · by_cases z' : sC S d' 4 = nI p
      · rw [eC d' 3 hd' (by decide), if_pos z', if_neg (by decide), if_pos rfl] at k2
        exact absurd k2 (by decide)
      · rw [eC d 3 hd (by decide), if_neg z] at k1
        rw [eC d' 3 hd' (by decide), if_neg z'] at k2
        rw [eC d 4 hd (by decide), eC d' 4 hd' (by decide), if_neg z, if_neg z'] at k3
        exact h6 d d' hd hd' k1 k2 k3
  · rw [em]
    intro q hq
    refine WFp_le (Nat.le_refl b) (h7 q hq) (fun x hx k4 _ _ => by rw [eP q x (by omega), if_neg (by omega)]) ?_
    rw [eP q 4 (by decide)]
    by_cases e : q = p
    · rw [if_pos ⟨e, rfl⟩]; exact ⟨3, by decide, rfl⟩
    · rw [if_neg (by omega)]; exact (h7 q hq).2.2.2.1
theorem flW_lo {S : Sx} {k : Nat} (h : k < 7) : ∀ i, flW S i k = S k := by
  intro i
  induction i with
  | zero => rfl
  | succ i ih =>
    unfold flW
    split
    · rw [faiS_lo h, ih]
    · exact ih
theorem WF_flW {b : Nat} {S : Sx} (h : WF b S) : ∀ i, i ≤ pn S → WF b (flW S i) := by
  intro i
  induction i with
  | zero => intro _; exact h
  | succ i ih =>
    intro hi
    unfold flW
    split
    · exact WF_fai (ih (by omega)) (by rw [pn_eq (flW_lo (by decide) i)]; exact hi)
    · exact ih (by omega)
theorem WF_time {b : Nat} {S : Sx} (v : Int32) (h : WF b S) : WF b (upd S 0 v) := by
  obtain ⟨h1, h2, h3, h4, h5, h6, h7⟩ := h
  have e2 : (upd S 0 v) 2 = S 2 := upd_n (by decide)
  have e3 : (upd S 0 v) 3 = S 3 := upd_n (by decide)
  have en := cn_eq e2
  have em := pn_eq e3
  have eC : ∀ d x, sC (upd S 0 v) d x = sC S d x := fun d x => gCu (by decide)
  have eP : ∀ q x, sP (upd S 0 v) q x = sP S q x := fun q x => gPu (by decide)
  refine ⟨by rw [e2, en]; exact h1, by rw [en]; exact h2, by rw [e3, em]; exact h3, by rw [em]; exact h4, ?_, ?_, ?_⟩
  · rw [en]
    intro d hd
    unfold WFc
    simp only [eC, eP, em]
    exact h5 d hd
  · rw [en]
    intro d d' hd hd'
    simp only [eC]
    exact h6 d d' hd hd'
  · rw [em]
    intro q hq
    exact WFp_le (Nat.le_refl b) (h7 q hq) (fun x _ _ _ _ => eP q x) (by rw [eP]; exact (h7 q hq).2.2.2.1)
theorem WF_tkA {b : Nat} {S : Sx} (h : WF b S) : WF (b + 6) (tkA S) := by
  unfold tkA
  have h1 := WF_time (S 0 + 1) h
  have e2 : cn (upd S 0 (S 0 + 1)) = cn S := cn_eq (upd_n (by decide))
  have h2 := h.2.1
  exact WF_up (by omega) (WF_actW h1 (cn S) (by rw [e2]; exact Nat.le_refl _))
theorem tkA_lo {S : Sx} {k : Nat} (h : k < 4) (h0 : k ≠ 0) : tkA S k = S k := by
  unfold tkA
  rw [actW_lo h, upd_n h0]
theorem WF_tick {b : Nat} {S : Sx} (h : WF b S) : WF (b + 6) (tickS S) := by
  unfold tickS
  exact WF_flW (WF_tkA h) _ (by rw [pn_eq (tkA_lo (by decide) (by decide))]; exact Nat.le_refl _)
theorem tickS_lo {S : Sx} {k : Nat} (h : k < 4) (h0 : k ≠ 0) : tickS S k = S k := by
  unfold tickS
  rw [flW_lo (by omega), tkA_lo h h0]
theorem WF_tkN {b : Nat} {S : Sx} (h : WF b S) : ∀ n, WF (b + 6 * n) (tkN S n) := by
  intro n
  induction n with
  | zero => exact h
  | succ n ih =>
    unfold tkN
    exact WF_up (by omega) (WF_tick ih)
end PU
end
section
/-! THE FACE: what each call answers and does, on the state (row, saved rows, text) -/
section FA
abbrev Zs : Type := Sx × Nat × (Nat → Sx) × Nat × (Nat → Int32)
def phN (n : Nat) : Nat := if n = 4 then 4 else n + 1
def phH (n : Nat) (H : Nat → Sx) (S0 : Sx) : Nat → Sx := fun i => if n = 4 then (if i = 3 then S0 else H (i + 1)) else if i = n then S0 else H i
/-- saved, and then S' -/
def phZ (Z : Zs) (S' : Sx) : Zs := (S', phN Z.2.1, phH Z.2.1 Z.2.2.1 Z.1, Z.2.2.2.1, Z.2.2.2.2)
def okN (x a b : Int32) : Bool := decide (a ≤ x) && decide (x ≤ b)
def isCr (S : Sx) (c : Int32) : Bool := okN c 0 (S 2 - 1)
def isPc (S : Sx) (p : Int32) : Bool := okN p 0 (S 3 - 1)
def inSt (S : Sx) (q : Int32) : Nat → Int32
  | 0 => 0
  | p + 1 => inSt S q p + (if sP S p 4 = q then 1 else 0)
def zrP (S : Sx) (p : Nat) : Nat → Sx
  | 0 => S
  | w + 1 => uP (zrP S p w) p w 0
def comS (S : Sx) (o g k t : Int32) : Sx := upd (uP (uP (uP (uP (uP (uP (zrP S (pn S) 20) (pn S) 0 o) (pn S) 1 g) (pn S) 2 k) (pn S) 3 t) (pn S) 5 o) (pn S) 6 (-1)) 3 (S 3 + 1)
def addS (S : Sx) (ar z : Int32) : Sx := upd (frS (uC (uC (uC S (cn S) 0 ar) (cn S) 1 z) (cn S) 2 0) (cn S)) 2 (S 2 + 1)
def drS (S : Sx) (c : Nat) : Sx := frS (if sC S c 3 = 2 then uP S (sC S c 4).toNatClampNeg 4 0 else S) c
def lgC (S : Sx) (c : Nat) : Nat → Int32
  | 0 => 0
  | p + 1 => lgC S c p + sP S p (8 + c)
def valS (S : Sx) (w : Nat) : Int32 := if w = 0 then S 0 else if w = 1 then S 2 else if w = 2 then S 3 else if w = 3 then S 1 else if w = 8 then S 6 else if w = 9 then S 4 else if w = 10 then S 5 else inSt S (nI (w - 4)) (pn S)
def crS (S : Sx) (c w : Nat) : Int32 := if w < 5 then sC S c w else lgC S c (pn S)
def paS (S : Sx) (p w : Nat) : Int32 := if w < 8 then sP S p w else lsum S p 6
def aprt (a b : Int32) : Int32 := if a < b then b - a else a - b
def div4 (x : Int32) : Int32 := x / 4
def dist (f t : Int32) : Int32 := aprt (rem4 f) (rem4 t) + aprt (div4 f) (div4 t)
def suS (S : Sx) (p : Nat) : Nat → Int32
  | 0 => 0
  | c + 1 => suS S p c ||| (if suit S p c = true then (1 : Int32) <<< (nI c &&& 31) else 0)
def sus (S : Sx) (p : Nat) : Int32 := if sP S p 4 < 2 then suS S p (cn S) else 0
/-- as far as a courier carries: n steps at most -/
def rchN (S : Sx) (c : Nat) (t : Int32) : Nat → Int32 → Int32
  | 0, z => z
  | n + 1, z => if z ≠ t ∧ hs (sC S c 0) z = true ∧ hs (sC S c 0) (nxz z t) = true then rchN S c t n (nxz z t) else z
def rch (S : Sx) (c : Nat) (f t : Int32) : Int32 := rchN S c t 16 f
def rlB (S : Sx) (z t : Int32) : Nat → Int32
  | 0 => z
  | c + 1 => if dist (rch S c z t) t < dist (rlB S z t c) t then rch S c z t else rlB S z t c
def rlN (S : Sx) (t : Int32) : Nat → Int32 → Int32 → Int32
  | 0, _, _ => -1
  | n + 1, z, k => if z = t then k else if rlB S z t (cn S) = z then -1 else rlN S t n (rlB S z t (cn S)) (k + 1)
def rel (S : Sx) (p : Nat) : Int32 := rlN S (sP S p 1) 16 (sP S p 0) 0
def endN (S : Sx) : Nat → Int32
  | 0 => 0
  | p + 1 => endN S p + (if sP S p 4 < 2 then 0 else 1)
def gdN (S : Sx) : Nat → Int32
  | 0 => 0
  | p + 1 => gdN S p + (if sP S p 4 = 2 ∧ sP S p 6 ≤ sP S p 2 then 1 else 0)
def punS (S : Sx) : UInt64 := if endN S (pn S) = 0 then FP.dconst1 else FP.ddiv (FP.i2d (gdN S (pn S))) (FP.i2d (endN S (pn S)))
def payN (S : Sx) (n : Nat) : Int32 := tkN S n 6 - S 6
def wdS (S : Sx) (c z : Nat) : Sx := uC S c 0 (sC S c 0 ||| (1 : Int32) <<< (nI z &&& 31))
def bzL (S : Sx) (c n : Nat) : Nat → Int32 × Int32
  | 0 => (-1, payN S n)
  | z + 1 => if hs (sC S c 0) (nI z) = true then bzL S c n z else if (bzL S c n z).2 < payN (wdS S c z) n then (nI z, payN (wdS S c z) n) else bzL S c n z
def rtS (S : Sx) (c : Nat) : Sx := uC (drS S c) c 0 0
def dnB (S : Sx) : Bool := decide (inSt S 0 (pn S) + inSt S 1 (pn S) = 0)
def dnF (S : Sx) : Nat → Nat → Int32
  | 0, i => if dnB (tkN S i) = true then nI i else -1
  | r + 1, i => if dnB (tkN S i) = true then nI i else dnF S r (i + 1)
abbrev Op : Type := Zs → Nat × Int32 × Zs
def opAdd (ar z : Int32) : Op := fun Z => if (okN ar 0 65535 && okN z 0 15) = true then (if Z.1 2 = 6 then (2, 0, Z) else (0, Z.1 2, phZ Z (addS Z.1 ar z))) else (1, 0, Z)
def opArea (c ar : Int32) : Op := fun Z => if isCr Z.1 c = true then (if okN ar 0 65535 = true then (0, sC Z.1 c.toNatClampNeg 0, phZ Z (uC Z.1 c.toNatClampNeg 0 ar)) else (2, 0, Z)) else (1, 0, Z)
def opGive (o g k t : Int32) : Op := fun Z => if (okN o 0 15 && okN g 0 15 && okN k 1 999 && okN t 0 1000 && decide (o ≠ g)) = true then (if Z.1 3 = 24 then (2, 0, Z) else (0, Z.1 3, phZ Z (comS Z.1 o g k t))) else (1, 0, Z)
def opGrace (g : Int32) : Op := fun Z => if okN g 0 100 = true then (0, Z.1 1, phZ Z (upd Z.1 1 g)) else (1, 0, Z)
def opDrop (c : Int32) : Op := fun Z => if isCr Z.1 c = true then (0, sC Z.1 c.toNatClampNeg 4, phZ Z (drS Z.1 c.toNatClampNeg)) else (1, 0, Z)
def opRun (n : Int32) : Op := fun Z => if okN n 0 200 = true then (if 2000 < Z.1 0 + n then (2, 0, Z) else (0, inSt (tkN Z.1 n.toNatClampNeg) 2 (pn Z.1) - inSt Z.1 2 (pn Z.1), phZ Z (tkN Z.1 n.toNatClampNeg))) else (1, 0, Z)
def opValue (w : Int32) : Op := fun Z => if okN w 0 10 = true then (0, valS Z.1 w.toNatClampNeg, Z) else (1, 0, Z)
def opCourier (c w : Int32) : Op := fun Z => if isCr Z.1 c = true then (if okN w 0 5 = true then (0, crS Z.1 c.toNatClampNeg w.toNatClampNeg, Z) else (2, 0, Z)) else (1, 0, Z)
def opParcel (p w : Int32) : Op := fun Z => if isPc Z.1 p = true then (if okN w 0 8 = true then (0, paS Z.1 p.toNatClampNeg w.toNatClampNeg, Z) else (2, 0, Z)) else (1, 0, Z)
def opLegs (p c s : Int32) : Op := fun Z => if (isPc Z.1 p && isCr Z.1 c) = true then (0, sP Z.1 p.toNatClampNeg ((if s = 0 then 8 else 14) + c.toNatClampNeg), Z) else (1, 0, Z)
def opDist (f t : Int32) : Op := fun Z => if (okN f 0 15 && okN t 0 15) = true then (0, dist f t, Z) else (1, 0, Z)
def opSuited (p : Int32) : Op := fun Z => if isPc Z.1 p = true then (0, sus Z.1 p.toNatClampNeg, Z) else (1, 0, Z)
def opRelay (p : Int32) : Op := fun Z => if isPc Z.1 p = true then (0, rel Z.1 p.toNatClampNeg, Z) else (1, 0, Z)
def opPaid (n : Int32) : Op := fun Z => if okN n 0 200 = true then (0, payN Z.1 n.toNatClampNeg, Z) else (1, 0, Z)
def opBest (c n : Int32) : Op := fun Z => if isCr Z.1 c = true then (if okN n 0 200 = true then (0, (bzL Z.1 c.toNatClampNeg n.toNatClampNeg 16).1, Z) else (2, 0, Z)) else (1, 0, Z)
def opWorth (c n : Int32) : Op := fun Z => if isCr Z.1 c = true then (if okN n 0 200 = true then (0, payN Z.1 n.toNatClampNeg - payN (rtS Z.1 c.toNatClampNeg) n.toNatClampNeg, Z) else (2, 0, Z)) else (1, 0, Z)
def opDone : Op := fun Z => (0, dnF Z.1 1200 0, Z)
def opAppend (v : Int32) : Op := fun Z => if okN v 0 127 = true then (if Z.2.2.2.1 = 150 then (2, 0, Z) else (0, nI (Z.2.2.2.1 + 1), (Z.1, Z.2.1, Z.2.2.1, Z.2.2.2.1 + 1, upd Z.2.2.2.2 Z.2.2.2.1 v))) else (1, 0, Z)
def opClear : Op := fun Z => (0, nI Z.2.2.2.1, (Z.1, Z.2.1, Z.2.2.1, 0, Z.2.2.2.2))
def opUndo : Op := fun Z => if Z.2.1 = 0 then (1, 0, Z) else (0, nI (Z.2.1 - 1), (Z.2.2.1 (Z.2.1 - 1), Z.2.1 - 1, Z.2.2.1, Z.2.2.2.1, Z.2.2.2.2))
/-! the text -/
/-- how many digits stand from a on, d at most -/
def dgN (tl : Nat) (tx : Nat → Int32) (a : Nat) : Nat → Nat
  | 0 => 0
  | d + 1 => if a < tl ∧ okN (tx a) 48 57 = true then dgN tl tx (a + 1) d + 1 else 0
/-- the number of n digits from a on -/
def nbN (tx : Nat → Int32) (a : Nat) : Nat → Int32
  | 0 => 0
  | n + 1 => 10 * nbN tx a n + tx (a + n) - 48
/-- a number in its range and a sign behind it: whether, and where it goes on or is wrong -/
def numb (tl : Nat) (tx : Nat → Int32) (a d : Nat) (lo hi no sg : Int32) : Bool × Nat :=
  if dgN tl tx a d = 0 then (false, a)
  else if a + dgN tl tx a d < tl ∧ okN (tx (a + dgN tl tx a d)) 48 57 = true then (false, a + dgN tl tx a d)
  else if (okN (nbN tx a (dgN tl tx a d)) lo hi) = false ∨ nbN tx a (dgN tl tx a d) = no then (false, a)
  else if a + dgN tl tx a d < tl ∧ tx (a + dgN tl tx a d) = sg then (true, a + dgN tl tx a d + 1)
  else (false, a + dgN tl tx a d)
end FA
end
section
/-! WHAT THE REFERENCE'S METHODS DO (the rest) -/
section CN
def GS (S : Sx) : Prop := ∃ t, t ≤ 2000 ∧ S 0 = nI t ∧ WF (6 * t) S ∧ ∀ k, 517 ≤ k → S k = 0
def GZ (Z : Zs) : Prop := GS Z.1 ∧ ∀ i, i < Z.2.1 → GS (Z.2.2.1 i)
theorem st_s {M : fw_M} {a k : Nat} {v : Int32} : (fw_st M a k v).1 a k = v := by rw [st_row, row_1, upd_s]
theorem st_n {M : fw_M} {a k j : Nat} {v : Int32} (h : j ≠ k) : (fw_st M a k v).1 a j = M.1 a j := by rw [st_row, row_1, upd_n h]
theorem st_o {M : fw_M} {a b k : Nat} {v : Int32} (h : b ≠ a) : (fw_st M a k v).1 b = M.1 b := by rw [st_row, row_n h]
theorem GZ_wf {Z : Zs} (h : GZ Z) : ∃ t, t ≤ 2000 ∧ Z.1 0 = nI t ∧ WF (6 * t) Z.1 := by
  obtain ⟨t, h1, h2, h3, -⟩ := h.1
  exact ⟨t, h1, h2, h3⟩
end CN
end
section
/-! THE REFERENCE'S METHODS WALKED: the rest, 1 -/
section WR
theorem zrP_lo {S : Sx} {p k : Nat} (h : k < 37) : ∀ w, zrP S p w k = S k := by
  intro w
  induction w with
  | zero => rfl
  | succ w ih => unfold zrP; rw [uP_lo h, ih]
end WR
end
section
/-! NOTHING BEHIND THE ROW CHANGES -/
section HI
theorem uC_hi {S : Sx} {c w k : Nat} {v : Int32} (hc : c < 6) (hw : w < 5) (hk : 517 ≤ k) : uC S c w v k = S k := upd_n (by omega)
theorem uP_hi {S : Sx} {p w k : Nat} {v : Int32} (hp : p < 24) (hw : w < 20) (hk : 517 ≤ k) : uP S p w v k = S k := upd_n (by omega)
theorem frS_hi {S : Sx} {c k : Nat} (hc : c < 6) (hk : 517 ≤ k) : frS S c k = S k := by
  unfold frS; rw [uC_hi hc (by decide) hk, uC_hi hc (by decide) hk]
theorem shW_hi {S : Sx} {p k : Nat} {m : Int32} (hp : p < 24) (hk : 517 ≤ k) : ∀ i, i ≤ 6 → shW S p m i k = S k := by
  intro i
  induction i with
  | zero => intro _; rfl
  | succ i ih => intro hi; unfold shW; rw [uP_hi hp (by omega) hk, ih (by omega)]
theorem tipW_hi {S : Sx} {p k : Nat} (hk : 517 ≤ k) : ∀ i, i ≤ 6 → tipW S p i k = S k := by
  intro i
  induction i with
  | zero => intro _; rfl
  | succ i ih => intro hi; unfold tipW; rw [uC_hi (by omega) (by decide) hk, ih (by omega)]
theorem shareS_hi {S : Sx} {p k : Nat} {m : Int32} (hp : p < 24) (hn : cn S ≤ 6) (hk : 517 ≤ k) : shareS S p m k = S k := by
  unfold shareS; rw [tipW_hi hk _ hn, shW_hi hp hk 6 (Nat.le_refl 6)]
theorem delS_hi {S : Sx} {c p k : Nat} (hc : c < 6) (hp : p < 24) (hn : cn S ≤ 6) (hk : 517 ≤ k) : delS S c p k = S k := by
  rw [delS_eq, frS_hi hc hk, shareS_hi hp (by rw [cn_eq (dl1_lo (by decide))]; exact hn) hk]
  unfold dl1
  rw [upd_n (by omega), uP_hi hp (by decide) hk, uP_hi hp (by decide) hk, uP_hi hp (by decide) hk]
theorem legS_hi {S : Sx} {c p k : Nat} {z : Int32} (hc : c < 6) (hp : p < 24) (hk : 517 ≤ k) : legS S c p z k = S k := by
  unfold legS
  rw [uP_hi hp (by omega) hk, uP_hi hp (by decide) hk, upd_n (by omega), uC_hi hc (by decide) hk]
theorem carS_hi {S : Sx} {c p k : Nat} (hc : c < 6) (hp : p < 24) (hn : cn S ≤ 6) (hk : 517 ≤ k) : carS S c p k = S k := by
  unfold carS
  split
  · split
    · rw [delS_hi hc hp (by rw [cn_eq (legS_lo (by decide))]; exact hn) hk, legS_hi hc hp hk]
    · exact legS_hi hc hp hk
  · rw [frS_hi hc hk, upd_n (by omega), uP_hi hp (by decide) hk]
theorem goS_hi {S : Sx} {c p k : Nat} (hc : c < 6) (hp : p < 24) (hk : 517 ≤ k) : goS S c p k = S k := by
  unfold goS
  split
  · rw [uP_hi hp (by decide) hk, uC_hi hc (by decide) hk]
  · rw [upd_n (by omega), uC_hi hc (by decide) hk]
theorem chS_hi {S : Sx} {c k : Nat} (hc : c < 6) (hk : 517 ≤ k) : chS S c k = S k := by
  unfold chS; rw [uC_hi hc (by decide) hk, uC_hi hc (by decide) hk]
theorem actS_hi {b : Nat} {S : Sx} {c k : Nat} (h : WF b S) (hc : c < cn S) (hk : 517 ≤ k) : actS S c k = S k := by
  have hn := h.2.1
  have hm := h.2.2.2.1
  unfold actS
  split
  · rename_i e
    obtain ⟨p, hp, -, e2⟩ := WF_with h hc (by rw [e]; decide)
    rw [e2]; exact carS_hi (by omega) (by omega) hn hk
  · split
    · rename_i e
      obtain ⟨p, hp, -, e2⟩ := WF_with h hc (by rw [e.1]; decide)
      rw [e2]; exact goS_hi (by omega) (by omega) hk
    · exact chS_hi (by omega) hk
theorem actW_hi {b : Nat} {S : Sx} {k : Nat} (h : WF b S) (hk : 517 ≤ k) : ∀ i, i ≤ cn S → actW S i k = S k := by
  intro i
  induction i with
  | zero => intro _; rfl
  | succ i ih =>
    intro hi
    unfold actW
    have hw := WF_actW h i (by omega)
    rw [actS_hi hw (by rw [cn_eq (actW_lo (by decide) i)]; omega) hk, ih (by omega)]
theorem frW_hi {S : Sx} {p k : Nat} (hk : 517 ≤ k) : ∀ i, i ≤ 6 → frW S p i k = S k := by
  intro i
  induction i with
  | zero => intro _; rfl
  | succ i ih =>
    intro hi
    unfold frW
    split
    · rw [frS_hi (by omega) hk, ih (by omega)]
    · exact ih (by omega)
theorem faiS_hi {S : Sx} {p k : Nat} (hp : p < 24) (hn : cn S ≤ 6) (hk : 517 ≤ k) : faiS S p k = S k := by
  unfold faiS; rw [frW_hi hk _ hn, uP_hi hp (by decide) hk]
theorem flW_hi {S : Sx} {k : Nat} (hn : cn S ≤ 6) (hk : 517 ≤ k) : ∀ i, i ≤ 24 → flW S i k = S k := by
  intro i
  induction i with
  | zero => intro _; rfl
  | succ i ih =>
    intro hi
    unfold flW
    split
    · rw [faiS_hi (by omega) (by rw [cn_eq (flW_lo (by decide) i)]; exact hn) hk, ih (by omega)]
    · exact ih (by omega)
theorem tickS_hi {b : Nat} {S : Sx} {k : Nat} (h : WF b S) (hk : 517 ≤ k) : tickS S k = S k := by
  have e : cn (upd S 0 (S 0 + 1)) = cn S := cn_eq (upd_n (by decide))
  have hw := WF_time (S 0 + 1) h
  have hA : cn (tkA S) = cn S := cn_eq (tkA_lo (by decide) (by decide))
  unfold tickS
  rw [flW_hi (by rw [hA]; exact h.2.1) hk _ (by first | exact h.2.2.2.1 | (rw [pn_eq (tkA_lo (by decide) (by decide))]; exact h.2.2.2.1))]
  unfold tkA
  rw [← e, actW_hi hw hk _ (Nat.le_refl _), upd_n (by omega)]
theorem tkN_hi {b : Nat} {S : Sx} {k : Nat} (h : WF b S) (hk : 517 ≤ k) : ∀ n, tkN S n k = S k := by
  intro n
  induction n with
  | zero => rfl
  | succ n ih => unfold tkN; rw [tickS_hi (WF_tkN h n) hk, ih]
/-! the time -/
theorem tickS_0 {S : Sx} : tickS S 0 = S 0 + 1 := by
  unfold tickS tkA
  rw [flW_lo (by decide), actW_lo (by decide), upd_s]
theorem tkN_0 {S : Sx} {t : Nat} (h : S 0 = nI t) : ∀ n, tkN S n 0 = nI (t + n) := by
  intro n
  induction n with
  | zero => exact h
  | succ n ih => unfold tkN; rw [tickS_0, ih, nI_1]; rfl
theorem tkN_lo {S : Sx} {k : Nat} (h : k < 4) (h0 : k ≠ 0) : ∀ n, tkN S n k = S k := by
  intro n
  induction n with
  | zero => rfl
  | succ n ih => unfold tkN; rw [tickS_lo h h0, ih]
theorem GS_tkN {S : Sx} {n t : Nat} (h : WF (6 * t) S) (h0 : S 0 = nI t) (hz : ∀ k, 517 ≤ k → S k = 0) (ht : t + n ≤ 2000) : GS (tkN S n) := by
  refine ⟨t + n, ht, tkN_0 h0 n, ?_, fun k hk => by rw [tkN_hi h hk]; exact hz k hk⟩
  rw [Nat.mul_add]
  exact WF_tkN h n
/-! what the calls of the face leave well -/
theorem WF_area {b : Nat} {S : Sx} {c : Nat} {v : Int32} (h : WF b S) (hc : c < 6) : WF b (uC S c 0 v) := by
  obtain ⟨h2, hn, h3, hm, hC, hU, hP⟩ := h
  have e2 : cn (uC S c 0 v) = cn S := cn_eq (uC_lo (by decide))
  have e3 : pn (uC S c 0 v) = pn S := pn_eq (uC_lo (by decide))
  have eC : ∀ d x, x < 5 → x ≠ 0 → sC (uC S c 0 v) d x = sC S d x := fun d x hx h0 => by rw [gCC hx (by decide), if_neg (fun z => h0 z.2)]
  have eP : ∀ p x, sP (uC S c 0 v) p x = sP S p x := fun p x => gPC hc (by decide)
  refine ⟨by rw [e2, uC_lo (by decide)]; exact h2, by rw [e2]; exact hn, by rw [e3, uC_lo (by decide)]; exact h3, by rw [e3]; exact hm, fun d hd => ?_, fun d e hd he => ?_, fun p hp => ?_⟩
  · rw [e2] at hd
    have := hC d hd
    unfold WFc at this ⊢
    rw [eC d 1 (by decide) (by decide), eC d 3 (by decide) (by decide), eC d 4 (by decide) (by decide), e3]
    simp only [eP]
    exact this
  · rw [e2] at hd he
    rw [eC d 3 (by decide) (by decide), eC e 3 (by decide) (by decide), eC d 4 (by decide) (by decide), eC e 4 (by decide) (by decide)]
    exact hU d e hd he
  · rw [e3] at hp
    have := hP p hp
    unfold WFp at this ⊢
    simp only [eP]
    exact this
theorem WF_grace {b : Nat} {S : Sx} {v : Int32} (h : WF b S) : WF b (upd S 1 v) := by
  obtain ⟨h2, hn, h3, hm, hC, hU, hP⟩ := h
  have e2 : cn (upd S 1 v) = cn S := cn_eq (upd_n (by decide))
  have e3 : pn (upd S 1 v) = pn S := pn_eq (upd_n (by decide))
  have eC : ∀ d x, sC (upd S 1 v) d x = sC S d x := fun d x => gCu (by decide)
  have eP : ∀ p x, sP (upd S 1 v) p x = sP S p x := fun p x => gPu (by decide)
  refine ⟨by rw [e2, upd_n (by decide)]; exact h2, by rw [e2]; exact hn, by rw [e3, upd_n (by decide)]; exact h3, by rw [e3]; exact hm, fun d hd => ?_, fun d e hd he => ?_, fun p hp => ?_⟩
  · rw [e2] at hd
    have := hC d hd
    unfold WFc at this ⊢
    simp only [eC, eP, e3]
    exact this
  · rw [e2] at hd he
    simp only [eC]
    exact hU d e hd he
  · rw [e3] at hp
    have := hP p hp
    unfold WFp at this ⊢
    simp only [eP]
    exact this
theorem WF_frs {b : Nat} {S : Sx} {c : Nat} (h : WF b S) (hc : c < cn S) : WF b (frS S c) := by
  have hn := h.2.1
  refine WF_step (S := S) h hc (frS_lo (by decide)) (frS_lo (by decide)) (fun d hd hne => ?_) ?_ (Or.inl ?_) (fun q hq => ?_) (fun z => ?_) (fun q hq => ?_)
  · refine ⟨?_, ?_, ?_⟩ <;> rw [frS_C (by decide), if_neg (by omega), if_neg (by omega)]
  · obtain ⟨z, hz, ez⟩ := (h.2.2.2.2.1 c hc).1
    exact ⟨z, hz, by rw [frS_C (by decide), if_neg (by omega), if_neg (by omega)]; exact ez⟩
  · refine ⟨?_, ?_⟩
    · rw [frS_C (by decide), if_neg (by omega), if_pos ⟨rfl, rfl⟩]
    · rw [frS_C (by decide), if_pos ⟨rfl, rfl⟩]
  · exact Or.inl (frS_P (by omega))
  · exfalso
    rw [frS_C (by decide), if_neg (by omega), if_pos ⟨rfl, rfl⟩] at z
    exact absurd z (by decide)
  · exact WFp_le (Nat.le_refl b) (h.2.2.2.2.2.2 q hq) (fun x hx k4 k6 k7 => frS_P (by omega)) (by rw [frS_P (by omega)]; exact (h.2.2.2.2.2.2 q hq).2.2.2.1)
theorem WF_dr {b : Nat} {S : Sx} {c : Nat} (h : WF b S) (hc : c < cn S) : WF b (drS S c) := by
  have hn := h.2.1
  unfold drS
  split
  · rename_i e
    obtain ⟨p, hp, e4, e2⟩ := WF_with h hc (by rw [e]; decide)
    have hw := WF_frees h hc e e4 hp (S 4)
    rw [show upd (uP S p 4 0) 4 (S 4) = uP S p 4 0 from by
      refine funext fun k => ?_
      by_cases z : k = 4
      · subst z; rw [upd_s, uP_lo (by decide)]
      · rw [upd_n z]] at hw
    rw [e2]; exact hw
  · exact WF_frs h hc
theorem drS_hi {b : Nat} {S : Sx} {c k : Nat} (h : WF b S) (hc : c < cn S) (hk : 517 ≤ k) : drS S c k = S k := by
  have hn := h.2.1
  have hm := h.2.2.2.1
  unfold drS
  rw [frS_hi (by omega) hk]
  split
  · rename_i e
    obtain ⟨p, hp, e4, e2⟩ := WF_with h hc (by rw [e]; decide)
    rw [e2, uP_hi (by omega) (by decide) hk]
  · rfl
theorem drS_lo {S : Sx} {c k : Nat} (h : k < 7) : drS S c k = S k := by
  unfold drS
  rw [frS_lo h]
  split
  · rw [uP_lo (by omega)]
  · rfl
theorem nI_suc {x : Int32} {n : Nat} (h : x = nI n) : x + 1 = nI (n + 1) := by rw [h, nI_1]
theorem WF_add {b : Nat} {S : Sx} {ar : Int32} {z : Nat} (h : WF b S) (hc : cn S < 6) (hz : z < 16) : WF b (addS S ar (nI z)) := by
  obtain ⟨h2, hn, h3, hm, hC, hU, hP⟩ := h
  have f2 : addS S ar (nI z) 2 = nI (cn S + 1) := by unfold addS; rw [upd_s]; exact nI_suc h2
  have f3 : addS S ar (nI z) 3 = S 3 := by unfold addS; rw [upd_n (by decide), frS_lo (by decide), uC_lo (by decide), uC_lo (by decide), uC_lo (by decide)]
  have e2 : cn (addS S ar (nI z)) = cn S + 1 := by unfold cn; rw [f2, n_cl (by unfold cn at hc; omega)]; rfl
  have e3 : pn (addS S ar (nI z)) = pn S := pn_eq f3
  have eP : ∀ p x, sP (addS S ar (nI z)) p x = sP S p x := fun p x => by
    unfold addS; rw [gPu (by decide), frS_P (by omega), gPC (by omega) (by decide), gPC (by omega) (by decide), gPC (by omega) (by decide)]
  have eC : ∀ d x, x < 5 → sC (addS S ar (nI z)) d x = if d = cn S then (if x = 4 then -1 else if x = 3 then 0 else if x = 2 then 0 else if x = 1 then nI z else ar) else sC S d x := fun d x hx => by
    unfold addS
    rw [gCu (by decide), frS_C hx, gCC hx (by decide), gCC hx (by decide), gCC hx (by decide)]
    by_cases e : d = cn S
    · subst e
      rw [if_pos rfl]
      rcases (show x = 0 ∨ x = 1 ∨ x = 2 ∨ x = 3 ∨ x = 4 by omega) with y | y | y | y | y <;> subst y <;> simp
    · simp only [e, false_and, if_false]
  refine ⟨by rw [e2]; exact f2, by rw [e2]; omega, by rw [e3, f3]; exact h3, by rw [e3]; exact hm, fun d hd => ?_, fun d e hd he => ?_, fun p hp => ?_⟩
  · rw [e2] at hd
    unfold WFc
    rw [eC d 1 (by decide), eC d 3 (by decide), eC d 4 (by decide), e3]
    simp only [eP]
    by_cases e : d = cn S
    · subst e
      exact ⟨⟨z, hz, by simp⟩, Or.inl ⟨by simp, by simp⟩⟩
    · simp only [if_neg e]
      exact hC d (by omega)
  · rw [e2] at hd he
    rw [eC d 3 (by decide), eC e 3 (by decide), eC d 4 (by decide), eC e 4 (by decide)]
    by_cases g : d = cn S
    · simp only [if_pos g]; intro y; exact absurd (show (0 : Int32) = 2 from y) (by decide)
    · by_cases g2 : e = cn S
      · simp only [if_pos g2]; intro _ y; exact absurd (show (0 : Int32) = 2 from y) (by decide)
      · simp only [if_neg g, if_neg g2]
        exact hU d e (by omega) (by omega)
  · rw [e3] at hp
    have := hP p hp
    unfold WFp at this ⊢
    simp only [eP]
    exact this
theorem add_hi {S : Sx} {ar z : Int32} {k : Nat} (hc : cn S < 6) (hk : 517 ≤ k) : addS S ar z k = S k := by
  unfold addS
  rw [upd_n (by omega), frS_hi hc hk, uC_hi hc (by decide) hk, uC_hi hc (by decide) hk, uC_hi hc (by decide) hk]
theorem zrP_C {S : Sx} {p d x : Nat} (hd : d < 6) (hx : x < 5) : ∀ w, sC (zrP S p w) d x = sC S d x := by
  intro w
  induction w with
  | zero => rfl
  | succ w ih => unfold zrP; rw [gCP hd hx, ih]
theorem zrP_P {S : Sx} {p q x : Nat} (hx : x < 20) : ∀ w, w ≤ 20 → sP (zrP S p w) q x = if q = p ∧ x < w then 0 else sP S q x := by
  intro w
  induction w with
  | zero => intro _; rw [if_neg (by omega)]; rfl
  | succ w ih =>
    intro hw
    unfold zrP
    rw [gPP hx (by omega), ih (by omega)]
    by_cases e : q = p ∧ x = w
    · rw [if_pos e, if_pos (by omega)]
    · rw [if_neg e]
      by_cases e2 : q = p ∧ x < w
      · rw [if_pos e2, if_pos (by omega)]
      · rw [if_neg e2, if_neg (by omega)]
theorem zrP_hi {S : Sx} {p k : Nat} (hp : p < 24) (hk : 517 ≤ k) : ∀ w, w ≤ 20 → zrP S p w k = S k := by
  intro w
  induction w with
  | zero => intro _; rfl
  | succ w ih => intro hw; unfold zrP; rw [uP_hi hp (by omega) hk, ih (by omega)]
theorem com_hi {S : Sx} {o g x t : Int32} {k : Nat} (hp : pn S < 24) (hk : 517 ≤ k) : comS S o g x t k = S k := by
  unfold comS
  rw [upd_n (by omega), uP_hi hp (by decide) hk, uP_hi hp (by decide) hk, uP_hi hp (by decide) hk, uP_hi hp (by decide) hk, uP_hi hp (by decide) hk, uP_hi hp (by decide) hk, zrP_hi hp hk 20 (Nat.le_refl _)]
theorem com_lo {S : Sx} {o g x t : Int32} {k : Nat} (hk : k < 7) (h3 : k ≠ 3) : comS S o g x t k = S k := by
  unfold comS
  rw [upd_n h3, uP_lo (by omega), uP_lo (by omega), uP_lo (by omega), uP_lo (by omega), uP_lo (by omega), uP_lo (by omega), zrP_lo (by omega)]
theorem com_P {S : Sx} {o g y t : Int32} {q x : Nat} (hx : x < 20) : sP (comS S o g y t) q x = if q = pn S then (if x = 0 then o else if x = 1 then g else if x = 2 then y else if x = 3 then t else if x = 5 then o else if x = 6 then -1 else 0) else sP S q x := by
  unfold comS
  rw [gPu (by decide), gPP hx (by decide), gPP hx (by decide), gPP hx (by decide), gPP hx (by decide), gPP hx (by decide), gPP hx (by decide), zrP_P hx 20 (Nat.le_refl _)]
  by_cases e : q = pn S
  · simp only [e, true_and, if_true, if_pos hx]
    by_cases x0 : x = 0
    · subst x0; simp
    by_cases x1 : x = 1
    · subst x1; simp
    by_cases x2 : x = 2
    · subst x2; simp
    by_cases x3 : x = 3
    · subst x3; simp
    by_cases x5 : x = 5
    · subst x5; simp
    by_cases x6 : x = 6
    · subst x6; simp
    simp only [if_neg x0, if_neg x1, if_neg x2, if_neg x3, if_neg x5, if_neg x6]
  · simp only [e, false_and, if_false]
theorem com_C {S : Sx} {o g y t : Int32} {d x : Nat} (hd : d < 6) (hx : x < 5) : sC (comS S o g y t) d x = sC S d x := by
  unfold comS
  rw [gCu (by decide), gCP hd hx, gCP hd hx, gCP hd hx, gCP hd hx, gCP hd hx, gCP hd hx, zrP_C hd hx]
theorem WF_com {b : Nat} {S : Sx} {o g y t : Nat} (h : WF b S) (hp : pn S < 24) (ho : o < 16) (hg : g < 16) (hne : o ≠ g) (hy : 1 ≤ y) (hy2 : y ≤ 999) (ht : t ≤ 1000) : WF b (comS S (nI o) (nI g) (nI y) (nI t)) := by
  obtain ⟨h2, hn, h3, hm, hC, hU, hP⟩ := h
  have f3 : comS S (nI o) (nI g) (nI y) (nI t) 3 = nI (pn S + 1) := by unfold comS; rw [upd_s]; exact nI_suc h3
  have f2 : comS S (nI o) (nI g) (nI y) (nI t) 2 = S 2 := com_lo (by decide) (by decide)
  have e2 : cn (comS S (nI o) (nI g) (nI y) (nI t)) = cn S := cn_eq f2
  have e3 : pn (comS S (nI o) (nI g) (nI y) (nI t)) = pn S + 1 := by unfold pn; rw [f3, n_cl (by unfold pn at hp; omega)]; rfl
  refine ⟨by rw [e2, f2]; exact h2, by rw [e2]; exact hn, by rw [e3]; exact f3, by rw [e3]; omega, fun d hd => ?_, fun d e hd he => ?_, fun p hp => ?_⟩
  · rw [e2] at hd
    have := hC d hd
    unfold WFc at this ⊢
    rw [com_C (by omega) (by decide), com_C (by omega) (by decide), com_C (by omega) (by decide), e3]
    refine ⟨this.1, ?_⟩
    rcases this.2 with z | ⟨p, z1, z2, z3⟩
    · exact Or.inl z
    · refine Or.inr ⟨p, by omega, z2, ?_⟩
      rw [com_P (by decide), if_neg (by omega)]
      exact z3
  · rw [e2] at hd he
    rw [com_C (by omega) (by decide), com_C (by omega) (by decide), com_C (by omega) (by decide), com_C (by omega) (by decide)]
    exact hU d e hd he
  · rw [e3] at hp
    by_cases e : p = pn S
    · unfold WFp
      rw [com_P (by decide), com_P (by decide), com_P (by decide), com_P (by decide), com_P (by decide), com_P (by decide)]
      simp only [if_pos e]
      refine ⟨⟨o, g, ho, hg, hne, rfl, rfl⟩, ⟨y, hy, hy2, rfl⟩, ⟨t, ht, rfl⟩, ⟨0, by decide, rfl⟩, ⟨o, ho, rfl⟩, fun c hc => ⟨0, by omega, ?_⟩⟩
      rw [com_P (by omega), if_pos e, if_neg (by omega), if_neg (by omega), if_neg (by omega), if_neg (by omega), if_neg (by omega), if_neg (by omega)]
      rfl
    · have := hP p (by omega)
      unfold WFp at this ⊢
      rw [com_P (by decide), com_P (by decide), com_P (by decide), com_P (by decide), com_P (by decide), com_P (by decide)]
      simp only [if_neg e]
      refine ⟨this.1, this.2.1, this.2.2.1, this.2.2.2.1, this.2.2.2.2.1, fun c hc => ?_⟩
      rw [com_P (by omega), if_neg e]
      exact this.2.2.2.2.2 c hc
theorem GS_wf {S : Sx} (h : GS S) : ∃ t, t ≤ 2000 ∧ WF (6 * t) S := by
  obtain ⟨t, a, -, b, -⟩ := h
  exact ⟨t, a, b⟩
theorem GS_up {S S' : Sx} (h : GS S) (h0 : S' 0 = S 0) (hw : ∀ b, WF b S → WF b S') (hz : ∀ k, 517 ≤ k → S' k = S k) : GS S' := by
  obtain ⟨t, a1, a2, a3, a4⟩ := h
  exact ⟨t, a1, by rw [h0]; exact a2, hw _ a3, fun k hk => by rw [hz k hk]; exact a4 k hk⟩
end HI
end
section
/-! THE REFERENCE'S METHODS WALKED: the rest, 2 -/
section WR2
theorem n4s : fw_sd (¬ (4 : Int32) = 0) := fw_sd_i (by decide)
end WR2
end
section
/-! THE REFERENCE'S METHODS WALKED: the face -/
section WR3
theorem ok_n {x : Int32} {a b : Nat} (ha : a ≤ b) (hb : b < 2 ^ 31) (h : okN x (nI a) (nI b) = true) : ∃ k, a ≤ k ∧ k ≤ b ∧ x = nI k ∧ x.toNatClampNeg = k := by
  unfold okN at h
  simp only [Bool.and_eq_true, decide_eq_true_eq] at h
  obtain ⟨h1, h2⟩ := h
  have h0 : (0 : Int32) ≤ x := by
    rw [Int32.le_iff_toInt_le] at h1 ⊢
    rw [nI_toInt (by omega)] at h1
    have : (0 : Int32).toInt = 0 := by decide
    omega
  obtain ⟨k, hl, rfl⟩ := nI_of (Int32.not_lt.mpr h0)
  rw [n_ge (by omega) hl] at h1
  rw [n_ge hl hb] at h2
  exact ⟨k, h1, h2, rfl, n_cl hl⟩
theorem ok_m {x : Int32} {n : Nat} (hn : n < 2 ^ 31) (h : okN x 0 (nI n - 1) = true) : ∃ k, k < n ∧ x = nI k ∧ x.toNatClampNeg = k := by
  cases n with
  | zero =>
    exfalso
    unfold okN at h
    simp only [Bool.and_eq_true, decide_eq_true_eq] at h
    exact absurd (Int32.le_trans h.1 h.2) (by decide)
  | succ n =>
    have e : nI (n + 1) - 1 = nI n := by rw [show (1 : Int32) = nI 1 from rfl, pk_sub (by omega), Nat.add_sub_cancel]
    rw [e] at h
    obtain ⟨k, -, h2, h3, h4⟩ := ok_n (a := 0) (by omega) (by omega) h
    exact ⟨k, by omega, h3, h4⟩
theorem isCr_n {b : Nat} {S : Sx} {c : Int32} (h : WF b S) (hc : isCr S c = true) : ∃ k, k < cn S ∧ c = nI k ∧ c.toNatClampNeg = k := by
  have hn := h.2.1
  unfold isCr at hc
  rw [h.1] at hc
  exact ok_m (by omega) hc
theorem isPc_n {b : Nat} {S : Sx} {p : Int32} (h : WF b S) (hp : isPc S p = true) : ∃ k, k < pn S ∧ p = nI k ∧ p.toNatClampNeg = k := by
  have hn := h.2.2.2.1
  unfold isPc at hp
  rw [h.2.2.1] at hp
  exact ok_m (by omega) hp
end WR3
end
section
/-! THE TEXT AND THE DIGEST: what they answer -/
section PD
/-! the digest -/
def mixh (h : Int64) (v : Int32) : Int64 := 31 * h + v.toInt64
def mixN (h : Int64) (f : Nat → Int32) : Nat → Int64
  | 0 => h
  | n + 1 => mixh (mixN h f n) (f n)
def dgC (S : Sx) (h : Int64) : Nat → Int64
  | 0 => h
  | c + 1 => mixN (dgC S h c) (fun w => crS S c w) 6
def dgL (S : Sx) (p : Nat) (h : Int64) : Nat → Int64
  | 0 => h
  | c + 1 => mixh (mixh (dgL S p h c) (sP S p (8 + c))) (sP S p (14 + c))
def dgP (S : Sx) (h : Int64) : Nat → Int64
  | 0 => h
  | p + 1 => dgL S p (mixN (dgP S h p) (fun w => paS S p w) 9) (cn S)
def dg1 (Z : Zs) : Int64 := mixN (mixh 3313 (nI Z.2.2.2.1)) (valS Z.1) 11
def dgst (Z : Zs) : Int64 := mixh (dgP Z.1 (dgC Z.1 (dg1 Z) (cn Z.1)) (pn Z.1)) (nI Z.2.1)
/-! how far: bounds -/
end PD
end
section
/-! THE CLASS: where an exchange lies, and how it holds a state -/
section CL
def EX (B x : Nat) : Prop := ∃ o, o ∈ [1, 82, 165, 246, 327, 408] ∧ x = B + o
theorem EX_kd {B x r k : Nat} (h : EX B x) (hr : ∀ o, o ∈ [1, 82, 165, 246, 327, 408] → fw_ko (o + r) = k) : fw_kd B (x + r) = k := by
  obtain ⟨o, ho, rfl⟩ := h
  rw [Nat.add_assoc]
  exact kd_at (hr o ho)
theorem tC : ∀ c, c < 6 → ∀ o, o ∈ [1, 82, 165, 246, 327, 408] → fw_ko (o + (3 + c)) = 0 := by decide
theorem tP : ∀ p, p < 24 → ∀ o, o ∈ [1, 82, 165, 246, 327, 408] → fw_ko (o + (9 + 3 * p)) = 3 := by decide
theorem tL : ∀ p, p < 24 → ∀ o, o ∈ [1, 82, 165, 246, 327, 408] → fw_ko (o + (9 + 3 * p + 1)) = 7 := by decide
theorem tS : ∀ p, p < 24 → ∀ o, o ∈ [1, 82, 165, 246, 327, 408] → fw_ko (o + (9 + 3 * p + 2)) = 7 := by decide
theorem kX {B x : Nat} (h : EX B x) : fw_kd B x = 1 := EX_kd (r := 0) h (by decide)
theorem kXc {B x : Nat} (h : EX B x) : fw_kd B (x + 1) = 8 := EX_kd h (by decide)
theorem kXp {B x : Nat} (h : EX B x) : fw_kd B (x + 2) = 10 := EX_kd h (by decide)
theorem kC {B x c : Nat} (h : EX B x) (hc : c < 6) : fw_kd B (x + 3 + c) = 0 := by rw [Nat.add_assoc]; exact EX_kd h (tC c hc)
theorem kP {B x p : Nat} (h : EX B x) (hp : p < 24) : fw_kd B (x + 9 + 3 * p) = 3 := by rw [Nat.add_assoc]; exact EX_kd h (tP p hp)
theorem kL {B x p : Nat} (h : EX B x) (hp : p < 24) : fw_kd B (x + 9 + 3 * p + 1) = 7 := by
  rw [show x + 9 + 3 * p + 1 = x + (9 + 3 * p + 1) by omega]; exact EX_kd h (tL p hp)
theorem kS {B x p : Nat} (h : EX B x) (hp : p < 24) : fw_kd B (x + 9 + 3 * p + 2) = 7 := by
  rw [show x + 9 + 3 * p + 2 = x + (9 + 3 * p + 2) by omega]; exact EX_kd h (tS p hp)
theorem EX_len {B x r : Nat} (h : EX B x) (hr : r < 81) : fw_len B (x + r) = 6 := by
  obtain ⟨o, ho, rfl⟩ := h
  have : o ≤ 408 := by
    simp only [List.mem_cons, List.not_mem_nil, or_false] at ho
    omega
  unfold fw_len fw_lo
  rw [if_pos (by omega)]
theorem lL {B x p : Nat} (h : EX B x) (hp : p < 24) : fw_len B (x + 9 + 3 * p + 1) = 6 := by
  rw [show x + 9 + 3 * p + 1 = x + (9 + 3 * p + 1) by omega]; exact EX_len h (by omega)
theorem lS {B x p : Nat} (h : EX B x) (hp : p < 24) : fw_len B (x + 9 + 3 * p + 2) = 6 := by
  rw [show x + 9 + 3 * p + 2 = x + (9 + 3 * p + 2) by omega]; exact EX_len h (by omega)
/-- a parcel and its rows -/
def PK (B a : Nat) : Prop := fw_kd B a = 3 ∧ fw_kd B (a + 1) = 7 ∧ fw_kd B (a + 2) = 7 ∧ fw_len B (a + 1) = 6 ∧ fw_len B (a + 2) = 6
theorem PK_of {B x p : Nat} (h : EX B x) (hp : p < 24) : PK B (x + 9 + 3 * p) := ⟨kP h hp, kL h hp, kS h hp, lL h hp, lS h hp⟩
/-! the places -/
def lo1 (x j : Nat) : Nat := if j < 7 then x else if j < 37 then x + 3 + (j - 7) / 5 else x + 9 + 3 * ((j - 37) / 20) + (if (j - 37) % 20 < 8 then 0 else if (j - 37) % 20 < 14 then 1 else 2)
def lo2 (j : Nat) : Nat := if j < 4 then j else if j = 4 then 5 else if j = 5 then 6 else if j = 6 then 4 else if j < 37 then (j - 7) % 5 else if (j - 37) % 20 < 8 then (j - 37) % 20 else if (j - 37) % 20 < 14 then (j - 37) % 20 - 8 else (j - 37) % 20 - 14
theorem lo_inj {x i j : Nat} (hi : i < 517) (hj : j < 517) (h1 : lo1 x i = lo1 x j) (h2 : lo2 i = lo2 j) : i = j := by
  unfold lo1 at h1
  unfold lo2 at h2
  by_cases a : i < 7
  · rw [if_pos a] at h1
    by_cases b : j < 7
    · rcases (show i = 0 ∨ i = 1 ∨ i = 2 ∨ i = 3 ∨ i = 4 ∨ i = 5 ∨ i = 6 by omega) with y | y | y | y | y | y | y <;> subst y <;>
      rcases (show j = 0 ∨ j = 1 ∨ j = 2 ∨ j = 3 ∨ j = 4 ∨ j = 5 ∨ j = 6 by omega) with z | z | z | z | z | z | z <;> subst z <;> simp at h2 ⊢
    · rw [if_neg b] at h1
      split at h1 <;> omega
  · rw [if_neg a] at h1
    by_cases b : j < 7
    · rw [if_pos b] at h1
      split at h1 <;> omega
    · rw [if_neg b] at h1
      rw [if_neg (by omega), if_neg (by omega), if_neg (by omega), if_neg (by omega), if_neg (by omega : ¬ j < 4), if_neg (by omega : ¬ j = 4), if_neg (by omega : ¬ j = 5), if_neg (by omega : ¬ j = 6)] at h2
      by_cases c : i < 37
      · rw [if_pos c] at h1 h2
        by_cases d : j < 37
        · rw [if_pos d] at h1 h2; omega
        · rw [if_neg d] at h1; omega
      · rw [if_neg c] at h1 h2
        by_cases d : j < 37
        · rw [if_pos d] at h1; omega
        · rw [if_neg d] at h1 h2
          by_cases e1 : (i - 37) % 20 < 8
          · rw [if_pos e1] at h1 h2
            by_cases f1 : (j - 37) % 20 < 8
            · rw [if_pos f1] at h1 h2; omega
            · rw [if_neg f1] at h1 h2
              by_cases f2 : (j - 37) % 20 < 14
              · rw [if_pos f2] at h1 h2; omega
              · rw [if_neg f2] at h1 h2; omega
          · rw [if_neg e1] at h1 h2
            by_cases e2 : (i - 37) % 20 < 14
            · rw [if_pos e2] at h1 h2
              by_cases f1 : (j - 37) % 20 < 8
              · rw [if_pos f1] at h1 h2; omega
              · rw [if_neg f1] at h1 h2
                by_cases f2 : (j - 37) % 20 < 14
                · rw [if_pos f2] at h1 h2; omega
                · rw [if_neg f2] at h1 h2; omega
            · rw [if_neg e2] at h1 h2
              by_cases f1 : (j - 37) % 20 < 8
              · rw [if_pos f1] at h1 h2; omega
              · rw [if_neg f1] at h1 h2
                by_cases f2 : (j - 37) % 20 < 14
                · rw [if_pos f2] at h1 h2; omega
                · rw [if_neg f2] at h1 h2; omega
theorem lo_C {x c w : Nat} (hc : c < 6) (hw : w < 5) : lo1 x (7 + 5 * c + w) = x + 3 + c ∧ lo2 (7 + 5 * c + w) = w := by
  unfold lo1 lo2
  rw [if_neg (by omega), if_pos (by omega), if_neg (by omega), if_neg (by omega), if_neg (by omega), if_neg (by omega), if_pos (by omega)]
  omega
theorem lo_P {x p w : Nat} (hw : w < 8) : lo1 x (37 + 20 * p + w) = x + 9 + 3 * p ∧ lo2 (37 + 20 * p + w) = w := by
  unfold lo1 lo2
  rw [if_neg (by omega), if_neg (by omega), if_pos (by omega), if_neg (by omega), if_neg (by omega), if_neg (by omega), if_neg (by omega), if_neg (by omega), if_pos (by omega)]
  omega
theorem lo_L {x p c : Nat} (hc : c < 6) : lo1 x (37 + 20 * p + (8 + c)) = x + 9 + 3 * p + 1 ∧ lo2 (37 + 20 * p + (8 + c)) = c := by
  unfold lo1 lo2
  rw [if_neg (by omega), if_neg (by omega), if_neg (by omega), if_pos (by omega), if_neg (by omega), if_neg (by omega), if_neg (by omega), if_neg (by omega), if_neg (by omega), if_neg (by omega), if_pos (by omega)]
  omega
theorem lo_S {x p c : Nat} (hc : c < 6) : lo1 x (37 + 20 * p + (14 + c)) = x + 9 + 3 * p + 2 ∧ lo2 (37 + 20 * p + (14 + c)) = c := by
  unfold lo1 lo2
  rw [if_neg (by omega), if_neg (by omega), if_neg (by omega), if_neg (by omega), if_neg (by omega), if_neg (by omega), if_neg (by omega), if_neg (by omega), if_neg (by omega), if_neg (by omega), if_neg (by omega)]
  omega
/-- the exchange at x holds S: all that is in use -/
def Rep (V : Nat → Nat → Int32) (x : Nat) (S : Sx) : Prop := cn S ≤ 6 ∧ pn S ≤ 24 ∧ ∀ j, (j < 7 + 5 * cn S ∨ (37 ≤ j ∧ j < 37 + 20 * pn S)) → V (lo1 x j) (lo2 j) = S j
theorem Rep_up {V : Nat → Nat → Int32} {x i : Nat} {S : Sx} {v : Int32} (h : Rep V x S) (hi : i < 517) (h2 : i ≠ 2) (h3 : i ≠ 3) : Rep (fw_up V (lo1 x i) (lo2 i) v) x (upd S i v) := by
  obtain ⟨hn, hm, h⟩ := h
  have en : cn (upd S i v) = cn S := cn_eq (upd_n (by omega))
  have em : pn (upd S i v) = pn S := pn_eq (upd_n (by omega))
  refine ⟨by rw [en]; exact hn, by rw [em]; exact hm, fun j hj => ?_⟩
  rw [en, em] at hj
  by_cases e : j = i
  · subst e; rw [fw_up_same, upd_s, upd_s]
  · rw [upd_n e, ← h j hj]
    by_cases e1 : lo1 x j = lo1 x i
    · rw [e1, fw_up_same, upd_n (fun e2 => e (lo_inj (by omega) hi e1 e2))]
    · rw [fw_up_ne e1]
theorem Rep_C {V : Nat → Nat → Int32} {x c w : Nat} {S : Sx} {v : Int32} (h : Rep V x S) (hc : c < 6) (hw : w < 5) : Rep (fw_up V (x + 3 + c) w v) x (uC S c w v) := by
  have := Rep_up (i := 7 + 5 * c + w) (v := v) h (by omega) (by omega) (by omega)
  rw [(lo_C hc hw).1, (lo_C (x := x) hc hw).2] at this
  exact this
theorem Rep_P {V : Nat → Nat → Int32} {x p w : Nat} {S : Sx} {v : Int32} (h : Rep V x S) (hp : p < 24) (hw : w < 8) : Rep (fw_up V (x + 9 + 3 * p) w v) x (uP S p w v) := by
  have := Rep_up (i := 37 + 20 * p + w) (v := v) h (by omega) (by omega) (by omega)
  rw [(lo_P hw).1, (lo_P (x := x) hw).2] at this
  exact this
theorem Rep_L {V : Nat → Nat → Int32} {x p c : Nat} {S : Sx} {v : Int32} (h : Rep V x S) (hp : p < 24) (hc : c < 6) : Rep (fw_up V (x + 9 + 3 * p + 1) c v) x (uP S p (8 + c) v) := by
  have := Rep_up (i := 37 + 20 * p + (8 + c)) (v := v) h (by omega) (by omega) (by omega)
  rw [(lo_L hc).1, (lo_L (x := x) hc).2] at this
  exact this
theorem Rep_S {V : Nat → Nat → Int32} {x p c : Nat} {S : Sx} {v : Int32} (h : Rep V x S) (hp : p < 24) (hc : c < 6) : Rep (fw_up V (x + 9 + 3 * p + 2) c v) x (uP S p (14 + c) v) := by
  have := Rep_up (i := 37 + 20 * p + (14 + c)) (v := v) h (by omega) (by omega) (by omega)
  rw [(lo_S hc).1, (lo_S (x := x) hc).2] at this
  exact this
theorem Rep_0 {V : Nat → Nat → Int32} {x : Nat} {S : Sx} {v : Int32} (h : Rep V x S) : Rep (fw_up V x 0 v) x (upd S 0 v) := Rep_up (i := 0) h (by decide) (by decide) (by decide)
theorem Rep_1 {V : Nat → Nat → Int32} {x : Nat} {S : Sx} {v : Int32} (h : Rep V x S) : Rep (fw_up V x 1 v) x (upd S 1 v) := Rep_up (i := 1) h (by decide) (by decide) (by decide)
theorem Rep_4 {V : Nat → Nat → Int32} {x : Nat} {S : Sx} {v : Int32} (h : Rep V x S) : Rep (fw_up V x 4 v) x (upd S 6 v) := Rep_up (i := 6) h (by decide) (by decide) (by decide)
theorem Rep_5 {V : Nat → Nat → Int32} {x : Nat} {S : Sx} {v : Int32} (h : Rep V x S) : Rep (fw_up V x 5 v) x (upd S 4 v) := Rep_up (i := 4) h (by decide) (by decide) (by decide)
theorem Rep_6 {V : Nat → Nat → Int32} {x : Nat} {S : Sx} {v : Int32} (h : Rep V x S) : Rep (fw_up V x 6 v) x (upd S 5 v) := Rep_up (i := 5) h (by decide) (by decide) (by decide)
/-! reading -/
theorem rd {V : Nat → Nat → Int32} {x j : Nat} {S : Sx} (h : Rep V x S) (hj : j < 7) : V x (lo2 j) = S j := by
  have := h.2.2 j (Or.inl (by omega))
  unfold lo1 at this
  rw [if_pos hj] at this
  exact this
theorem r0 {V : Nat → Nat → Int32} {x : Nat} {S : Sx} (h : Rep V x S) : V x 0 = S 0 := rd (j := 0) h (by decide)
theorem r1 {V : Nat → Nat → Int32} {x : Nat} {S : Sx} (h : Rep V x S) : V x 1 = S 1 := rd (j := 1) h (by decide)
theorem r2 {V : Nat → Nat → Int32} {x : Nat} {S : Sx} (h : Rep V x S) : V x 2 = S 2 := rd (j := 2) h (by decide)
theorem r3 {V : Nat → Nat → Int32} {x : Nat} {S : Sx} (h : Rep V x S) : V x 3 = S 3 := rd (j := 3) h (by decide)
theorem r4 {V : Nat → Nat → Int32} {x : Nat} {S : Sx} (h : Rep V x S) : V x 4 = S 6 := rd (j := 6) h (by decide)
theorem r5 {V : Nat → Nat → Int32} {x : Nat} {S : Sx} (h : Rep V x S) : V x 5 = S 4 := rd (j := 4) h (by decide)
theorem r6 {V : Nat → Nat → Int32} {x : Nat} {S : Sx} (h : Rep V x S) : V x 6 = S 5 := rd (j := 5) h (by decide)
theorem rC {V : Nat → Nat → Int32} {x c w : Nat} {S : Sx} (h : Rep V x S) (hc : c < cn S) (hw : w < 5) : V (x + 3 + c) w = sC S c w := by
  have hn := h.1
  have := h.2.2 (7 + 5 * c + w) (Or.inl (by omega))
  rw [(lo_C (by omega) hw).1, (lo_C (x := x) (by omega) hw).2] at this
  exact this
theorem rP {V : Nat → Nat → Int32} {x p w : Nat} {S : Sx} (h : Rep V x S) (hp : p < pn S) (hw : w < 8) : V (x + 9 + 3 * p) w = sP S p w := by
  have := h.2.2 (37 + 20 * p + w) (Or.inr (by omega))
  rw [(lo_P hw).1, (lo_P (x := x) hw).2] at this
  exact this
theorem rL {V : Nat → Nat → Int32} {x p c : Nat} {S : Sx} (h : Rep V x S) (hp : p < pn S) (hc : c < 6) : V (x + 9 + 3 * p + 1) c = sP S p (8 + c) := by
  have := h.2.2 (37 + 20 * p + (8 + c)) (Or.inr (by omega))
  rw [(lo_L hc).1, (lo_L (x := x) hc).2] at this
  exact this
theorem rS {V : Nat → Nat → Int32} {x p c : Nat} {S : Sx} (h : Rep V x S) (hp : p < pn S) (hc : c < 6) : V (x + 9 + 3 * p + 2) c = sP S p (14 + c) := by
  have := h.2.2 (37 + 20 * p + (14 + c)) (Or.inr (by omega))
  rw [(lo_S hc).1, (lo_S (x := x) hc).2] at this
  exact this
theorem Rep_fr {V V' : Nat → Nat → Int32} {x : Nat} {S : Sx} (h : Rep V x S) (e : ∀ b, x ≤ b → b < x + 81 → V' b = V b) : Rep V' x S := by
  obtain ⟨hn, hm, h⟩ := h
  refine ⟨hn, hm, fun j hj => ?_⟩
  rw [e, h j hj]
  · unfold lo1; split <;> (try split) <;> omega
  · unfold lo1
    split
    · omega
    · split
      · omega
      · split
        · omega
        · split <;> omega
/-- nothing but the exchange at x has changed -/
def FX (x : Nat) (M M' : fw_M) : Prop := (∀ b, b < x ∨ x + 81 ≤ b → M'.1 b = M.1 b) ∧ M'.2 = M.2
theorem FX_id {x : Nat} {M : fw_M} : FX x M M := ⟨fun _ _ => rfl, rfl⟩
theorem FX_tr {x : Nat} {M M1 M2 : fw_M} (h1 : FX x M M1) (h2 : FX x M1 M2) : FX x M M2 := ⟨fun b hb => (h2.1 b hb).trans (h1.1 b hb), h2.2.trans h1.2⟩
theorem FX_st {x a k : Nat} {M : fw_M} {v : Int32} (h1 : x ≤ a) (h2 : a < x + 81) : FX x M (fw_st M a k v) := ⟨fun b hb => fw_up_ne (by omega), rfl⟩
theorem FX_row {x a : Nat} {M : fw_M} {f : Nat → Int32} (h1 : x ≤ a) (h2 : a < x + 81) : FX x M (fw_row M a f) := ⟨fun b hb => row_n (by omega), rfl⟩
end CL
end
section
/-! WHAT THE CLASS'S LEAVES DO -/
section CTL
def rsum (f : Nat → Int32) : Nat → Int32
  | 0 => 0
  | n + 1 => rsum f n + f n
def ct_X5_isZone (B : Nat) : fw_CTX := fun as M Q _ => match as with
  | [.int v] => Q (some (.int (bi (okN v 0 15)))) M
  | _ => False
def ct_X5_isArea (B : Nat) : fw_CTX := fun as M Q _ => match as with
  | [.int v] => Q (some (.int (bi (okN v 0 65535)))) M
  | _ => False
def ct_X5_isCutOff (B : Nat) : fw_CTX := fun as M Q _ => match as with
  | [.int v] => Q (some (.int (bi (okN v 1 999)))) M
  | _ => False
def ct_X5_isTip (B : Nat) : fw_CTX := fun as M Q _ => match as with
  | [.int v] => Q (some (.int (bi (okN v 0 1000)))) M
  | _ => False
def ct_X5_isTicks (B : Nat) : fw_CTX := fun as M Q _ => match as with
  | [.int v] => Q (some (.int (bi (okN v 0 200)))) M
  | _ => False
def ct_X5_holds (B : Nat) : fw_CTX := fun as M Q _ => match as with
  | [.int a, .int z] => Q (some (.int (bi (hs a z)))) M
  | _ => False
def ct_X5_nextZone (B : Nat) : fw_CTX := fun as M Q _ => match as with
  | [.int f, .int t] => ∃ i j, i < 16 ∧ j < 16 ∧ f = nI i ∧ t = nI j ∧ Q (some (.int (nxz f t))) M
  | _ => False
def ct_X5_at (B : Nat) : fw_CTX := fun as M Q _ => match as with
  | [.ref a, .int i] => fw_kd B a = 7 ∧ ∃ k, k < fw_len B a ∧ k < 2000 ∧ i = nI k ∧ Q (some (.int (M.1 a k))) M
  | _ => False
def ct_X5_sum (B : Nat) : fw_CTX := fun as M Q _ => match as with
  | [.ref a] => fw_kd B a = 7 ∧ fw_len B a = 6 ∧ Q (some (.int (rsum (M.1 a) 6))) M
  | _ => False
def ct_X5_copyRow (B : Nat) : fw_CTX := fun as M Q _ => match as with
  | [.ref a, .ref b] => fw_kd B a = 7 ∧ fw_kd B b = 7 ∧ fw_len B a = 6 ∧ fw_len B b = 6 ∧ Q none (fw_row M b (cpN 6 (M.1 a) (M.1 b)))
  | _ => False
def ct_X0_setFree (B : Nat) : fw_CTX := fun as M Q _ => match as with
  | [.ref a] => fw_kd B a = 0 ∧ Q none (fw_st (fw_st M a 3 0) a 4 (-1))
  | _ => False
def ct_X0_begin (B : Nat) : fw_CTX := fun as M Q _ => match as with
  | [.ref a, .int ar, .int z] => fw_kd B a = 0 ∧ Q none (fw_st (fw_st (fw_st (fw_st (fw_st M a 0 ar) a 1 z) a 2 0) a 3 0) a 4 (-1))
  | _ => False
def ct_X0_become (B : Nat) : fw_CTX := fun as M Q _ => match as with
  | [.ref a, .ref b] => fw_kd B a = 0 ∧ fw_kd B b = 0 ∧ b ≠ a ∧ Q none (fw_st (fw_st (fw_st (fw_st (fw_st M a 0 (M.1 b 0)) a 1 (M.1 b 1)) a 2 (M.1 b 2)) a 3 (M.1 b 3)) a 4 (M.1 b 4))
  | _ => False
def pB (M : fw_M) (a : Nat) (o g k t : Int32) : fw_M := fw_st (fw_st (fw_st (fw_st (fw_st (fw_st (fw_st (fw_st M a 0 o) a 1 g) a 2 k) a 3 t) a 4 0) a 5 o) a 6 (-1)) a 7 0
def pC (M : fw_M) (a b : Nat) : fw_M := fw_st (fw_st (fw_st (fw_st (fw_st (fw_st (fw_st (fw_st M a 0 (M.1 b 0)) a 1 (M.1 b 1)) a 2 (M.1 b 2)) a 3 (M.1 b 3)) a 4 (M.1 b 4)) a 5 (M.1 b 5)) a 6 (M.1 b 6)) a 7 (M.1 b 7)
def ct_X3_begin (B : Nat) : fw_CTX := fun as M Q _ => match as with
  | [.ref a, .int o, .int g, .int k, .int t] => PK B a ∧ Q none (fw_row (fw_row (pB M a o g k t) (a + 1) (cpN 6 (fun _ => 0) (M.1 (a + 1)))) (a + 2) (cpN 6 (fun _ => 0) (M.1 (a + 2))))
  | _ => False
def ct_X3_become (B : Nat) : fw_CTX := fun as M Q _ => match as with
  | [.ref a, .ref b] => PK B a ∧ PK B b ∧ (b + 2 < a ∨ a + 2 < b) ∧ Q none (fw_row (fw_row (pC M a b) (a + 1) (cpN 6 (M.1 (b + 1)) (M.1 (a + 1)))) (a + 2) (cpN 6 (M.1 (b + 2)) (M.1 (a + 2))))
  | _ => False
def ct_X3_isOpen (B : Nat) : fw_CTX := fun as M Q _ => match as with
  | [.ref a] => fw_kd B a = 3 ∧ Q (some (.int (bi (decide (M.1 a 4 = 0) || decide (M.1 a 4 = 1))))) M
  | _ => False
def ct_X3_suits (B : Nat) : fw_CTX := fun as M Q _ => match as with
  | [.ref a, .int ar] => fw_kd B a = 3 ∧ ∃ z d, z < 16 ∧ d < 16 ∧ M.1 a 5 = nI z ∧ M.1 a 1 = nI d ∧ Q (some (.int (bi (hs ar (M.1 a 5) && hs ar (nxz (M.1 a 5) (M.1 a 1)))))) M
  | _ => False
def ct_X3_legsOf (B : Nat) : fw_CTX := fun as M Q _ => match as with
  | [.ref a, .int x] => PK B a ∧ ∃ c, c < 6 ∧ x = nI c ∧ Q (some (.int (M.1 (a + 1) c))) M
  | _ => False
def ct_X3_shareOf (B : Nat) : fw_CTX := fun as M Q _ => match as with
  | [.ref a, .int x] => PK B a ∧ ∃ c, c < 6 ∧ x = nI c ∧ Q (some (.int (M.1 (a + 2) c))) M
  | _ => False
def ct_X3_addLeg (B : Nat) : fw_CTX := fun as M Q _ => match as with
  | [.ref a, .int x] => PK B a ∧ ∃ c, c < 6 ∧ x = nI c ∧ Q none (fw_st M (a + 1) c (M.1 (a + 1) c + 1))
  | _ => False
/-- the legs in the row are those of the state, some and bounded -/
def LW (M : fw_M) (a : Nat) (S : Sx) (p : Nat) : Prop := (∀ c, c < 6 → M.1 (a + 1) c = sP S p (8 + c)) ∧ LG S p
def ct_X3_rankOf (B : Nat) : fw_CTX := fun as M Q _ => match as with
  | [.ref a, .int x, .int y, .int z] => PK B a ∧ ∃ S p c, LW M a S p ∧ c < 6 ∧ x = nI c ∧ y = shr S p (M.1 a 7) c ∧ z = lsum S p 6 ∧ Q (some (.int (nI (rnk S p (M.1 a 7) c 6)))) M
  | _ => False
def ct_X3_sharePaid (B : Nat) : fw_CTX := fun as M Q _ => match as with
  | [.ref a] => PK B a ∧ ∃ S p, LW M a S p ∧ Q none (fw_row M (a + 2) (cpN 6 (fun c => fsh S p (M.1 a 7) c) (M.1 (a + 2))))
  | _ => False
def ct_X3_figure (B : Nat) : fw_CTX := fun as M Q _ => match as with
  | [.ref a, .int x] => PK B a ∧ ∃ w, w ≤ 8 ∧ x = nI w ∧ Q (some (.int (if w < 8 then M.1 a w else rsum (M.1 (a + 1)) 6))) M
  | _ => False
end CTL
end
section
/-! the callees of each method (printed by program) -/
def cal_X5_isZone (B : Nat) : List fw_Cal := []
def cal_X5_isArea (B : Nat) : List fw_Cal := []
def cal_X5_isCutOff (B : Nat) : List fw_Cal := []
def cal_X5_isTip (B : Nat) : List fw_Cal := []
def cal_X5_isTicks (B : Nat) : List fw_Cal := []
def cal_X5_holds (B : Nat) : List fw_Cal := []
def cal_X5_nextZone (B : Nat) : List fw_Cal := []
def cal_X5_at (B : Nat) : List fw_Cal := []
def cal_X5_sum (B : Nat) : List fw_Cal := []
def cal_X5_copyRow (B : Nat) : List fw_Cal := [(208, 1, 0, 2, 0, fw_ctMin),
  (211, 1, 0, 5, 0, fw_ctCopy B)]
end
section
/-! the callees of each method (printed by program) -/
def cal_X0_setFree (B : Nat) : List fw_Cal := []
def cal_X0_begin (B : Nat) : List fw_Cal := [(24, 0, 0, 1, 0, fun as M Q => ct_X0_setFree B as M Q (fun _ _ => False))]
def cal_X0_become (B : Nat) : List fw_Cal := []
end
section
/-! the callees of each method (printed by program) -/
def cal_X3_begin (B : Nat) : List fw_Cal := []
def cal_X3_become (B : Nat) : List fw_Cal := [(43, 1, 0, 2, 0, fun as M Q => ct_X5_copyRow B as M Q (fun _ _ => False))]
def cal_X3_isOpen (B : Nat) : List fw_Cal := []
def cal_X3_suits (B : Nat) : List fw_Cal := [(47, 1, 0, 2, 0, fun as M Q => ct_X5_holds B as M Q (fun _ _ => False)),
  (51, 1, 0, 2, 0, fun as M Q => ct_X5_nextZone B as M Q (fun _ _ => False))]
def cal_X3_legsOf (B : Nat) : List fw_Cal := [(55, 1, 0, 2, 0, fun as M Q => ct_X5_at B as M Q (fun _ _ => False))]
def cal_X3_shareOf (B : Nat) : List fw_Cal := [(55, 1, 0, 2, 0, fun as M Q => ct_X5_at B as M Q (fun _ _ => False))]
def cal_X3_addLeg (B : Nat) : List fw_Cal := []
def cal_X3_rankOf (B : Nat) : List fw_Cal := []
def cal_X3_sharePaid (B : Nat) : List fw_Cal := [(59, 1, 0, 1, 0, fun as M Q => ct_X5_sum B as M Q (fun _ _ => False)),
  (63, 0, 3, 4, 0, fun as M Q => ct_X3_rankOf B as M Q (fun _ _ => False))]
def cal_X3_figure (B : Nat) : List fw_Cal := [(59, 1, 0, 1, 0, fun as M Q => ct_X5_sum B as M Q (fun _ _ => False))]
end
section
/-! THE CLASS'S LEAVES WALKED -/
section WC
theorem ok_lt {v a b : Int32} (h : v < a) : okN v a b = false := by
  unfold okN; rw [decide_eq_false (Int32.not_le.mpr h), Bool.false_and]
theorem ok_gt {v a b : Int32} (h : b < v) : okN v a b = false := by
  unfold okN; rw [decide_eq_false (Int32.not_le.mpr h), Bool.and_false]
theorem ok_in {v a b : Int32} (h1 : ¬ v < a) (h2 : ¬ b < v) : okN v a b = true := by
  unfold okN; rw [decide_eq_true (Int32.not_lt.mp h1), decide_eq_true (Int32.not_lt.mp h2)]; rfl
theorem le16 {v : Int32} : (16 : Int32) ≤ v ↔ (15 : Int32) < v := by
  rw [Int32.le_iff_toInt_le, Int32.lt_iff_toInt_lt, show (16 : Int32).toInt = 16 by decide, show (15 : Int32).toInt = 15 by decide]
  omega
set_option maxRecDepth 100000 in
theorem wk_X5_isZone (B : Nat) : fw_Wk B fl_X5 (cal_X5_isZone B) [] cst_X5 (some .boolean) kX5_isZone 1 (ct_X5_isZone B) := by
  intro as M Q QX h
  unfold ct_X5_isZone at h
  split at h
  · refine ⟨rfl, [], ⟨40, And.intro (fun h1 => ?_) (fun h1 => And.intro (fun h2 => ?_) (fun h2 => ?_))⟩, nofun⟩
    · rw [ok_lt h1] at h; exact And.intro (Or.inl rfl) h
    · rw [ok_gt (le16.mp h2)] at h; exact And.intro (Or.inl rfl) h
    · rw [ok_in h1 (fun z => h2 (le16.mpr z))] at h; exact And.intro (Or.inr rfl) h
  · exact h.elim
set_option maxRecDepth 100000 in
theorem wk_X5_isArea (B : Nat) : fw_Wk B fl_X5 (cal_X5_isArea B) [] cst_X5 (some .boolean) kX5_isArea 1 (ct_X5_isArea B) := by
  intro as M Q QX h
  unfold ct_X5_isArea at h
  split at h
  · refine ⟨rfl, [], ⟨40, And.intro (fun h1 => ?_) (fun h1 => And.intro (fun h2 => ?_) (fun h2 => ?_))⟩, nofun⟩
    · rw [ok_lt h1] at h; exact And.intro (Or.inl rfl) h
    · rw [ok_gt h2] at h; exact And.intro (Or.inl rfl) h
    · rw [ok_in h1 h2] at h; exact And.intro (Or.inr rfl) h
  · exact h.elim
set_option maxRecDepth 100000 in
theorem wk_X5_isTip (B : Nat) : fw_Wk B fl_X5 (cal_X5_isTip B) [] cst_X5 (some .boolean) kX5_isTip 1 (ct_X5_isTip B) := by
  intro as M Q QX h
  unfold ct_X5_isTip at h
  split at h
  · refine ⟨rfl, [], ⟨40, And.intro (fun h1 => ?_) (fun h1 => And.intro (fun h2 => ?_) (fun h2 => ?_))⟩, nofun⟩
    · rw [ok_lt h1] at h; exact And.intro (Or.inl rfl) h
    · rw [ok_gt h2] at h; exact And.intro (Or.inl rfl) h
    · rw [ok_in h1 h2] at h; exact And.intro (Or.inr rfl) h
  · exact h.elim
set_option maxRecDepth 100000 in
theorem wk_X5_isTicks (B : Nat) : fw_Wk B fl_X5 (cal_X5_isTicks B) [] cst_X5 (some .boolean) kX5_isTicks 1 (ct_X5_isTicks B) := by
  intro as M Q QX h
  unfold ct_X5_isTicks at h
  split at h
  · refine ⟨rfl, [], ⟨40, And.intro (fun h1 => ?_) (fun h1 => And.intro (fun h2 => ?_) (fun h2 => ?_))⟩, nofun⟩
    · rw [ok_lt h1] at h; exact And.intro (Or.inl rfl) h
    · rw [ok_gt h2] at h; exact And.intro (Or.inl rfl) h
    · rw [ok_in h1 h2] at h; exact And.intro (Or.inr rfl) h
  · exact h.elim
set_option maxRecDepth 100000 in
theorem wk_X5_isCutOff (B : Nat) : fw_Wk B fl_X5 (cal_X5_isCutOff B) [] cst_X5 (some .boolean) kX5_isCutOff 1 (ct_X5_isCutOff B) := by
  intro as M Q QX h
  unfold ct_X5_isCutOff at h
  split at h
  · refine ⟨rfl, [], ⟨40, And.intro (fun h1 => ?_) (fun h1 => And.intro (fun h2 => ?_) (fun h2 => ?_))⟩, nofun⟩
    · rw [ok_lt h1] at h; exact And.intro (Or.inl rfl) h
    · rw [ok_gt h2] at h; exact And.intro (Or.inl rfl) h
    · rw [ok_in h1 h2] at h; exact And.intro (Or.inr rfl) h
  · exact h.elim
set_option maxRecDepth 100000 in
theorem wk_X5_holds (B : Nat) : fw_Wk B fl_X5 (cal_X5_holds B) [] cst_X5 (some .boolean) kX5_holds 2 (ct_X5_holds B) := by
  intro as M Q QX h
  unfold ct_X5_holds at h
  split at h
  · rename_i a z
    unfold hs at h
    refine ⟨rfl, [], ⟨40, And.intro (fun h1 => ?_) (fun h1 => ?_)⟩, nofun⟩
    · have h1 : ¬ (a >>> (z &&& 31)) &&& 1 = 1 := h1
      rw [decide_eq_false h1] at h; exact And.intro (Or.inl rfl) h
    · have h1 : (a >>> (z &&& 31)) &&& 1 = 1 := h1
      rw [decide_eq_true h1] at h; exact And.intro (Or.inr rfl) h
  · exact h.elim
theorem nz_c1 : ∀ i, i < 16 → ∀ j, j < 16 → rem4 (nI j) - rem4 (nI i) = 0 → nI j / 4 - nI i / 4 = 0 → nxz (nI i) (nI j) = nI i := by decide +kernel
theorem nz_c2 : ∀ i, i < 16 → ∀ j, j < 16 → rem4 (nI j) - rem4 (nI i) = 0 → ¬ nI j / 4 - nI i / 4 = 0 → nI j / 4 - nI i / 4 ≤ 0 → nxz (nI i) (nI j) = nI i - 4 := by decide +kernel
theorem nz_c3 : ∀ i, i < 16 → ∀ j, j < 16 → rem4 (nI j) - rem4 (nI i) = 0 → ¬ nI j / 4 - nI i / 4 = 0 → ¬ nI j / 4 - nI i / 4 ≤ 0 → nxz (nI i) (nI j) = nI i + 4 := by decide +kernel
theorem nz_c4 : ∀ i, i < 16 → ∀ j, j < 16 → ¬ rem4 (nI j) - rem4 (nI i) = 0 → rem4 (nI j) - rem4 (nI i) ≤ 0 → nxz (nI i) (nI j) = nI i - 1 := by decide +kernel
theorem nz_c5 : ∀ i, i < 16 → ∀ j, j < 16 → ¬ rem4 (nI j) - rem4 (nI i) = 0 → ¬ rem4 (nI j) - rem4 (nI i) ≤ 0 → nxz (nI i) (nI j) = nI i + 1 := by decide +kernel
set_option maxRecDepth 100000 in
theorem wk_X5_nextZone (B : Nat) : fw_Wk B fl_X5 (cal_X5_nextZone B) [] cst_X5 (some .int) kX5_nextZone 4 (ct_X5_nextZone B) := by
  intro as M Q QX h
  unfold ct_X5_nextZone at h
  split at h
  · obtain ⟨i, j, hi, hj, rfl, rfl, h⟩ := h
    refine ⟨rfl, [], ⟨80, And.intro n4s (And.intro n4s (And.intro (fun h1 => And.intro n4s (And.intro n4s (And.intro (fun h2 => ?_) (fun h2 => And.intro (fun h3 => ?_) (fun h3 => ?_))))) (fun h1 => And.intro (fun h2 => ?_) (fun h2 => ?_))))⟩, nofun⟩
    · rw [nz_c1 i hi j hj h1 h2] at h; exact h
    · rw [nz_c2 i hi j hj h1 h2 h3] at h; exact h
    · rw [nz_c3 i hi j hj h1 h2 h3] at h; exact h
    · rw [nz_c4 i hi j hj h1 h2] at h; exact h
    · rw [nz_c5 i hi j hj h1 h2] at h; exact h
  · exact h.elim
theorem aln7 {B a n : Nat} (h : fw_kd B a = 7) (hl : fw_len B a = n) : Int32.ofNat (fw_aln B a) = nI n := by
  unfold fw_aln; rw [if_pos h, hl]; rfl
theorem kd_7 {B a : Nat} (h : fw_kd B a = 7) : 7 ≤ fw_kd B a ∧ fw_kd B a ≤ 10 := by omega
set_option maxRecDepth 100000 in
theorem wk_X5_at (B : Nat) : fw_Wk B fl_X5 (cal_X5_at B) [] cst_X5 (some .int) kX5_at 2 (ct_X5_at B) := by
  intro as M Q QX h
  unfold ct_X5_at at h
  split at h
  · rename_i a x
    obtain ⟨hk7, k, hk, hk2, rfl, h⟩ := h
    have hL : fw_len B a < 2 ^ 31 := by
      unfold fw_len fw_lo
      split
      · decide
      · split
        · decide
        · split
          · decide
          · split
            · decide
            · split
              · decide
              · split
                · decide
                · (repeat' split) <;> decide
    refine ⟨rfl, [], ⟨40, And.intro (fun h1 => ?_) (fun h1 => And.intro (kd_7 hk7).1 (And.intro (kd_7 hk7).2 (And.intro (fun h2 => ?_) (fun h2 => ?_))))⟩, nofun⟩
    · have h1 : nI k < nI 0 := h1
      rw [n_lt (by omega) (by decide)] at h1
      omega
    · have h2 : Int32.ofNat (fw_aln B a) ≤ nI k := h2
      rw [aln7 hk7 rfl, n_ge hL (by omega)] at h2
      omega
    · refine And.intro hk7 (And.intro (vn_i hk hL) ?_)
      conv => whnf
      rw [n_cl (by omega)]
      exact h
  · exact h.elim
set_option maxRecDepth 100000 in
theorem wk_X5_sum (B : Nat) : fw_Wk B fl_X5 (cal_X5_sum B) [] cst_X5 (some .int) kX5_sum 3 (ct_X5_sum B) := by
  intro as M Q QX h
  unfold ct_X5_sum at h
  split at h
  · rename_i a
    obtain ⟨hk7, hL, h⟩ := h
    refine ⟨rfl, [(4, [true, true, true], fun n ls st M' => ∃ i, n = 6 - i ∧ i ≤ 6 ∧ ls = [some (.ref a), some (.int (rsum (M.1 a) i)), some (.int (nI i))] ∧ st = [] ∧ M' = M)], ⟨20, ?_⟩, ?_⟩
    · exact Exists.intro 6 (Exists.intro 0 ⟨rfl, by omega, rfl, rfl, rfl⟩)
    · intro q hq n ls st M' hi
      cases List.mem_singleton.mp hq
      obtain ⟨i, rfl, hi, rfl, rfl, rfl⟩ := hi
      refine ⟨60, And.intro (kd_7 hk7).1 (And.intro (kd_7 hk7).2 (And.intro (fun h1 => ?_) (fun h1 => ?_)))⟩
      · have h1 : Int32.ofNat (fw_aln B a) ≤ nI i := h1
        rw [aln7 hk7 hL, n_ge (by decide) (by omega)] at h1
        rw [show i = 6 by omega]
        exact h
      · have h1 : ¬ Int32.ofNat (fw_aln B a) ≤ nI i := h1
        rw [aln7 hk7 hL, n_ge (by decide) (by omega)] at h1
        refine And.intro hk7 (And.intro ?_ ?_)
        · rw [hL]; exact vn_i (by omega) (by decide)
        refine Exists.intro (6 - (i + 1)) (And.intro (by omega) (Exists.intro (i + 1) ⟨rfl, by omega, ?_, rfl, rfl⟩))
        show [some (Value.ref a), some (Value.int (rsum (M'.1 a) i + M'.1 a (nI i).toNatClampNeg)), some (Value.int (nI i + 1))] = _
        rw [n_cl (by omega), nI_1]
        rfl
  · exact h.elim
theorem cpy_6 {f g : Nat → Int32} : va_cpy f g 0 0 6 = cpN 6 f g := by
  funext k
  unfold va_cpy cpN
  by_cases h : k < 6
  · rw [if_pos h, if_pos ⟨Nat.zero_le k, by omega⟩]
    simp
  · rw [if_neg h, if_neg (by omega)]
set_option maxRecDepth 100000 in
theorem wk_X5_copyRow (B : Nat) : fw_Wk B fl_X5 (cal_X5_copyRow B) [] cst_X5 none kX5_copyRow 2 (ct_X5_copyRow B) := by
  intro as M Q QX h
  unfold ct_X5_copyRow at h
  split at h
  · rename_i a b
    obtain ⟨ka, kb, la, lb, h⟩ := h
    refine ⟨rfl, [], ⟨60, And.intro (kd_7 ka).1 (And.intro (kd_7 ka).2 (And.intro (kd_7 kb).1 (And.intro (kd_7 kb).2 ?_)))⟩, nofun⟩
    have eN : (if Int32.ofNat (fw_aln B b) < Int32.ofNat (fw_aln B a) then Int32.ofNat (fw_aln B b) else Int32.ofNat (fw_aln B a)) = nI 6 := by
      split
      · exact aln7 kb lb
      · exact aln7 ka la
    have key : ¬ nI 6 < 0 ∧ (nI 6).toNatClampNeg ≤ fw_len B a ∧ (nI 6).toNatClampNeg ≤ fw_len B b ∧ Q none (fw_row M b (va_cpy (M.1 a) (M.1 b) 0 0 (nI 6).toNatClampNeg)) := by
      rw [n_cl (by decide), la, lb, cpy_6]
      exact ⟨by decide, Nat.le_refl 6, Nat.le_refl 6, h⟩
    rw [← eN] at key
    exact And.intro ka (And.intro kb (And.intro rfl (And.intro rfl key)))
  · exact h.elim
set_option maxRecDepth 100000 in
theorem wk_X0_setFree (B : Nat) : fw_Wk B fl_X0 (cal_X0_setFree B) [] cst_X0 none kX0_setFree 1 (ct_X0_setFree B) := by
  intro as M Q QX h
  unfold ct_X0_setFree at h
  split at h
  · obtain ⟨k, h⟩ := h
    exact ⟨rfl, [], ⟨40, And.intro k (And.intro k h)⟩, nofun⟩
  · exact h.elim
set_option maxRecDepth 100000 in
theorem wk_X0_begin (B : Nat) : fw_Wk B fl_X0 (cal_X0_begin B) [] cst_X0 none kX0_begin 3 (ct_X0_begin B) := by
  intro as M Q QX h
  unfold ct_X0_begin at h
  split at h
  · obtain ⟨k, h⟩ := h
    exact ⟨rfl, [], ⟨60, And.intro k (And.intro k (And.intro k (And.intro k (And.intro k h))))⟩, nofun⟩
  · exact h.elim
set_option maxRecDepth 100000 in
theorem wk_X0_become (B : Nat) : fw_Wk B fl_X0 (cal_X0_become B) [] cst_X0 none kX0_become 2 (ct_X0_become B) := by
  intro as M Q QX h
  unfold ct_X0_become at h
  split at h
  · obtain ⟨k, kb, hne, h⟩ := h
    refine ⟨rfl, [], ⟨80, And.intro kb (And.intro k (And.intro kb (And.intro k (And.intro kb (And.intro k (And.intro kb (And.intro k (And.intro kb (And.intro k ?_)))))))))⟩, nofun⟩
    conv => whnf
    simp only [fw_fv, fw_fw, fw_fc, fw_st, fw_up_ne hne] at h ⊢
    exact h
  · exact h.elim
end WC
end
section
/-! A PARCEL'S METHODS WALKED -/
section WPk
theorem pB_o {M : fw_M} {a b : Nat} {o g k t : Int32} (h : b ≠ a) : (pB M a o g k t).1 b = M.1 b := by
  unfold pB
  rw [st_o h, st_o h, st_o h, st_o h, st_o h, st_o h, st_o h, st_o h]
theorem pC_o {M : fw_M} {a b c : Nat} (h : c ≠ a) : (pC M a b).1 c = M.1 c := by
  unfold pC
  rw [st_o h, st_o h, st_o h, st_o h, st_o h, st_o h, st_o h, st_o h]
set_option maxRecDepth 100000 in
theorem wk_X3_begin (B : Nat) : fw_Wk B fl_X3 (cal_X3_begin B) [] cst_X3 none kX3_begin 6 (ct_X3_begin B) := by
  intro as M Q QX h
  unfold ct_X3_begin at h
  split at h
  · rename_i a o g k t
    obtain ⟨⟨k3, k1, k2, l1, l2⟩, h⟩ := h
    refine ⟨rfl, [
      (44, [true, true, true, true, true, true], fun n ls st M' => ∃ i, n = 100 + (6 - i) ∧ i ≤ 6 ∧ ls = [some (.ref a), some (.int o), some (.int g), some (.int k), some (.int t), some (.int (nI i))] ∧ st = [] ∧ M' = fw_row (pB M a o g k t) (a + 1) (cpN i (fun _ => 0) (M.1 (a + 1)))),
      (71, [true, true, true, true, true, true], fun n ls st M' => ∃ i, n = 6 - i ∧ i ≤ 6 ∧ ls = [some (.ref a), some (.int o), some (.int g), some (.int k), some (.int t), some (.int (nI i))] ∧ st = [] ∧ M' = fw_row (fw_row (pB M a o g k t) (a + 1) (cpN 6 (fun _ => 0) (M.1 (a + 1)))) (a + 2) (cpN i (fun _ => 0) (M.1 (a + 2))))], ⟨100, ?_⟩, ?_⟩
    · refine And.intro k3 (And.intro k3 (And.intro k3 (And.intro k3 (And.intro k3 (And.intro k3 (And.intro k3 (And.intro k3 ?_)))))))
      refine Exists.intro 106 (Exists.intro 0 ⟨rfl, by omega, rfl, rfl, ?_⟩)
      rw [cpN_0, ← pB_o (M := M) (a := a) (b := a + 1) (o := o) (g := g) (k := k) (t := t) (by omega), row_self]
      rfl
    · intro q hq n ls st M' hi
      simp only [List.mem_cons, List.not_mem_nil, or_false] at hq
      rcases hq with rfl | rfl
      · obtain ⟨i, rfl, hi, rfl, rfl, rfl⟩ := hi
        refine ⟨60, And.intro k3 (And.intro (kd_7 k1).1 (And.intro (kd_7 k1).2 (And.intro (fun h1 => ?_) (fun h1 => ?_))))⟩
        · have h1 : Int32.ofNat (fw_aln B (a + 1)) ≤ nI i := h1
          rw [aln7 k1 l1, n_ge (by decide) (by omega)] at h1
          have e6 : i = 6 := by omega
          subst e6
          refine Exists.intro 6 (And.intro (by omega) (Exists.intro 0 ⟨rfl, by omega, rfl, rfl, ?_⟩))
          rw [cpN_0, show M.1 (a + 2) = (fw_row (pB M a o g k t) (a + 1) (cpN 6 (fun _ => 0) (M.1 (a + 1)))).1 (a + 2) from by rw [row_n (by omega), pB_o (by omega)], row_self]
        · have h1 : ¬ Int32.ofNat (fw_aln B (a + 1)) ≤ nI i := h1
          rw [aln7 k1 l1, n_ge (by decide) (by omega)] at h1
          refine And.intro k3 (And.intro k1 (And.intro ?_ ?_))
          · show fw_sd (vp_in (nI i) (fw_len B (a + 1)))
            rw [l1]; exact vn_i (by omega) (by decide)
          refine Exists.intro (100 + (6 - (i + 1))) (And.intro (by omega) (Exists.intro (i + 1) ⟨rfl, by omega, ?_, rfl, ?_⟩))
          · show [some (Value.ref a), some (Value.int o), some (Value.int g), some (Value.int k), some (Value.int t), some (Value.int (nI i + 1))] = _
            rw [nI_1]
          · show fw_st (fw_row _ (a + 1) _) (a + 1) (nI i).toNatClampNeg 0 = _
            rw [n_cl (by omega), st_row, row_1, row_row]
            exact congrArg (fw_row _ (a + 1)) (cpN_s (f := fun _ => (0 : Int32)))
      · obtain ⟨i, rfl, hi, rfl, rfl, rfl⟩ := hi
        refine ⟨60, And.intro k3 (And.intro (kd_7 k2).1 (And.intro (kd_7 k2).2 (And.intro (fun h1 => ?_) (fun h1 => ?_))))⟩
        · have h1 : Int32.ofNat (fw_aln B (a + 2)) ≤ nI i := h1
          rw [aln7 k2 l2, n_ge (by decide) (by omega)] at h1
          have e6 : i = 6 := by omega
          subst e6
          exact h
        · have h1 : ¬ Int32.ofNat (fw_aln B (a + 2)) ≤ nI i := h1
          rw [aln7 k2 l2, n_ge (by decide) (by omega)] at h1
          refine And.intro k3 (And.intro k2 (And.intro ?_ ?_))
          · show fw_sd (vp_in (nI i) (fw_len B (a + 2)))
            rw [l2]; exact vn_i (by omega) (by decide)
          refine Exists.intro (6 - (i + 1)) (And.intro (by omega) (Exists.intro (i + 1) ⟨rfl, by omega, ?_, rfl, ?_⟩))
          · show [some (Value.ref a), some (Value.int o), some (Value.int g), some (Value.int k), some (Value.int t), some (Value.int (nI i + 1))] = _
            rw [nI_1]
          · show fw_st (fw_row _ (a + 2) _) (a + 2) (nI i).toNatClampNeg 0 = _
            rw [n_cl (by omega), st_row, row_1, row_row]
            exact congrArg (fw_row _ (a + 2)) (cpN_s (f := fun _ => (0 : Int32)))
  · exact h.elim
theorem dj_ne {a b : Nat} (h : b + 2 < a ∨ a + 2 < b) : b ≠ a ∧ b + 1 ≠ a ∧ b + 2 ≠ a ∧ b + 2 ≠ a + 1 ∧ a + 1 ≠ a ∧ a + 2 ≠ a ∧ a + 2 ≠ a + 1 := by omega
set_option maxRecDepth 100000 in
theorem wk_X3_become (B : Nat) : fw_Wk B fl_X3 (cal_X3_become B) [] cst_X3 none kX3_become 2 (ct_X3_become B) := by
  intro as M Q QX h
  unfold ct_X3_become at h
  split at h
  · rename_i a b
    obtain ⟨⟨k, k1, k2, l1, l2⟩, ⟨kb, kb1, kb2, lb1, lb2⟩, hd, h⟩ := h
    obtain ⟨hne, n1, n2, n3, n4, n5, n6⟩ := dj_ne hd
    refine ⟨rfl, [], ⟨120, And.intro kb (And.intro k (And.intro kb (And.intro k (And.intro kb (And.intro k (And.intro kb (And.intro k (And.intro kb (And.intro k (And.intro kb (And.intro k (And.intro kb (And.intro k (And.intro kb (And.intro k ?_)))))))))))))))⟩, nofun⟩
    refine And.intro kb (And.intro k (And.intro kb1 (And.intro k1 (And.intro lb1 (And.intro l1 (And.intro kb (And.intro k (And.intro kb2 (And.intro k2 (And.intro lb2 (And.intro l2 ?_)))))))))))
    have e1 : fw_st (fw_st (fw_st (fw_st (fw_st (fw_st (fw_st (fw_st M a 0 (M.1 b 0)) a 1 ((fw_st M a 0 (M.1 b 0)).1 b 1)) a 2 (M.1 b 2)) a 3 (M.1 b 3)) a 4 (M.1 b 4)) a 5 (M.1 b 5)) a 6 (M.1 b 6)) a 7 (M.1 b 7) = pC M a b := by rw [st_o hne]; rfl
    conv => whnf
    simp only [fw_fv, fw_fw, fw_fc, st_o hne]
    show Q none (fw_row (fw_row (pC M a b) (a + 1) (cpN 6 ((pC M a b).1 (b + 1)) ((pC M a b).1 (a + 1)))) (a + 2) (cpN 6 ((fw_row (pC M a b) (a + 1) (cpN 6 ((pC M a b).1 (b + 1)) ((pC M a b).1 (a + 1)))).1 (b + 2)) ((fw_row (pC M a b) (a + 1) (cpN 6 ((pC M a b).1 (b + 1)) ((pC M a b).1 (a + 1)))).1 (a + 2))))
    rw [row_n n3, row_n n6, pC_o n1, pC_o n4, pC_o n2, pC_o n5]
    exact h
  · exact h.elim
set_option maxRecDepth 100000 in
theorem wk_X3_isOpen (B : Nat) : fw_Wk B fl_X3 (cal_X3_isOpen B) [] cst_X3 (some .boolean) kX3_isOpen 1 (ct_X3_isOpen B) := by
  intro as M Q QX h
  unfold ct_X3_isOpen at h
  split at h
  · rename_i a
    obtain ⟨k, h⟩ := h
    refine ⟨rfl, [], ⟨60, And.intro k (And.intro (fun h1 => ?_) (fun h1 => And.intro k (And.intro (fun h2 => ?_) (fun h2 => ?_))))⟩, nofun⟩
    · have h1 : M.1 a 4 = 0 := h1
      rw [decide_eq_true h1] at h
      exact And.intro (Or.inr rfl) h
    · have h1 : ¬ M.1 a 4 = 0 := h1
      have h2 : ¬ M.1 a 4 = 1 := h2
      rw [decide_eq_false h1, decide_eq_false h2] at h
      exact And.intro (Or.inl rfl) h
    · have h2 : M.1 a 4 = 1 := h2
      rw [decide_eq_true h2, Bool.or_true] at h
      exact And.intro (Or.inr rfl) h
  · exact h.elim
set_option maxRecDepth 100000 in
theorem wk_X3_suits (B : Nat) : fw_Wk B fl_X3 (cal_X3_suits B) [] cst_X3 (some .boolean) kX3_suits 2 (ct_X3_suits B) := by
  intro as M Q QX h
  unfold ct_X3_suits at h
  split at h
  · rename_i a ar
    obtain ⟨k, z, d, hz, hd, ez, ed, h⟩ := h
    refine ⟨rfl, [], ⟨80, And.intro k (And.intro (fun h1 => ?_) (fun h1 => And.intro k (And.intro k (Exists.intro z (Exists.intro d (And.intro hz (And.intro hd (And.intro ez (And.intro ed (And.intro (fun h2 => ?_) (fun h2 => ?_))))))))))) ⟩, nofun⟩
    · have h1 : hs ar (M.1 a 5) = false := bi_0.mp h1
      rw [h1] at h
      exact And.intro (Or.inl rfl) h
    · have h1 : hs ar (M.1 a 5) = true := bi_n0.mp h1
      have h2 : hs ar (nxz (M.1 a 5) (M.1 a 1)) = false := bi_0.mp h2
      rw [h1, h2] at h
      exact And.intro (Or.inl rfl) h
    · have h1 : hs ar (M.1 a 5) = true := bi_n0.mp h1
      have h2 : hs ar (nxz (M.1 a 5) (M.1 a 1)) = true := bi_n0.mp h2
      rw [h1, h2] at h
      exact And.intro (Or.inr rfl) h
  · exact h.elim
set_option maxRecDepth 100000 in
theorem wk_X3_legsOf (B : Nat) : fw_Wk B fl_X3 (cal_X3_legsOf B) [] cst_X3 (some .int) kX3_legsOf 2 (ct_X3_legsOf B) := by
  intro as M Q QX h
  unfold ct_X3_legsOf at h
  split at h
  · obtain ⟨⟨k, k1, k2, l1, l2⟩, c, hc, rfl, h⟩ := h
    exact ⟨rfl, [], ⟨40, And.intro k (And.intro k1 (Exists.intro c (And.intro (by rw [l1]; exact hc) (And.intro (by omega) (And.intro rfl h)))))⟩, nofun⟩
  · exact h.elim
set_option maxRecDepth 100000 in
theorem wk_X3_shareOf (B : Nat) : fw_Wk B fl_X3 (cal_X3_shareOf B) [] cst_X3 (some .int) kX3_shareOf 2 (ct_X3_shareOf B) := by
  intro as M Q QX h
  unfold ct_X3_shareOf at h
  split at h
  · obtain ⟨⟨k, k1, k2, l1, l2⟩, c, hc, rfl, h⟩ := h
    exact ⟨rfl, [], ⟨40, And.intro k (And.intro k2 (Exists.intro c (And.intro (by rw [l2]; exact hc) (And.intro (by omega) (And.intro rfl h)))))⟩, nofun⟩
  · exact h.elim
set_option maxRecDepth 100000 in
theorem wk_X3_addLeg (B : Nat) : fw_Wk B fl_X3 (cal_X3_addLeg B) [] cst_X3 none kX3_addLeg 2 (ct_X3_addLeg B) := by
  intro as M Q QX h
  unfold ct_X3_addLeg at h
  split at h
  · rename_i a x
    obtain ⟨⟨k, k1, k2, l1, l2⟩, c, hc, rfl, h⟩ := h
    refine ⟨rfl, [], ⟨60, And.intro (fun h1 => ?_) (fun h1 => And.intro k (And.intro (kd_7 k1).1 (And.intro (kd_7 k1).2 (And.intro (fun h2 => ?_) (fun h2 => ?_)))))⟩, nofun⟩
    · have h1 : nI c < nI 0 := h1
      rw [n_lt (by omega) (by decide)] at h1
      omega
    · have h2 : Int32.ofNat (fw_aln B (a + 1)) ≤ nI c := h2
      rw [aln7 k1 l1, n_ge (by decide) (by omega)] at h2
      omega
    · refine And.intro k (And.intro k1 (And.intro ?_ (And.intro k1 (And.intro ?_ ?_))))
      · show fw_sd (vp_in (nI c) (fw_len B (a + 1)))
        rw [l1]; exact vn_i hc (by decide)
      · show fw_sd (vp_in (nI c) (fw_len B (a + 1)))
        rw [l1]; exact vn_i hc (by decide)
      · show Q none (fw_st M (a + 1) (nI c).toNatClampNeg (M.1 (a + 1) (nI c).toNatClampNeg + 1))
        rw [n_cl (by omega)]
        exact h
  · exact h.elim
end WPk
end
section
/-! A PARCEL'S SHARES WALKED -/
section WPs
theorem LG_sum {S : Sx} {p : Nat} (h : LG S p) : ∃ A, 0 < A ∧ A < 2 ^ 31 ∧ lsum S p 6 = nI A := by
  obtain ⟨A, R, L, hS⟩ := SHN_of (k := 0) (Nat.zero_le _) h
  have hA := hS.2.2.1
  have hA2 := hS.2.2.2.1
  exact ⟨A, hA, by omega, by rw [lsum_n hS 6 (Nat.le_refl _), hS.2.1]⟩
theorem rsum_l {f : Nat → Int32} {S : Sx} {p : Nat} (h : ∀ c, c < 6 → f c = sP S p (8 + c)) : ∀ n, n ≤ 6 → rsum f n = lsum S p n := by
  intro n
  induction n with
  | zero => intro _; rfl
  | succ n ih => intro hn; unfold rsum lsum; rw [ih (by omega), h n (by omega)]
theorem cpN_keep {f g : Nat → Int32} {n : Nat} (h : f n = g n) : cpN (n + 1) f g = cpN n f g := by
  funext k
  unfold cpN
  by_cases e : k < n
  · rw [if_pos e, if_pos (by omega)]
  · rw [if_neg e]
    by_cases e2 : k < n + 1
    · rw [if_pos e2, show k = n by omega, h]
    · rw [if_neg e2]
theorem cpN_over {f g x : Nat → Int32} {n : Nat} : cpN n f (cpN n g x) = cpN n f x := by
  funext k
  unfold cpN
  by_cases e : k < n
  · rw [if_pos e, if_pos e]
  · rw [if_neg e, if_neg e, if_neg e]
set_option maxRecDepth 100000 in
theorem wk_X3_rankOf (B : Nat) : fw_Wk B fl_X3 (cal_X3_rankOf B) [] cst_X3 (some .int) kX3_rankOf 7 (ct_X3_rankOf B) := by
  intro as M Q QX h
  unfold ct_X3_rankOf at h
  split at h
  · rename_i a x y z
    obtain ⟨⟨k3, k1, k2, l1, l2⟩, S, p, c, ⟨hl, hLG⟩, hc, rfl, rfl, rfl, h⟩ := h
    obtain ⟨A, hA, hA2, eA⟩ := LG_sum hLG
    generalize hP : M.1 a 7 = paid at h
    refine ⟨rfl, [(6, [true, true, true, true, true, true, false], fun n ls st M' => ∃ i, n = 6 - i ∧ i ≤ 6 ∧ ls = [some (.ref a), some (.int (nI c)), some (.int (shr S p paid c)), some (.int (lsum S p 6)), some (.int (nI (rnk S p paid c i))), some (.int (nI i)), none] ∧ st = [] ∧ M' = M)], ⟨40, ?_⟩, ?_⟩
    · exact Exists.intro 6 (Exists.intro 0 ⟨rfl, by omega, rfl, rfl, rfl⟩)
    · intro q hq n ls st M' hi
      cases List.mem_singleton.mp hq
      obtain ⟨i, rfl, hi, rfl, rfl, rfl⟩ := hi
      refine ⟨100, And.intro k3 (And.intro (kd_7 k1).1 (And.intro (kd_7 k1).2 (And.intro (fun h1 => ?_) (fun h1 => And.intro (fun h2 => ?_) (fun h2 => ?_)))))⟩
      · have h1 : Int32.ofNat (fw_aln B (a + 1)) ≤ nI i := h1
        rw [aln7 k1 l1, n_ge (by decide) (by omega)] at h1
        rw [show i = 6 by omega]
        exact h
      · have h2 : lsum S p 6 ≤ nI 0 := h2
        rw [eA, n_ge hA2 (by decide)] at h2
        omega
      · have h1 : ¬ Int32.ofNat (fw_aln B (a + 1)) ≤ nI i := h1
        rw [aln7 k1 l1, n_ge (by decide) (by omega)] at h1
        have hli := hl i (by omega)
        have ev : M'.1 a 7 * M'.1 (a + 1) (nI i).toNatClampNeg - M'.1 a 7 * M'.1 (a + 1) (nI i).toNatClampNeg / lsum S p 6 * lsum S p 6 = shr S p paid i := by
          rw [n_cl (by omega), hli, hP]; rfl
        have key : ∀ v w, v = none → w = nI (rnk S p paid c (i + 1)) → ∃ m', m' < 6 - i ∧ ∃ i', m' = 6 - i' ∧ i' ≤ 6 ∧ ([some (.ref a), some (.int (nI c)), some (.int (shr S p paid c)), some (.int (lsum S p 6)), some (.int w), some (.int (nI i + 1)), v] : fw_L) = [some (.ref a), some (.int (nI c)), some (.int (shr S p paid c)), some (.int (lsum S p 6)), some (.int (nI (rnk S p paid c i'))), some (.int (nI i')), none] ∧ ([] : List Value) = [] ∧ M' = M' := by
          rintro v w rfl rfl
          exact ⟨6 - (i + 1), by omega, i + 1, rfl, by omega, by rw [nI_1], rfl, rfl⟩
        refine And.intro k3 (And.intro k3 (And.intro k1 (And.intro ?_ (And.intro (fw_sd_i (fun z => ?_)) (And.intro (fun h3 => ?_) (fun h3 => And.intro (fun h4 => ?_) (fun h4 => And.intro (fun h5 => ?_) (fun h5 => ?_))))))))
        · show fw_sd (vp_in (nI i) (fw_len B (a + 1)))
          rw [l1]; exact vn_i (by omega) (by decide)
        · have z : lsum S p 6 = nI 0 := z
          rw [eA, nI_eq hA2 (by decide)] at z
          omega
        · have h3 : shr S p paid c < M'.1 a 7 * M'.1 (a + 1) (nI i).toNatClampNeg - M'.1 a 7 * M'.1 (a + 1) (nI i).toNatClampNeg / lsum S p 6 * lsum S p 6 := h3
          rw [ev] at h3
          refine key none _ rfl ?_
          show nI (rnk S p paid c i) + 1 = _
          rw [nI_1, rnk, if_pos (Or.inl h3)]
        · have h4 : ¬ M'.1 a 7 * M'.1 (a + 1) (nI i).toNatClampNeg - M'.1 a 7 * M'.1 (a + 1) (nI i).toNatClampNeg / lsum S p 6 * lsum S p 6 = shr S p paid c := h4
          have h3 : ¬ shr S p paid c < M'.1 a 7 * M'.1 (a + 1) (nI i).toNatClampNeg - M'.1 a 7 * M'.1 (a + 1) (nI i).toNatClampNeg / lsum S p 6 * lsum S p 6 := h3
          rw [ev] at h3 h4
          refine key none _ rfl ?_
          show nI (rnk S p paid c i) = _
          rw [rnk, if_neg (fun e => e.elim h3 (fun e => h4 e.1)), Nat.add_zero]
        · have h5 : nI c ≤ nI i := h5
          rw [n_ge (by omega) (by omega)] at h5
          have h3 : ¬ shr S p paid c < M'.1 a 7 * M'.1 (a + 1) (nI i).toNatClampNeg - M'.1 a 7 * M'.1 (a + 1) (nI i).toNatClampNeg / lsum S p 6 * lsum S p 6 := h3
          rw [ev] at h3
          refine key none _ rfl ?_
          show nI (rnk S p paid c i) = _
          rw [rnk, if_neg (fun e => e.elim h3 (fun e => absurd e.2 (by omega))), Nat.add_zero]
        · have h5 : ¬ nI c ≤ nI i := h5
          rw [n_ge (by omega) (by omega)] at h5
          have h4 : M'.1 a 7 * M'.1 (a + 1) (nI i).toNatClampNeg - M'.1 a 7 * M'.1 (a + 1) (nI i).toNatClampNeg / lsum S p 6 * lsum S p 6 = shr S p paid c := h4
          rw [ev] at h4
          refine key none _ rfl ?_
          show nI (rnk S p paid c i) + 1 = _
          rw [nI_1, rnk, if_pos (Or.inr ⟨h4, by omega⟩)]
  · exact h.elim
set_option maxRecDepth 100000 in
theorem wk_X3_sharePaid (B : Nat) : fw_Wk B fl_X3 (cal_X3_sharePaid B) [] cst_X3 none kX3_sharePaid 4 (ct_X3_sharePaid B) := by
  intro as M Q QX h
  unfold ct_X3_sharePaid at h
  split at h
  · rename_i a
    obtain ⟨⟨k3, k1, k2, l1, l2⟩, S, p, ⟨hl, hLG⟩, h⟩ := h
    obtain ⟨A, hA, hA2, eA⟩ := LG_sum hLG
    have eR : rsum (M.1 (a + 1)) 6 = lsum S p 6 := rsum_l hl 6 (Nat.le_refl 6)
    generalize hP : M.1 a 7 = paid at h
    have hd : fw_sd (¬ lsum S p 6 = 0) := fw_sd_i (fun z => by
      have z : lsum S p 6 = nI 0 := z
      rw [eA, nI_eq hA2 (by decide)] at z
      omega)
    refine ⟨rfl, [
      (20, [true, true, true, true], fun n ls st M' => ∃ i, n = 100 + (6 - i) ∧ i ≤ 6 ∧ ls = [some (.ref a), some (.int (lsum S p 6)), some (.int (rst S p paid i)), some (.int (nI i))] ∧ st = [] ∧ M' = fw_row M (a + 2) (cpN i (fun c => shq S p paid c) (M.1 (a + 2)))),
      (74, [true, true, true, true], fun n ls st M' => ∃ i, n = 6 - i ∧ i ≤ 6 ∧ ls = [some (.ref a), some (.int (lsum S p 6)), some (.int (rst S p paid 6)), some (.int (nI i))] ∧ st = [] ∧ M' = fw_row M (a + 2) (cpN i (fun c => fsh S p paid c) (cpN 6 (fun c => shq S p paid c) (M.1 (a + 2)))))], ⟨60, ?_⟩, ?_⟩
    · refine And.intro k3 (And.intro k1 (And.intro l1 (And.intro (fun _ => ?_) (fun h1 => ?_))))
      · refine And.intro k3 ?_
        refine Exists.intro 106 (Exists.intro 0 ⟨rfl, by omega, ?_, rfl, ?_⟩)
        · show [some (Value.ref a), some (Value.int (rsum (M.1 (a + 1)) 6)), some (Value.int (M.1 a 7)), some (Value.int 0)] = _
          rw [eR, hP]; rfl
        · rw [cpN_0, row_self]
      · have h1 : ¬ nI 0 < rsum (M.1 (a + 1)) 6 := h1
        rw [eR, eA, n_lt (by decide) hA2] at h1
        omega
    · intro q hq n ls st M' hi
      simp only [List.mem_cons, List.not_mem_nil, or_false] at hq
      rcases hq with rfl | rfl
      · obtain ⟨i, rfl, hi, rfl, rfl, rfl⟩ := hi
        refine ⟨100, And.intro k3 (And.intro (kd_7 k1).1 (And.intro (kd_7 k1).2 (And.intro (fun h1 => ?_) (fun h1 => And.intro k3 (And.intro (kd_7 k2).1 (And.intro (kd_7 k2).2 (And.intro (fun h2 => ?_) (fun h2 => ?_))))))))⟩
        · have h1 : Int32.ofNat (fw_aln B (a + 1)) ≤ nI i := h1
          rw [aln7 k1 l1, n_ge (by decide) (by omega)] at h1
          have e6 : i = 6 := by omega
          subst e6
          refine Exists.intro 6 (And.intro (by omega) (Exists.intro 0 ⟨rfl, by omega, rfl, rfl, ?_⟩))
          rw [cpN_0]
        · have h1 : ¬ Int32.ofNat (fw_aln B (a + 1)) ≤ nI i := h1
          have h2 : Int32.ofNat (fw_aln B (a + 2)) ≤ nI i := h2
          rw [aln7 k1 l1, n_ge (by decide) (by omega)] at h1
          rw [aln7 k2 l2, n_ge (by decide) (by omega)] at h2
          omega
        · have h1 : ¬ Int32.ofNat (fw_aln B (a + 1)) ≤ nI i := h1
          rw [aln7 k1 l1, n_ge (by decide) (by omega)] at h1
          have f1 : ∀ X : Nat → Int32, (fw_row M (a + 2) X).1 (a + 1) = M.1 (a + 1) := fun X => row_n (by omega)
          have f0 : ∀ X : Nat → Int32, (fw_row M (a + 2) X).1 a = M.1 a := fun X => row_n (by omega)
          have ev : ∀ X : Nat → Int32, (fw_row M (a + 2) X).1 a 7 * (fw_row M (a + 2) X).1 (a + 1) (nI i).toNatClampNeg / lsum S p 6 = shq S p paid i := fun X => by
            rw [f1, f0, n_cl (by omega), hl i (by omega), hP]; rfl
          have v1 : fw_sd (vp_in (nI i) (fw_len B (a + 1))) := by rw [l1]; exact vn_i (by omega) (by decide)
          have v2 : fw_sd (vp_in (nI i) (fw_len B (a + 2))) := by rw [l2]; exact vn_i (by omega) (by decide)
          refine And.intro k3 (And.intro k3 (And.intro k3 (And.intro k1 (And.intro v1 (And.intro hd (And.intro k2 (And.intro v2 (And.intro k3 (And.intro k2 (And.intro v2 ?_))))))))))
          have eM : fw_st (fw_row M (a + 2) (cpN i (fun c => shq S p paid c) (M.1 (a + 2)))) (a + 2) (nI i).toNatClampNeg ((fw_row M (a + 2) (cpN i (fun c => shq S p paid c) (M.1 (a + 2)))).1 a 7 * (fw_row M (a + 2) (cpN i (fun c => shq S p paid c) (M.1 (a + 2)))).1 (a + 1) (nI i).toNatClampNeg / lsum S p 6) = fw_row M (a + 2) (cpN (i + 1) (fun c => shq S p paid c) (M.1 (a + 2))) := by
            rw [ev, n_cl (by omega), st_row, row_1, row_row]
            exact congrArg (fw_row M (a + 2)) (cpN_s (f := fun c => shq S p paid c))
          refine Exists.intro (100 + (6 - (i + 1))) (And.intro (by omega) (Exists.intro (i + 1) ⟨rfl, by omega, ?_, rfl, eM⟩))
          show [some (Value.ref a), some (Value.int (lsum S p 6)), some (Value.int (rst S p paid i - (fw_st (fw_row M (a + 2) (cpN i (fun c => shq S p paid c) (M.1 (a + 2)))) (a + 2) (nI i).toNatClampNeg ((fw_row M (a + 2) (cpN i (fun c => shq S p paid c) (M.1 (a + 2)))).1 a 7 * (fw_row M (a + 2) (cpN i (fun c => shq S p paid c) (M.1 (a + 2)))).1 (a + 1) (nI i).toNatClampNeg / lsum S p 6)).1 (a + 2) (nI i).toNatClampNeg)), some (Value.int (nI i + 1))] = _
          rw [eM, row_1, nI_1, n_cl (by omega)]
          unfold cpN
          rw [if_pos (Nat.lt_succ_self i)]
          rfl
      · obtain ⟨i, rfl, hi, rfl, rfl, rfl⟩ := hi
        refine ⟨100, And.intro k3 (And.intro (kd_7 k1).1 (And.intro (kd_7 k1).2 (And.intro (fun h1 => ?_) (fun h1 => And.intro k3 (And.intro (kd_7 k2).1 (And.intro (kd_7 k2).2 (And.intro (fun h2 => ?_) (fun h2 => ?_))))))))⟩
        · have h1 : Int32.ofNat (fw_aln B (a + 1)) ≤ nI i := h1
          rw [aln7 k1 l1, n_ge (by decide) (by omega)] at h1
          have e6 : i = 6 := by omega
          subst e6
          rw [cpN_over]
          exact h
        · have h1 : ¬ Int32.ofNat (fw_aln B (a + 1)) ≤ nI i := h1
          have h2 : Int32.ofNat (fw_aln B (a + 2)) ≤ nI i := h2
          rw [aln7 k1 l1, n_ge (by decide) (by omega)] at h1
          rw [aln7 k2 l2, n_ge (by decide) (by omega)] at h2
          omega
        · have h1 : ¬ Int32.ofNat (fw_aln B (a + 1)) ≤ nI i := h1
          rw [aln7 k1 l1, n_ge (by decide) (by omega)] at h1
          have v1 : fw_sd (vp_in (nI i) (fw_len B (a + 1))) := by rw [l1]; exact vn_i (by omega) (by decide)
          have v2 : fw_sd (vp_in (nI i) (fw_len B (a + 2))) := by rw [l2]; exact vn_i (by omega) (by decide)
          generalize hX : cpN i (fun c => fsh S p paid c) (cpN 6 (fun c => shq S p paid c) (M.1 (a + 2))) = X
          have f1 : (fw_row M (a + 2) X).1 (a + 1) = M.1 (a + 1) := row_n (by omega)
          have f0 : (fw_row M (a + 2) X).1 a = M.1 a := row_n (by omega)
          have e7 : (fw_row M (a + 2) X).1 a 7 = paid := by rw [f0, hP]
          have hXi : X i = shq S p paid i := by
            rw [← hX]; unfold cpN; rw [if_neg (by omega), if_pos (by omega)]
          have ev : (fw_row M (a + 2) X).1 a 7 * (fw_row M (a + 2) X).1 (a + 1) (nI i).toNatClampNeg - (fw_row M (a + 2) X).1 a 7 * (fw_row M (a + 2) X).1 (a + 1) (nI i).toNatClampNeg / lsum S p 6 * lsum S p 6 = shr S p ((fw_row M (a + 2) X).1 a 7) i := by
            rw [f1, e7, n_cl (by omega), hl i (by omega)]; rfl
          refine And.intro k3 (And.intro k3 (And.intro k1 (And.intro v1 (And.intro hd (And.intro k3 ?_)))))
          refine And.intro ⟨k3, k1, k2, l1, l2⟩ (Exists.intro S (Exists.intro p (Exists.intro i (And.intro ⟨fun c hc => by rw [f1]; exact hl c hc, hLG⟩ (And.intro (by omega) (And.intro rfl (And.intro ev (And.intro rfl (And.intro (fun h3 => ?_) (fun h3 => ?_))))))))))
          · have h3 : rst S p paid 6 ≤ nI (rnk S p ((fw_row M (a + 2) X).1 a 7) i 6) := h3
            rw [e7] at h3
            refine Exists.intro (6 - (i + 1)) (And.intro (by omega) (Exists.intro (i + 1) ⟨rfl, by omega, ?_, rfl, ?_⟩))
            · show [some (Value.ref a), some (Value.int (lsum S p 6)), some (Value.int (rst S p paid 6)), some (Value.int (nI i + 1))] = _
              rw [nI_1]
            · rw [← hX, cpN_keep (f := fun c => fsh S p paid c) (n := i)]
              show fsh S p paid i = cpN 6 (fun c => shq S p paid c) (M.1 (a + 2)) i
              unfold fsh cpN
              rw [if_neg (Int32.not_lt.mpr h3), if_pos (by omega)]
          · have h3 : ¬ rst S p paid 6 ≤ nI (rnk S p ((fw_row M (a + 2) X).1 a 7) i 6) := h3
            rw [e7] at h3
            refine And.intro k3 (And.intro k2 (And.intro v2 (And.intro k2 (And.intro v2 ?_))))
            refine Exists.intro (6 - (i + 1)) (And.intro (by omega) (Exists.intro (i + 1) ⟨rfl, by omega, ?_, rfl, ?_⟩))
            · show [some (Value.ref a), some (Value.int (lsum S p 6)), some (Value.int (rst S p paid 6)), some (Value.int (nI i + 1))] = _
              rw [nI_1]
            · show fw_st (fw_row M (a + 2) X) (a + 2) (nI i).toNatClampNeg ((fw_row M (a + 2) X).1 (a + 2) (nI i).toNatClampNeg + 1) = _
              rw [st_row, row_1, row_row, n_cl (by omega), hXi, ← cpN_s, hX]
              refine congrArg (fun v => fw_row M (a + 2) (upd X i v)) ?_
              show _ = fsh S p paid i
              unfold fsh
              rw [if_pos (Int32.not_le.mp h3)]
  · exact h.elim
set_option maxRecDepth 100000 in
theorem wk_X3_figure (B : Nat) : fw_Wk B fl_X3 (cal_X3_figure B) [] cst_X3 (some .int) kX3_figure 2 (ct_X3_figure B) := by
  intro as M Q QX h
  unfold ct_X3_figure at h
  split at h
  · rename_i a x
    obtain ⟨⟨k3, k1, k2, l1, l2⟩, w, hw, rfl, h⟩ := h
    have e : (nI w).toInt = (w : Int) := nI_toInt (by omega)
    have g : ∀ j, j < 8 → w = j → Q (some (.int (M.1 a j))) M := fun j hj ej => by
      rw [if_pos (by omega), ej] at h; exact h
    refine ⟨rfl, [], ⟨60, ?_⟩, nofun⟩
    refine And.intro (And.intro (fun z => ?_) (And.intro (fun z => ?_) (And.intro (fun z => ?_) (And.intro (fun z => ?_) (And.intro (fun z => ?_) (And.intro (fun z => ?_) (And.intro (fun z => ?_) (And.intro (fun z => ?_) trivial)))))))) (fun z => ?_)
    · exact And.intro k3 (g 0 (by decide) (by rw [e] at z; omega))
    · exact And.intro k3 (g 1 (by decide) (by rw [e] at z; omega))
    · exact And.intro k3 (g 2 (by decide) (by rw [e] at z; omega))
    · exact And.intro k3 (g 3 (by decide) (by rw [e] at z; omega))
    · exact And.intro k3 (g 4 (by decide) (by rw [e] at z; omega))
    · exact And.intro k3 (g 5 (by decide) (by rw [e] at z; omega))
    · exact And.intro k3 (g 6 (by decide) (by rw [e] at z; omega))
    · exact And.intro k3 (g 7 (by decide) (by rw [e] at z; omega))
    · have ew : w = 8 := by rw [e] at z; omega
      rw [if_neg (by omega)] at h
      exact And.intro k3 (And.intro k1 (And.intro l1 h))
  · exact h.elim
end WPs
end
section
/-! System.arraycopy's words -/
section ARR
theorem wl_X5_211 : Cond.methodLink RX5 211 arraycopyName ∈ fw_LW := fw_t2 92 (by decide +kernel) (by decide +kernel)
theorem ws_arraycopy : Cond.static arraycopyName ∈ fw_LW := fw_t2 93 (by decide +kernel) (by decide +kernel)
theorem wn_arraycopy : Cond.native arraycopyName ∈ fw_LW := fw_t2 94 (by decide +kernel) (by decide +kernel)
end ARR
end
section
/-! contracts out of walks (printed by program) -/
section
abbrev rm_X5_isZone : Room := { frames := 0, cells := 0, slots := 0, locals := 0 }
theorem me_X5_isZone (l : Launch) (g : fw_G) (B : Nat) : fw_Met l g B yX5_isZone cX5_isZone 1 (some .boolean) rm_X5_isZone 0 0 (ct_X5_isZone B) := by
  refine fw_met (own := RX5) (by decide +kernel) rfl kX5_isZone_ok kX5_isZone_cst fl_X5_ok ?_ ?_ (wk_X5_isZone B)
  · intro q hq
    simp only [cal_X5_isZone, List.mem_cons, List.not_mem_nil, or_false] at hq
  · exact fun q hq => nomatch hq
abbrev rm_X5_isArea : Room := { frames := 0, cells := 0, slots := 0, locals := 0 }
theorem me_X5_isArea (l : Launch) (g : fw_G) (B : Nat) : fw_Met l g B yX5_isArea cX5_isArea 1 (some .boolean) rm_X5_isArea 0 0 (ct_X5_isArea B) := by
  refine fw_met (own := RX5) (by decide +kernel) rfl kX5_isArea_ok kX5_isArea_cst fl_X5_ok ?_ ?_ (wk_X5_isArea B)
  · intro q hq
    simp only [cal_X5_isArea, List.mem_cons, List.not_mem_nil, or_false] at hq
  · exact fun q hq => nomatch hq
abbrev rm_X5_isCutOff : Room := { frames := 0, cells := 0, slots := 0, locals := 0 }
theorem me_X5_isCutOff (l : Launch) (g : fw_G) (B : Nat) : fw_Met l g B yX5_isCutOff cX5_isCutOff 1 (some .boolean) rm_X5_isCutOff 0 0 (ct_X5_isCutOff B) := by
  refine fw_met (own := RX5) (by decide +kernel) rfl kX5_isCutOff_ok kX5_isCutOff_cst fl_X5_ok ?_ ?_ (wk_X5_isCutOff B)
  · intro q hq
    simp only [cal_X5_isCutOff, List.mem_cons, List.not_mem_nil, or_false] at hq
  · exact fun q hq => nomatch hq
abbrev rm_X5_isTip : Room := { frames := 0, cells := 0, slots := 0, locals := 0 }
theorem me_X5_isTip (l : Launch) (g : fw_G) (B : Nat) : fw_Met l g B yX5_isTip cX5_isTip 1 (some .boolean) rm_X5_isTip 0 0 (ct_X5_isTip B) := by
  refine fw_met (own := RX5) (by decide +kernel) rfl kX5_isTip_ok kX5_isTip_cst fl_X5_ok ?_ ?_ (wk_X5_isTip B)
  · intro q hq
    simp only [cal_X5_isTip, List.mem_cons, List.not_mem_nil, or_false] at hq
  · exact fun q hq => nomatch hq
abbrev rm_X5_isTicks : Room := { frames := 0, cells := 0, slots := 0, locals := 0 }
theorem me_X5_isTicks (l : Launch) (g : fw_G) (B : Nat) : fw_Met l g B yX5_isTicks cX5_isTicks 1 (some .boolean) rm_X5_isTicks 0 0 (ct_X5_isTicks B) := by
  refine fw_met (own := RX5) (by decide +kernel) rfl kX5_isTicks_ok kX5_isTicks_cst fl_X5_ok ?_ ?_ (wk_X5_isTicks B)
  · intro q hq
    simp only [cal_X5_isTicks, List.mem_cons, List.not_mem_nil, or_false] at hq
  · exact fun q hq => nomatch hq
abbrev rm_X5_holds : Room := { frames := 0, cells := 0, slots := 0, locals := 0 }
theorem me_X5_holds (l : Launch) (g : fw_G) (B : Nat) : fw_Met l g B yX5_holds cX5_holds 2 (some .boolean) rm_X5_holds 0 0 (ct_X5_holds B) := by
  refine fw_met (own := RX5) (by decide +kernel) rfl kX5_holds_ok kX5_holds_cst fl_X5_ok ?_ ?_ (wk_X5_holds B)
  · intro q hq
    simp only [cal_X5_holds, List.mem_cons, List.not_mem_nil, or_false] at hq
  · exact fun q hq => nomatch hq
abbrev rm_X5_nextZone : Room := { frames := 0, cells := 0, slots := 0, locals := 0 }
theorem me_X5_nextZone (l : Launch) (g : fw_G) (B : Nat) : fw_Met l g B yX5_nextZone cX5_nextZone 4 (some .int) rm_X5_nextZone 0 0 (ct_X5_nextZone B) := by
  refine fw_met (own := RX5) (by decide +kernel) rfl kX5_nextZone_ok kX5_nextZone_cst fl_X5_ok ?_ ?_ (wk_X5_nextZone B)
  · intro q hq
    simp only [cal_X5_nextZone, List.mem_cons, List.not_mem_nil, or_false] at hq
  · exact fun q hq => nomatch hq
abbrev rm_X5_at : Room := { frames := 0, cells := 0, slots := 0, locals := 0 }
theorem me_X5_at (l : Launch) (g : fw_G) (B : Nat) : fw_Met l g B yX5_at cX5_at 2 (some .int) rm_X5_at 0 0 (ct_X5_at B) := by
  refine fw_met (own := RX5) (by decide +kernel) rfl kX5_at_ok kX5_at_cst fl_X5_ok ?_ ?_ (wk_X5_at B)
  · intro q hq
    simp only [cal_X5_at, List.mem_cons, List.not_mem_nil, or_false] at hq
  · exact fun q hq => nomatch hq
abbrev rm_X5_sum : Room := { frames := 0, cells := 0, slots := 0, locals := 0 }
theorem me_X5_sum (l : Launch) (g : fw_G) (B : Nat) : fw_Met l g B yX5_sum cX5_sum 3 (some .int) rm_X5_sum 0 0 (ct_X5_sum B) := by
  refine fw_met (own := RX5) (by decide +kernel) rfl kX5_sum_ok kX5_sum_cst fl_X5_ok ?_ ?_ (wk_X5_sum B)
  · intro q hq
    simp only [cal_X5_sum, List.mem_cons, List.not_mem_nil, or_false] at hq
  · exact fun q hq => nomatch hq
abbrev rm_X5_copyRow : Room := { frames := 1, cells := 0, slots := 0, locals := 60 }
theorem me_X5_copyRow (l : Launch) (g : fw_G) (B : Nat) : fw_Met l g B yX5_copyRow cX5_copyRow 2 (none) rm_X5_copyRow 0 0 (ct_X5_copyRow B) := by
  refine fw_met (own := RX5) (by decide +kernel) rfl kX5_copyRow_ok kX5_copyRow_cst fl_X5_ok ?_ ?_ (wk_X5_copyRow B)
  · intro q hq
    simp only [cal_X5_copyRow, List.mem_cons, List.not_mem_nil, or_false] at hq
    rcases hq with rfl | rfl
    · exact fw_calMin wl_X5_208 ws_J9_min_7cf53 wz_Math wc_J9_min_7cf53 (by decide) (by decide)
    · exact fw_calCopy wl_X5_211 wn_arraycopy ws_arraycopy wz_System (by decide) (by decide +kernel)
  · exact fun q hq => nomatch hq
end
end
section
/-! contracts out of walks (printed by program) -/
section
abbrev rm_X0_setFree : Room := { frames := 0, cells := 0, slots := 0, locals := 0 }
theorem me_X0_setFree (l : Launch) (g : fw_G) (B : Nat) : fw_Met l g B yX0_setFree cX0_setFree 1 (none) rm_X0_setFree 0 0 (ct_X0_setFree B) := by
  refine fw_met (own := RX0) (by decide +kernel) rfl kX0_setFree_ok kX0_setFree_cst fl_X0_ok ?_ ?_ (wk_X0_setFree B)
  · intro q hq
    simp only [cal_X0_setFree, List.mem_cons, List.not_mem_nil, or_false] at hq
  · exact fun q hq => nomatch hq
abbrev rm_X0_begin : Room := { frames := 1, cells := 0, slots := 0, locals := 20 }
theorem me_X0_begin (l : Launch) (g : fw_G) (B : Nat) : fw_Met l g B yX0_begin cX0_begin 3 (none) rm_X0_begin 0 0 (ct_X0_begin B) := by
  refine fw_met (own := RX0) (by decide +kernel) rfl kX0_begin_ok kX0_begin_cst fl_X0_ok ?_ ?_ (wk_X0_begin B)
  · intro q hq
    simp only [cal_X0_begin, List.mem_cons, List.not_mem_nil, or_false] at hq
    rcases hq with rfl
    · exact fw_calV (ci := 0) (me_X0_setFree l g B) (by decide) wl_X0_24 wi_X0_setFree wv_X0_setFree wz_RX0 wc_X0_setFree rfl rfl (by decide +kernel) ⟨by decide, by decide⟩
  · exact fun q hq => nomatch hq
abbrev rm_X0_become : Room := { frames := 0, cells := 0, slots := 0, locals := 0 }
theorem me_X0_become (l : Launch) (g : fw_G) (B : Nat) : fw_Met l g B yX0_become cX0_become 2 (none) rm_X0_become 0 0 (ct_X0_become B) := by
  refine fw_met (own := RX0) (by decide +kernel) rfl kX0_become_ok kX0_become_cst fl_X0_ok ?_ ?_ (wk_X0_become B)
  · intro q hq
    simp only [cal_X0_become, List.mem_cons, List.not_mem_nil, or_false] at hq
  · exact fun q hq => nomatch hq
end
end
section
/-! contracts out of walks (printed by program) -/
section
abbrev rm_X3_begin : Room := { frames := 0, cells := 0, slots := 0, locals := 0 }
theorem me_X3_begin (l : Launch) (g : fw_G) (B : Nat) : fw_Met l g B yX3_begin cX3_begin 6 (none) rm_X3_begin 0 0 (ct_X3_begin B) := by
  refine fw_met (own := RX3) (by decide +kernel) rfl kX3_begin_ok kX3_begin_cst fl_X3_ok ?_ ?_ (wk_X3_begin B)
  · intro q hq
    simp only [cal_X3_begin, List.mem_cons, List.not_mem_nil, or_false] at hq
  · exact fun q hq => nomatch hq
abbrev rm_X3_become : Room := { frames := 2, cells := 0, slots := 0, locals := 81 }
theorem me_X3_become (l : Launch) (g : fw_G) (B : Nat) : fw_Met l g B yX3_become cX3_become 2 (none) rm_X3_become 0 0 (ct_X3_become B) := by
  refine fw_met (own := RX3) (by decide +kernel) rfl kX3_become_ok kX3_become_cst fl_X3_ok ?_ ?_ (wk_X3_become B)
  · intro q hq
    simp only [cal_X3_become, List.mem_cons, List.not_mem_nil, or_false] at hq
    rcases hq with rfl
    · exact fw_calSN (me_X5_copyRow l g B) (List.mem_append_left _ (List.mem_map.mpr ⟨(RX3, 43, yX5_copyRow, "CourierRelay"), List.mem_of_getElem? (i := 4) rfl, rfl⟩)) ws_X5_copyRow wz_RX5 wc_X5_copyRow rfl rfl (by decide +kernel) ⟨by decide, by decide⟩
  · exact fun q hq => nomatch hq
abbrev rm_X3_isOpen : Room := { frames := 0, cells := 0, slots := 0, locals := 0 }
theorem me_X3_isOpen (l : Launch) (g : fw_G) (B : Nat) : fw_Met l g B yX3_isOpen cX3_isOpen 1 (some .boolean) rm_X3_isOpen 0 0 (ct_X3_isOpen B) := by
  refine fw_met (own := RX3) (by decide +kernel) rfl kX3_isOpen_ok kX3_isOpen_cst fl_X3_ok ?_ ?_ (wk_X3_isOpen B)
  · intro q hq
    simp only [cal_X3_isOpen, List.mem_cons, List.not_mem_nil, or_false] at hq
  · exact fun q hq => nomatch hq
abbrev rm_X3_suits : Room := { frames := 1, cells := 0, slots := 0, locals := 23 }
theorem me_X3_suits (l : Launch) (g : fw_G) (B : Nat) : fw_Met l g B yX3_suits cX3_suits 2 (some .boolean) rm_X3_suits 0 0 (ct_X3_suits B) := by
  refine fw_met (own := RX3) (by decide +kernel) rfl kX3_suits_ok kX3_suits_cst fl_X3_ok ?_ ?_ (wk_X3_suits B)
  · intro q hq
    simp only [cal_X3_suits, List.mem_cons, List.not_mem_nil, or_false] at hq
    rcases hq with rfl | rfl
    · exact fw_calSN (me_X5_holds l g B) (List.mem_append_left _ (List.mem_map.mpr ⟨(RX3, 47, yX5_holds, "CourierRelay"), List.mem_of_getElem? (i := 5) rfl, rfl⟩)) ws_X5_holds wz_RX5 wc_X5_holds rfl rfl (by decide +kernel) ⟨by decide, by decide⟩
    · exact fw_calSN (me_X5_nextZone l g B) (List.mem_append_left _ (List.mem_map.mpr ⟨(RX3, 51, yX5_nextZone, "CourierRelay"), List.mem_of_getElem? (i := 6) rfl, rfl⟩)) ws_X5_nextZone wz_RX5 wc_X5_nextZone rfl rfl (by decide +kernel) ⟨by decide, by decide⟩
  · exact fun q hq => nomatch hq
abbrev rm_X3_legsOf : Room := { frames := 1, cells := 0, slots := 0, locals := 21 }
theorem me_X3_legsOf (l : Launch) (g : fw_G) (B : Nat) : fw_Met l g B yX3_legsOf cX3_legsOf 2 (some .int) rm_X3_legsOf 0 0 (ct_X3_legsOf B) := by
  refine fw_met (own := RX3) (by decide +kernel) rfl kX3_legsOf_ok kX3_legsOf_cst fl_X3_ok ?_ ?_ (wk_X3_legsOf B)
  · intro q hq
    simp only [cal_X3_legsOf, List.mem_cons, List.not_mem_nil, or_false] at hq
    rcases hq with rfl
    · exact fw_calSN (me_X5_at l g B) (List.mem_append_left _ (List.mem_map.mpr ⟨(RX3, 55, yX5_at, "CourierRelay"), List.mem_of_getElem? (i := 7) rfl, rfl⟩)) ws_X5_at wz_RX5 wc_X5_at rfl rfl (by decide +kernel) ⟨by decide, by decide⟩
  · exact fun q hq => nomatch hq
abbrev rm_X3_shareOf : Room := { frames := 1, cells := 0, slots := 0, locals := 21 }
theorem me_X3_shareOf (l : Launch) (g : fw_G) (B : Nat) : fw_Met l g B yX3_shareOf cX3_shareOf 2 (some .int) rm_X3_shareOf 0 0 (ct_X3_shareOf B) := by
  refine fw_met (own := RX3) (by decide +kernel) rfl kX3_shareOf_ok kX3_shareOf_cst fl_X3_ok ?_ ?_ (wk_X3_shareOf B)
  · intro q hq
    simp only [cal_X3_shareOf, List.mem_cons, List.not_mem_nil, or_false] at hq
    rcases hq with rfl
    · exact fw_calSN (me_X5_at l g B) (List.mem_append_left _ (List.mem_map.mpr ⟨(RX3, 55, yX5_at, "CourierRelay"), List.mem_of_getElem? (i := 7) rfl, rfl⟩)) ws_X5_at wz_RX5 wc_X5_at rfl rfl (by decide +kernel) ⟨by decide, by decide⟩
  · exact fun q hq => nomatch hq
abbrev rm_X3_addLeg : Room := { frames := 0, cells := 0, slots := 0, locals := 0 }
theorem me_X3_addLeg (l : Launch) (g : fw_G) (B : Nat) : fw_Met l g B yX3_addLeg cX3_addLeg 2 (none) rm_X3_addLeg 0 0 (ct_X3_addLeg B) := by
  refine fw_met (own := RX3) (by decide +kernel) rfl kX3_addLeg_ok kX3_addLeg_cst fl_X3_ok ?_ ?_ (wk_X3_addLeg B)
  · intro q hq
    simp only [cal_X3_addLeg, List.mem_cons, List.not_mem_nil, or_false] at hq
  · exact fun q hq => nomatch hq
abbrev rm_X3_rankOf : Room := { frames := 0, cells := 0, slots := 0, locals := 0 }
theorem me_X3_rankOf (l : Launch) (g : fw_G) (B : Nat) : fw_Met l g B yX3_rankOf cX3_rankOf 7 (some .int) rm_X3_rankOf 0 0 (ct_X3_rankOf B) := by
  refine fw_met (own := RX3) (by decide +kernel) rfl kX3_rankOf_ok kX3_rankOf_cst fl_X3_ok ?_ ?_ (wk_X3_rankOf B)
  · intro q hq
    simp only [cal_X3_rankOf, List.mem_cons, List.not_mem_nil, or_false] at hq
  · exact fun q hq => nomatch hq
abbrev rm_X3_sharePaid : Room := { frames := 1, cells := 0, slots := 0, locals := 26 }
theorem me_X3_sharePaid (l : Launch) (g : fw_G) (B : Nat) : fw_Met l g B yX3_sharePaid cX3_sharePaid 4 (none) rm_X3_sharePaid 0 0 (ct_X3_sharePaid B) := by
  refine fw_met (own := RX3) (by decide +kernel) rfl kX3_sharePaid_ok kX3_sharePaid_cst fl_X3_ok ?_ ?_ (wk_X3_sharePaid B)
  · intro q hq
    simp only [cal_X3_sharePaid, List.mem_cons, List.not_mem_nil, or_false] at hq
    rcases hq with rfl | rfl
    · exact fw_calSN (me_X5_sum l g B) (List.mem_append_left _ (List.mem_map.mpr ⟨(RX3, 59, yX5_sum, "CourierRelay"), List.mem_of_getElem? (i := 8) rfl, rfl⟩)) ws_X5_sum wz_RX5 wc_X5_sum rfl rfl (by decide +kernel) ⟨by decide, by decide⟩
    · exact fw_calV (ci := 3) (me_X3_rankOf l g B) (by decide) wl_X3_63 wi_X3_rankOf wv_X3_rankOf wz_RX3 wc_X3_rankOf rfl rfl (by decide +kernel) ⟨by decide, by decide⟩
  · exact fun q hq => nomatch hq
abbrev rm_X3_figure : Room := { frames := 1, cells := 0, slots := 0, locals := 22 }
theorem me_X3_figure (l : Launch) (g : fw_G) (B : Nat) : fw_Met l g B yX3_figure cX3_figure 2 (some .int) rm_X3_figure 0 0 (ct_X3_figure B) := by
  refine fw_met (own := RX3) (by decide +kernel) rfl kX3_figure_ok kX3_figure_cst fl_X3_ok ?_ ?_ (wk_X3_figure B)
  · intro q hq
    simp only [cal_X3_figure, List.mem_cons, List.not_mem_nil, or_false] at hq
    rcases hq with rfl
    · exact fw_calSN (me_X5_sum l g B) (List.mem_append_left _ (List.mem_map.mpr ⟨(RX3, 59, yX5_sum, "CourierRelay"), List.mem_of_getElem? (i := 8) rfl, rfl⟩)) ws_X5_sum wz_RX5 wc_X5_sum rfl rfl (by decide +kernel) ⟨by decide, by decide⟩
  · exact fun q hq => nomatch hq
end
end
section
/-! WHAT AN EXCHANGE'S METHODS DO -/
section CT1
/-- nobody else aims at a courier's parcel; who is on the way aims at a waiting one -/
def J (S : Sx) : Prop := (∀ c d p, c < cn S → d < cn S → p < pn S → sC S c 4 = nI p → sC S d 4 = nI p → c = d) ∧ ∀ c p, c < cn S → p < pn S → sC S c 4 = nI p → sC S c 3 = 1 → sP S p 4 = 0
/-- all couriers are free and none finds a parcel -/
def Idle (S : Sx) : Prop := ∀ c, c < cn S → sC S c 3 = 0 ∧ sC S c 4 = -1 ∧ ∀ p, p < pn S → may S c p = false
/-- the exchange at x holds S, well -/
def XS (B : Nat) (M : fw_M) (x b : Nat) (S : Sx) : Prop := EX B x ∧ Rep M.1 x S ∧ WF b S
def sought (S : Sx) (v : Int32) : Nat → Bool
  | 0 => false
  | c + 1 => sought S v c || decide (sC S c 4 = v)
def ct_X1_courierAt (B : Nat) : fw_CTX := fun as M Q _ => match as with
  | [.ref x, .int v] => EX B x ∧ ∃ n, n ≤ 6 ∧ M.1 x 2 = nI n ∧ ((∃ k, k < n ∧ v = nI k ∧ Q (some (.ref (x + 3 + k))) M) ∨ ((∀ k, k < n → v ≠ nI k) ∧ Q (some .null) M))
  | _ => False
def ct_X1_parcelAt (B : Nat) : fw_CTX := fun as M Q _ => match as with
  | [.ref x, .int v] => EX B x ∧ ∃ n, n ≤ 24 ∧ M.1 x 3 = nI n ∧ ((∃ k, k < n ∧ v = nI k ∧ Q (some (.ref (x + 9 + 3 * k))) M) ∨ ((∀ k, k < n → v ≠ nI k) ∧ Q (some .null) M))
  | _ => False
def ct_X1_isSought (B : Nat) : fw_CTX := fun as M Q _ => match as with
  | [.ref x, .int v] => ∃ b S, XS B M x b S ∧ Q (some (.int (bi (sought S v (cn S))))) M
  | _ => False
def ct_X1_parcelsIn (B : Nat) : fw_CTX := fun as M Q _ => match as with
  | [.ref x, .int q] => ∃ b S, XS B M x b S ∧ Q (some (.int (inSt S q (pn S)))) M
  | _ => False
def ct_X1_legsBy (B : Nat) : fw_CTX := fun as M Q _ => match as with
  | [.ref x, .int v] => ∃ b S c, XS B M x b S ∧ c < 6 ∧ v = nI c ∧ Q (some (.int (lgC S c (pn S)))) M
  | _ => False
def ct_X1_figure (B : Nat) : fw_CTX := fun as M Q _ => match as with
  | [.ref x, .int v] => ∃ b S w, XS B M x b S ∧ w ≤ 10 ∧ v = nI w ∧ Q (some (.int (valS S w))) M
  | _ => False
def ct_X1_courierFigure (B : Nat) : fw_CTX := fun as M Q _ => match as with
  | [.ref x, .ref y, .int u, .int v] => ∃ b S c w, XS B M x b S ∧ c < cn S ∧ w ≤ 5 ∧ y = x + 3 + c ∧ u = nI c ∧ v = nI w ∧ Q (some (.int (crS S c w))) M
  | _ => False
/-! those that change it -/
def to (x : Nat) (M : fw_M) (S' : Sx) (Q : fw_M → Prop) : Prop := ∀ M', Rep M'.1 x S' → FX x M M' → Q M'
def ct_X1_release (B : Nat) : fw_CTX := fun as M Q _ => match as with
  | [.ref x, .ref y] => ∃ b S c, XS B M x b S ∧ J S ∧ c < cn S ∧ y = x + 3 + c ∧ to x M (drS S c) (Q none)
  | _ => False
def ct_X1_deliver (B : Nat) : fw_CTX := fun as M Q _ => match as with
  | [.ref x, .ref q] => EX B x ∧ ∃ S p k, Rep M.1 x S ∧ S 2 = nI (cn S) ∧ p < pn S ∧ q = x + 9 + 3 * p ∧ LG S p ∧ k ≤ 1000 ∧ sP S p 3 = nI k ∧ to x M (shareS (dl1 S p) p (payS S p)) (Q none)
  | _ => False
def ct_X1_carry (B : Nat) : fw_CTX := fun as M Q _ => match as with
  | [.ref x, .ref y, .int u, .ref q] => ∃ b S c p, b < 50000 ∧ XS B M x b S ∧ c < cn S ∧ p < pn S ∧ y = x + 3 + c ∧ u = nI c ∧ q = x + 9 + 3 * p ∧ to x M (carS S c p) (Q none)
  | _ => False
def ct_X1_approach (B : Nat) : fw_CTX := fun as M Q _ => match as with
  | [.ref x, .ref y, .ref q] => ∃ b S c p, XS B M x b S ∧ c < cn S ∧ p < pn S ∧ y = x + 3 + c ∧ q = x + 9 + 3 * p ∧ to x M (goS S c p) (Q none)
  | _ => False
def ct_X1_choose (B : Nat) : fw_CTX := fun as M Q _ => match as with
  | [.ref x, .ref y] => ∃ b S c, XS B M x b S ∧ c < cn S ∧ y = x + 3 + c ∧ to x M (chS S c) (Q none)
  | _ => False
def ct_X1_freeCouriersOf (B : Nat) : fw_CTX := fun as M Q _ => match as with
  | [.ref x, .int v] => EX B x ∧ ∃ S p, Rep M.1 x S ∧ S 2 = nI (cn S) ∧ v = nI p ∧ to x M (frW S p (cn S)) (Q none)
  | _ => False
def ct_X1_failLateParcels (B : Nat) : fw_CTX := fun as M Q _ => match as with
  | [.ref x] => ∃ b S, XS B M x b S ∧ to x M (flW S (pn S)) (Q none)
  | _ => False
def ct_X1_tick (B : Nat) : fw_CTX := fun as M Q _ => match as with
  | [.ref x, .int u] => ∃ b S, b < 40000 ∧ XS B M x b S ∧ J S ∧ (u = 1 ∨ (u = 0 ∧ Idle S)) ∧ ∀ M' v, Rep M'.1 x (tickS S) → FX x M M' → (v = 1 ∨ (v = 0 ∧ Idle (tickS S))) → Q (some (.int v)) M'
  | _ => False
def ct_X1_pass (B : Nat) : fw_CTX := fun as M Q _ => match as with
  | [.ref x, .int u] => ∃ b S n, b + 6 * n ≤ 40000 ∧ u = nI n ∧ XS B M x b S ∧ J S ∧ to x M (tkN S n) (Q (some (.int (payN S n))))
  | _ => False
def ct_X1_join (B : Nat) : fw_CTX := fun as M Q _ => match as with
  | [.ref x, .int ar, .int z] => ∃ b S, XS B M x b S ∧ cn S < 6 ∧ to x M (addS S ar z) (Q (some (.int (S 2))))
  | _ => False
def ct_X1_accept (B : Nat) : fw_CTX := fun as M Q _ => match as with
  | [.ref x, .int o, .int g, .int k, .int t] => ∃ b S, XS B M x b S ∧ pn S < 24 ∧ to x M (comS S o g k t) (Q (some (.int (S 3))))
  | _ => False
def ct_X1_become (B : Nat) : fw_CTX := fun as M Q _ => match as with
  | [.ref x, .ref y] => EX B x ∧ x ≠ y ∧ ∃ b S, XS B M y b S ∧ to x M S (Q none)
  | _ => False
end CT1
end
section
/-! the callees of each method (printed by program) -/
def cal_X1_become (B : Nat) : List fw_Cal := [(47, 0, 1, 2, 0, fun as M Q => ct_X1_courierAt B as M Q (fun _ _ => False)),
  (51, 0, 0, 2, 0, fun as M Q => ct_X0_become B as M Q (fun _ _ => False)),
  (55, 0, 1, 2, 0, fun as M Q => ct_X1_parcelAt B as M Q (fun _ _ => False)),
  (59, 0, 3, 2, 0, fun as M Q => ct_X3_become B as M Q (fun _ _ => False))]
def cal_X1_courierAt (B : Nat) : List fw_Cal := []
def cal_X1_parcelAt (B : Nat) : List fw_Cal := []
def cal_X1_join (B : Nat) : List fw_Cal := [(47, 0, 1, 2, 0, fun as M Q => ct_X1_courierAt B as M Q (fun _ _ => False)),
  (62, 0, 0, 3, 0, fun as M Q => ct_X0_begin B as M Q (fun _ _ => False))]
def cal_X1_accept (B : Nat) : List fw_Cal := [(55, 0, 1, 2, 0, fun as M Q => ct_X1_parcelAt B as M Q (fun _ _ => False)),
  (66, 0, 3, 5, 0, fun as M Q => ct_X3_begin B as M Q (fun _ _ => False))]
def cal_X1_release (B : Nat) : List fw_Cal := [(55, 0, 1, 2, 0, fun as M Q => ct_X1_parcelAt B as M Q (fun _ _ => False)),
  (75, 0, 0, 1, 0, fun as M Q => ct_X0_setFree B as M Q (fun _ _ => False))]
def cal_X1_pass (B : Nat) : List fw_Cal := [(84, 0, 1, 2, 0, fun as M Q => ct_X1_tick B as M Q (fun _ _ => False))]
def cal_X1_tick (B : Nat) : List fw_Cal := [(47, 0, 1, 2, 0, fun as M Q => ct_X1_courierAt B as M Q (fun _ _ => False)),
  (55, 0, 1, 2, 0, fun as M Q => ct_X1_parcelAt B as M Q (fun _ _ => False)),
  (95, 0, 1, 4, 0, fun as M Q => ct_X1_carry B as M Q (fun _ _ => False)),
  (99, 0, 1, 3, 0, fun as M Q => ct_X1_approach B as M Q (fun _ _ => False)),
  (103, 0, 1, 2, 0, fun as M Q => ct_X1_choose B as M Q (fun _ _ => False)),
  (106, 0, 1, 1, 0, fun as M Q => ct_X1_failLateParcels B as M Q (fun _ _ => False))]
def cal_X1_carry (B : Nat) : List fw_Cal := [(115, 1, 0, 2, 0, fun as M Q => ct_X5_nextZone B as M Q (fun _ _ => False)),
  (119, 1, 0, 2, 0, fun as M Q => ct_X5_holds B as M Q (fun _ _ => False)),
  (75, 0, 0, 1, 0, fun as M Q => ct_X0_setFree B as M Q (fun _ _ => False)),
  (124, 0, 3, 2, 0, fun as M Q => ct_X3_addLeg B as M Q (fun _ _ => False)),
  (128, 0, 1, 2, 0, fun as M Q => ct_X1_deliver B as M Q (fun _ _ => False))]
def cal_X1_deliver (B : Nat) : List fw_Cal := [(141, 0, 3, 1, 0, fun as M Q => ct_X3_sharePaid B as M Q (fun _ _ => False)),
  (47, 0, 1, 2, 0, fun as M Q => ct_X1_courierAt B as M Q (fun _ _ => False)),
  (147, 0, 3, 2, 0, fun as M Q => ct_X3_shareOf B as M Q (fun _ _ => False))]
def cal_X1_approach (B : Nat) : List fw_Cal := [(115, 1, 0, 2, 0, fun as M Q => ct_X5_nextZone B as M Q (fun _ _ => False))]
def cal_X1_choose (B : Nat) : List fw_Cal := [(75, 0, 0, 1, 0, fun as M Q => ct_X0_setFree B as M Q (fun _ _ => False)),
  (55, 0, 1, 2, 0, fun as M Q => ct_X1_parcelAt B as M Q (fun _ _ => False)),
  (150, 0, 3, 2, 0, fun as M Q => ct_X3_suits B as M Q (fun _ _ => False)),
  (154, 0, 1, 2, 0, fun as M Q => ct_X1_isSought B as M Q (fun _ _ => False))]
def cal_X1_isSought (B : Nat) : List fw_Cal := [(47, 0, 1, 2, 0, fun as M Q => ct_X1_courierAt B as M Q (fun _ _ => False))]
def cal_X1_failLateParcels (B : Nat) : List fw_Cal := [(55, 0, 1, 2, 0, fun as M Q => ct_X1_parcelAt B as M Q (fun _ _ => False)),
  (157, 0, 3, 1, 0, fun as M Q => ct_X3_isOpen B as M Q (fun _ _ => False)),
  (161, 0, 1, 2, 0, fun as M Q => ct_X1_freeCouriersOf B as M Q (fun _ _ => False))]
def cal_X1_freeCouriersOf (B : Nat) : List fw_Cal := [(47, 0, 1, 2, 0, fun as M Q => ct_X1_courierAt B as M Q (fun _ _ => False)),
  (75, 0, 0, 1, 0, fun as M Q => ct_X0_setFree B as M Q (fun _ _ => False))]
def cal_X1_parcelsIn (B : Nat) : List fw_Cal := [(55, 0, 1, 2, 0, fun as M Q => ct_X1_parcelAt B as M Q (fun _ _ => False))]
def cal_X1_legsBy (B : Nat) : List fw_Cal := [(55, 0, 1, 2, 0, fun as M Q => ct_X1_parcelAt B as M Q (fun _ _ => False)),
  (167, 0, 3, 2, 0, fun as M Q => ct_X3_legsOf B as M Q (fun _ _ => False))]
def cal_X1_figure (B : Nat) : List fw_Cal := [(88, 0, 1, 2, 0, fun as M Q => ct_X1_parcelsIn B as M Q (fun _ _ => False))]
def cal_X1_courierFigure (B : Nat) : List fw_Cal := [(170, 0, 1, 2, 0, fun as M Q => ct_X1_legsBy B as M Q (fun _ _ => False))]
end
section
/-! AN EXCHANGE'S METHODS WALKED: those that tell -/
section WX1
set_option maxRecDepth 100000 in
theorem wk_X1_courierAt (B : Nat) : fw_Wk B fl_X1 (cal_X1_courierAt B) [] cst_X1 (some (.object RX0)) kX1_courierAt 2 (ct_X1_courierAt B) := by
  intro as M Q QX h
  unfold ct_X1_courierAt at h
  split at h
  · rename_i x v
    obtain ⟨hE, n, hn, e2, h⟩ := h
    have el : Int32.ofNat (fw_aln B (x + 1)) = nI 6 := by unfold fw_aln; rw [kXc hE]; rfl
    have k8 : 8 ≤ fw_kd B (x + 1) ∧ fw_kd B (x + 1) ≤ 10 := by rw [kXc hE]; decide
    have k7 : 7 ≤ fw_kd B (x + 1) := by omega
    have no : (∀ k, k < n → v ≠ nI k) → Q (some .null) M := fun hv => by
      rcases h with ⟨k, hk, e, -⟩ | ⟨-, h⟩
      · exact absurd e (hv k hk)
      · exact h
    refine ⟨rfl, [], ⟨60, And.intro (fun h1 => ?_) (fun h1 => And.intro (kX hE) (And.intro (fun h2 => ?_) (fun h2 => And.intro (kX hE) (And.intro k7 (And.intro k8.2 (And.intro (fun h3 => ?_) (fun h3 => ?_)))))))⟩, nofun⟩
    · refine no (fun k hk e => ?_)
      rw [e] at h1
      have h1 : nI k < nI 0 := h1
      rw [n_lt (by omega) (by decide)] at h1
      omega
    · refine no (fun k hk e => ?_)
      have h2 : M.1 x 2 ≤ v := h2
      rw [e2, e, n_ge (by omega) (by omega)] at h2
      omega
    · have h2 : ¬ M.1 x 2 ≤ v := h2
      rw [e2] at h2
      obtain ⟨k, hk, rfl⟩ := nI_of h1
      rw [n_ge (by omega) hk] at h2
      rcases h with ⟨k', hk', e, h⟩ | ⟨hv, -⟩
      · rw [nI_eq hk (by omega)] at e
        subst e
        refine And.intro (kX hE) (And.intro k8.1 (And.intro k8.2 (And.intro ?_ ?_)))
        · show fw_sd (vp_in (nI k) (fw_al (fw_kd B (x + 1))))
          rw [kXc hE]; exact vn_i (by show k < 6; omega) (by decide)
        · show Q (some (.ref (fw_el (fw_kd B (x + 1)) (x + 1) (nI k).toNatClampNeg))) M
          rw [kXc hE, n_cl hk]
          exact h
      · exact absurd rfl (hv k (by omega))
    · have h2 : ¬ M.1 x 2 ≤ v := h2
      rw [e2] at h2
      obtain ⟨k, hk, rfl⟩ := nI_of h1
      rw [n_ge (by omega) hk] at h2
      have h3 : ¬ nI k < Int32.ofNat (fw_aln B (x + 1)) := h3
      rw [el, n_lt hk (by decide)] at h3
      omega
  · exact h.elim
set_option maxRecDepth 100000 in
theorem wk_X1_parcelAt (B : Nat) : fw_Wk B fl_X1 (cal_X1_parcelAt B) [] cst_X1 (some (.object RX3)) kX1_parcelAt 2 (ct_X1_parcelAt B) := by
  intro as M Q QX h
  unfold ct_X1_parcelAt at h
  split at h
  · rename_i x v
    obtain ⟨hE, n, hn, e2, h⟩ := h
    have el : Int32.ofNat (fw_aln B (x + 2)) = nI 24 := by unfold fw_aln; rw [kXp hE]; rfl
    have k8 : 8 ≤ fw_kd B (x + 2) ∧ fw_kd B (x + 2) ≤ 10 := by rw [kXp hE]; decide
    have k7 : 7 ≤ fw_kd B (x + 2) := by omega
    have no : (∀ k, k < n → v ≠ nI k) → Q (some .null) M := fun hv => by
      rcases h with ⟨k, hk, e, -⟩ | ⟨-, h⟩
      · exact absurd e (hv k hk)
      · exact h
    refine ⟨rfl, [], ⟨60, And.intro (fun h1 => ?_) (fun h1 => And.intro (kX hE) (And.intro (fun h2 => ?_) (fun h2 => And.intro (kX hE) (And.intro k7 (And.intro k8.2 (And.intro (fun h3 => ?_) (fun h3 => ?_)))))))⟩, nofun⟩
    · refine no (fun k hk e => ?_)
      rw [e] at h1
      have h1 : nI k < nI 0 := h1
      rw [n_lt (by omega) (by decide)] at h1
      omega
    · refine no (fun k hk e => ?_)
      have h2 : M.1 x 3 ≤ v := h2
      rw [e2, e, n_ge (by omega) (by omega)] at h2
      omega
    · have h2 : ¬ M.1 x 3 ≤ v := h2
      rw [e2] at h2
      obtain ⟨k, hk, rfl⟩ := nI_of h1
      rw [n_ge (by omega) hk] at h2
      rcases h with ⟨k', hk', e, h⟩ | ⟨hv, -⟩
      · rw [nI_eq hk (by omega)] at e
        subst e
        refine And.intro (kX hE) (And.intro k8.1 (And.intro k8.2 (And.intro ?_ ?_)))
        · show fw_sd (vp_in (nI k) (fw_al (fw_kd B (x + 2))))
          rw [kXp hE]; exact vn_i (by show k < 24; omega) (by decide)
        · show Q (some (.ref (fw_el (fw_kd B (x + 2)) (x + 2) (nI k).toNatClampNeg))) M
          rw [kXp hE, n_cl hk]
          exact h
      · exact absurd rfl (hv k (by omega))
    · have h2 : ¬ M.1 x 3 ≤ v := h2
      rw [e2] at h2
      obtain ⟨k, hk, rfl⟩ := nI_of h1
      rw [n_ge (by omega) hk] at h2
      have h3 : ¬ nI k < Int32.ofNat (fw_aln B (x + 2)) := h3
      rw [el, n_lt hk (by decide)] at h3
      omega
  · exact h.elim
set_option maxRecDepth 100000 in
theorem wk_X1_isSought (B : Nat) : fw_Wk B fl_X1 (cal_X1_isSought B) [] cst_X1 (some .boolean) kX1_isSought 4 (ct_X1_isSought B) := by
  intro as M Q QX h
  unfold ct_X1_isSought at h
  split at h
  · rename_i x v
    obtain ⟨b, S, ⟨hE, hR, hW⟩, h⟩ := h
    have hn6 : cn S ≤ 6 := hW.2.1
    have hm24 : pn S ≤ 24 := hW.2.2.2.1
    have e2 : M.1 x 2 = nI (cn S) := (r2 hR).trans hW.1
    have e3 : M.1 x 3 = nI (pn S) := (r3 hR).trans hW.2.2.1
    refine ⟨rfl, [(2, [true, true, true, false], fun m ls st M' => ∃ i, m = cn S - i ∧ i ≤ cn S ∧ sought S v i = false ∧ ls = [some (.ref x), some (.int v), some (.int (nI i)), none] ∧ st = [] ∧ M' = M)], ⟨20, ?_⟩, ?_⟩
    · exact Exists.intro (cn S) (Exists.intro 0 ⟨rfl, by omega, rfl, rfl, rfl, rfl⟩)
    · intro q hq m ls st M' hi
      cases List.mem_singleton.mp hq
      obtain ⟨i, rfl, hi, hs, rfl, rfl, rfl⟩ := hi
      refine ⟨80, And.intro (kX hE) (And.intro (fun h1 => ?_) (fun h1 => ?_))⟩
      · have h1 : M'.1 x 2 ≤ nI i := h1
        rw [e2, n_ge (by omega) (by omega)] at h1
        rw [show cn S = i by omega, hs] at h
        exact And.intro (Or.inl rfl) h
      · have h1 : ¬ M'.1 x 2 ≤ nI i := h1
        rw [e2, n_ge (by omega) (by omega)] at h1
        refine And.intro (kX hE) (And.intro hE (Exists.intro (cn S) (And.intro hn6 (And.intro e2 (Or.inl (Exists.intro i (And.intro (by omega) (And.intro rfl ?_))))))))
        have rc : M'.1 (x + 3 + i) 4 = sC S i 4 := rC hR (by omega) (by decide)
        refine And.intro (kC hE (by omega)) (And.intro (fun h2 => ?_) (fun h2 => ?_))
        · have h2 : ¬ M'.1 (x + 3 + i) 4 = v := h2
          rw [rc] at h2
          refine Exists.intro (cn S - (i + 1)) (And.intro (by omega) (Exists.intro (i + 1) ⟨rfl, by omega, ?_, ?_, rfl, rfl⟩))
          · unfold sought; rw [hs, decide_eq_false h2]; rfl
          · show [some (Value.ref x), some (Value.int v), some (Value.int (nI i + 1)), none] = _
            rw [nI_1]
        · have h2 : M'.1 (x + 3 + i) 4 = v := h2
          rw [rc] at h2
          have up : ∀ j, sought S v (i + 1 + j) = true := by
            intro j
            induction j with
            | zero => show (sought S v i || decide (sC S i 4 = v)) = true; rw [decide_eq_true h2, Bool.or_true]
            | succ j ih => show (sought S v (i + 1 + j) || _) = true; rw [ih]; rfl
          have := up (cn S - (i + 1))
          rw [show i + 1 + (cn S - (i + 1)) = cn S by omega] at this
          rw [this] at h
          exact And.intro (Or.inr rfl) h
  · exact h.elim
set_option maxRecDepth 100000 in
theorem wk_X1_parcelsIn (B : Nat) : fw_Wk B fl_X1 (cal_X1_parcelsIn B) [] cst_X1 (some .int) kX1_parcelsIn 5 (ct_X1_parcelsIn B) := by
  intro as M Q QX h
  unfold ct_X1_parcelsIn at h
  split at h
  · rename_i x v
    obtain ⟨b, S, ⟨hE, hR, hW⟩, h⟩ := h
    have hn6 : cn S ≤ 6 := hW.2.1
    have hm24 : pn S ≤ 24 := hW.2.2.2.1
    have e2 : M.1 x 2 = nI (cn S) := (r2 hR).trans hW.1
    have e3 : M.1 x 3 = nI (pn S) := (r3 hR).trans hW.2.2.1
    refine ⟨rfl, [(4, [true, true, true, true, false], fun m ls st M' => ∃ i, m = pn S - i ∧ i ≤ pn S ∧ ls = [some (.ref x), some (.int v), some (.int (inSt S v i)), some (.int (nI i)), none] ∧ st = [] ∧ M' = M)], ⟨20, ?_⟩, ?_⟩
    · exact Exists.intro (pn S) (Exists.intro 0 ⟨rfl, by omega, rfl, rfl, rfl⟩)
    · intro q hq m ls st M' hi
      cases List.mem_singleton.mp hq
      obtain ⟨i, rfl, hi, rfl, rfl, rfl⟩ := hi
      refine ⟨80, And.intro (kX hE) (And.intro (fun h1 => ?_) (fun h1 => ?_))⟩
      · have h1 : M'.1 x 3 ≤ nI i := h1
        rw [e3, n_ge (by omega) (by omega)] at h1
        rw [show pn S = i by omega] at h
        exact h
      · have h1 : ¬ M'.1 x 3 ≤ nI i := h1
        rw [e3, n_ge (by omega) (by omega)] at h1
        refine And.intro (kX hE) (And.intro hE (Exists.intro (pn S) (And.intro hm24 (And.intro e3 (Or.inl (Exists.intro i (And.intro (by omega) (And.intro rfl ?_))))))))
        have rc : M'.1 (x + 9 + 3 * i) 4 = sP S i 4 := rP hR (by omega) (by decide)
        have key : ∀ a w, w = none → inSt S v (i + 1) = a → ∃ m', m' < pn S - i ∧ ∃ i', m' = pn S - i' ∧ i' ≤ pn S ∧ ([some (.ref x), some (.int v), some (.int a), some (.int (nI i + 1)), w] : fw_L) = [some (.ref x), some (.int v), some (.int (inSt S v i')), some (.int (nI i')), none] ∧ ([] : List Value) = [] ∧ M' = M' := by
          rintro a w rfl rfl
          exact ⟨pn S - (i + 1), by omega, i + 1, rfl, by omega, by rw [nI_1], rfl, rfl⟩
        refine And.intro (kP hE (by omega)) (And.intro (fun h2 => ?_) (fun h2 => ?_))
        · have h2 : ¬ M'.1 (x + 9 + 3 * i) 4 = v := h2
          rw [rc] at h2
          refine key _ none rfl ?_
          conv => lhs; unfold inSt
          rw [if_neg h2]; exact Int32.add_zero _
        · have h2 : M'.1 (x + 9 + 3 * i) 4 = v := h2
          rw [rc] at h2
          refine key _ none rfl ?_
          conv => lhs; unfold inSt
          rw [if_pos h2]
  · exact h.elim
set_option maxRecDepth 100000 in
theorem wk_X1_legsBy (B : Nat) : fw_Wk B fl_X1 (cal_X1_legsBy B) [] cst_X1 (some .int) kX1_legsBy 5 (ct_X1_legsBy B) := by
  intro as M Q QX h
  unfold ct_X1_legsBy at h
  split at h
  · rename_i x v
    obtain ⟨b, S, c, ⟨hE, hR, hW⟩, hc, rfl, h⟩ := h
    have hn6 : cn S ≤ 6 := hW.2.1
    have hm24 : pn S ≤ 24 := hW.2.2.2.1
    have e2 : M.1 x 2 = nI (cn S) := (r2 hR).trans hW.1
    have e3 : M.1 x 3 = nI (pn S) := (r3 hR).trans hW.2.2.1
    refine ⟨rfl, [(4, [true, true, true, true, false], fun m ls st M' => ∃ i, m = pn S - i ∧ i ≤ pn S ∧ ls = [some (.ref x), some (.int (nI c)), some (.int (lgC S c i)), some (.int (nI i)), none] ∧ st = [] ∧ M' = M)], ⟨20, ?_⟩, ?_⟩
    · exact Exists.intro (pn S) (Exists.intro 0 ⟨rfl, by omega, rfl, rfl, rfl⟩)
    · intro q hq m ls st M' hi
      cases List.mem_singleton.mp hq
      obtain ⟨i, rfl, hi, rfl, rfl, rfl⟩ := hi
      refine ⟨80, And.intro (kX hE) (And.intro (fun h1 => ?_) (fun h1 => ?_))⟩
      · have h1 : M'.1 x 3 ≤ nI i := h1
        rw [e3, n_ge (by omega) (by omega)] at h1
        rw [show pn S = i by omega] at h
        exact h
      · have h1 : ¬ M'.1 x 3 ≤ nI i := h1
        rw [e3, n_ge (by omega) (by omega)] at h1
        refine And.intro (kX hE) (And.intro hE (Exists.intro (pn S) (And.intro hm24 (And.intro e3 (Or.inl (Exists.intro i (And.intro (by omega) (And.intro rfl ?_))))))))
        have rc : M'.1 (x + 9 + 3 * i + 1) c = sP S i (8 + c) := rL hR (by omega) hc
        refine And.intro (kP hE (by omega)) (And.intro (PK_of hE (by omega)) (Exists.intro c (And.intro hc (And.intro rfl ?_))))
        refine Exists.intro (pn S - (i + 1)) (And.intro (by omega) (Exists.intro (i + 1) ⟨rfl, by omega, ?_, rfl, rfl⟩))
        show [some (Value.ref x), some (Value.int (nI c)), some (Value.int (lgC S c i + M'.1 (x + 9 + 3 * i + 1) c)), some (Value.int (nI i + 1)), none] = _
        rw [rc, nI_1]
        rfl
  · exact h.elim
set_option maxRecDepth 100000 in
theorem wk_X1_figure (B : Nat) : fw_Wk B fl_X1 (cal_X1_figure B) [] cst_X1 (some .int) kX1_figure 2 (ct_X1_figure B) := by
  intro as M Q QX h
  unfold ct_X1_figure at h
  split at h
  · rename_i x v
    obtain ⟨b, S, w, ⟨hE, hR, hW⟩, hw, rfl, h⟩ := h
    have hn6 : cn S ≤ 6 := hW.2.1
    have hm24 : pn S ≤ 24 := hW.2.2.2.1
    have e2 : M.1 x 2 = nI (cn S) := (r2 hR).trans hW.1
    have e3 : M.1 x 3 = nI (pn S) := (r3 hR).trans hW.2.2.1
    have e : (nI w).toInt = (w : Int) := nI_toInt (by omega)
    have g : ∀ j k v, w = j → M.1 x k = v → valS S j = v → Q (some (.int (M.1 x k))) M := fun j k v e1 e4 e5 => by
      rw [e4, ← e5, ← e1]; exact h
    have es : ∀ j, w = j + 4 → nI w - (4 : Int32) = nI j := fun j hj => by rw [hj, n_sub4]
    have k1 := kX hE
    have f4 : 4 ≤ w → w ≤ 7 → Q (some (.int (inSt S (nI w - 4) (pn S)))) M := fun y1 y2 => by
      have e6 : valS S w = inSt S (nI w - 4) (pn S) := by
        unfold valS
        rw [if_neg (by omega), if_neg (by omega), if_neg (by omega), if_neg (by omega), if_neg (by omega), if_neg (by omega), if_neg (by omega), es (w - 4) (by omega)]
      rw [← e6]; exact h
    have rest : 4 ≤ w → w ≤ 7 → ct_X1_parcelsIn B [.ref x, .int (nI w - 4)] M (fun r M' => Q r M') (fun _ _ => False) := fun y1 y2 => ⟨b, S, ⟨hE, hR, hW⟩, f4 y1 y2⟩
    refine ⟨rfl, [], ⟨60, ?_⟩, nofun⟩
    refine And.intro (And.intro (fun z => ?_) (And.intro (fun z => ?_) (And.intro (fun z => ?_) (And.intro (fun z => ?_) (And.intro (fun z => ?_) (And.intro (fun z => ?_) (And.intro (fun z => ?_) (And.intro (fun z => ?_) (And.intro (fun z => ?_) (And.intro (fun z => ?_) (And.intro (fun z => ?_) trivial))))))))))) (fun z => ?_)
    · exact And.intro k1 (g 0 0 _ (by rw [e] at z; omega) (r0 hR) rfl)
    · exact And.intro k1 (g 1 2 _ (by rw [e] at z; omega) (r2 hR) rfl)
    · exact And.intro k1 (g 2 3 _ (by rw [e] at z; omega) (r3 hR) rfl)
    · exact And.intro k1 (g 3 1 _ (by rw [e] at z; omega) (r1 hR) rfl)
    · exact And.intro k1 (rest (by rw [e] at z; omega) (by rw [e] at z; omega))
    · exact And.intro k1 (rest (by rw [e] at z; omega) (by rw [e] at z; omega))
    · exact And.intro k1 (rest (by rw [e] at z; omega) (by rw [e] at z; omega))
    · exact And.intro k1 (rest (by rw [e] at z; omega) (by rw [e] at z; omega))
    · exact And.intro k1 (g 8 4 _ (by rw [e] at z; omega) (r4 hR) rfl)
    · exact And.intro k1 (g 9 5 _ (by rw [e] at z; omega) (r5 hR) rfl)
    · exact And.intro k1 (g 10 6 _ (by rw [e] at z; omega) (r6 hR) rfl)
    · rw [e] at z; omega
  · exact h.elim
set_option maxRecDepth 100000 in
theorem wk_X1_courierFigure (B : Nat) : fw_Wk B fl_X1 (cal_X1_courierFigure B) [] cst_X1 (some .int) kX1_courierFigure 4 (ct_X1_courierFigure B) := by
  intro as M Q QX h
  unfold ct_X1_courierFigure at h
  split at h
  · rename_i x y u v
    obtain ⟨b, S, c, w, ⟨hE, hR, hW⟩, hc, hw, rfl, rfl, rfl, h⟩ := h
    have hn6 : cn S ≤ 6 := hW.2.1
    have hm24 : pn S ≤ 24 := hW.2.2.2.1
    have e2 : M.1 x 2 = nI (cn S) := (r2 hR).trans hW.1
    have e3 : M.1 x 3 = nI (pn S) := (r3 hR).trans hW.2.2.1
    have e : (nI w).toInt = (w : Int) := nI_toInt (by omega)
    have k0 := kC (c := c) hE (by omega)
    have g : ∀ j, j < 5 → w = j → Q (some (.int (M.1 (x + 3 + c) j))) M := fun j hj ej => by
      rw [rC hR hc hj]
      have e7 : crS S c w = sC S c j := by unfold crS; rw [if_pos (by omega), ej]
      rw [← e7]; exact h
    refine ⟨rfl, [], ⟨60, ?_⟩, nofun⟩
    refine And.intro (And.intro (fun z => ?_) (And.intro (fun z => ?_) (And.intro (fun z => ?_) (And.intro (fun z => ?_) (And.intro (fun z => ?_) trivial))))) (fun z => ?_)
    · exact And.intro k0 (g 0 (by decide) (by rw [e] at z; omega))
    · exact And.intro k0 (g 1 (by decide) (by rw [e] at z; omega))
    · exact And.intro k0 (g 2 (by decide) (by rw [e] at z; omega))
    · exact And.intro k0 (g 3 (by decide) (by rw [e] at z; omega))
    · exact And.intro k0 (g 4 (by decide) (by rw [e] at z; omega))
    · have ew : ¬ w < 5 := by rw [e] at z; omega
      have e7 : crS S c w = lgC S c (pn S) := by unfold crS; rw [if_neg ew]
      rw [e7] at h
      exact And.intro (kX hE) (Exists.intro b (Exists.intro S (Exists.intro c (And.intro ⟨hE, hR, hW⟩ (And.intro (by omega) (And.intro rfl h))))))
  · exact h.elim
end WX1
end
section
/-! AN EXCHANGE'S METHODS WALKED: those that change it -/
section WX2
theorem Rep_mk {V : Nat → Nat → Int32} {x : Nat} {S : Sx} (hn : cn S ≤ 6) (hm : pn S ≤ 24) (e0 : V x 0 = S 0) (e1 : V x 1 = S 1) (e2 : V x 2 = S 2) (e3 : V x 3 = S 3) (e4 : V x 4 = S 6) (e5 : V x 5 = S 4) (e6 : V x 6 = S 5)
    (hC : ∀ c, c < cn S → ∀ w, w < 5 → V (x + 3 + c) w = sC S c w) (hP : ∀ p, p < pn S → (∀ w, w < 8 → V (x + 9 + 3 * p) w = sP S p w) ∧ ∀ c, c < 6 → V (x + 9 + 3 * p + 1) c = sP S p (8 + c) ∧ V (x + 9 + 3 * p + 2) c = sP S p (14 + c)) : Rep V x S := by
  refine ⟨hn, hm, fun j hj => ?_⟩
  by_cases a : j < 7
  · rcases (show j = 0 ∨ j = 1 ∨ j = 2 ∨ j = 3 ∨ j = 4 ∨ j = 5 ∨ j = 6 by omega) with y | y | y | y | y | y | y <;> subst y
    · exact e0
    · exact e1
    · exact e2
    · exact e3
    · exact e5
    · exact e6
    · exact e4
  · by_cases b : j < 37
    · have hw : (j - 7) % 5 < 5 := Nat.mod_lt _ (by decide)
      have hc : (j - 7) / 5 < cn S := by omega
      have ej : j = 7 + 5 * ((j - 7) / 5) + (j - 7) % 5 := by omega
      generalize (j - 7) / 5 = c at hc ej
      generalize (j - 7) % 5 = w at hw ej
      subst ej
      rw [(lo_C (by omega) hw).1, (lo_C (x := x) (by omega) hw).2]
      exact hC c hc w hw
    · have hw : (j - 37) % 20 < 20 := Nat.mod_lt _ (by decide)
      have hp : (j - 37) / 20 < pn S := by omega
      have ej : j = 37 + 20 * ((j - 37) / 20) + (j - 37) % 20 := by omega
      generalize (j - 37) / 20 = p at hp ej
      generalize (j - 37) % 20 = w at hw ej
      subst ej
      obtain ⟨h1, h2⟩ := hP p hp
      by_cases w8 : w < 8
      · rw [(lo_P w8).1, (lo_P (x := x) w8).2]
        exact h1 w w8
      · by_cases w14 : w < 14
        · obtain ⟨c, rfl⟩ : ∃ c, w = 8 + c := ⟨w - 8, by omega⟩
          rw [(lo_L (by omega)).1, (lo_L (x := x) (by omega)).2]
          exact (h2 c (by omega)).1
        · obtain ⟨c, rfl⟩ : ∃ c, w = 14 + c := ⟨w - 14, by omega⟩
          rw [(lo_S (by omega)).1, (lo_S (x := x) (by omega)).2]
          exact (h2 c (by omega)).2
theorem EX_dj {B x y : Nat} (hx : EX B x) (hy : EX B y) (h : x ≠ y) : x + 81 ≤ y ∨ y + 81 ≤ x := by
  obtain ⟨o, ho, rfl⟩ := hx
  obtain ⟨o', ho', rfl⟩ := hy
  simp only [List.mem_cons, List.not_mem_nil, or_false] at ho ho'
  omega
theorem fC {x c k : Nat} {M : fw_M} {v : Int32} (hc : c < 6) : FX x M (fw_st M (x + 3 + c) k v) := FX_st (by omega) (by omega)
theorem fP {x p k : Nat} {M : fw_M} {v : Int32} (hp : p < 24) : FX x M (fw_st M (x + 9 + 3 * p) k v) := FX_st (by omega) (by omega)
theorem fX {x k : Nat} {M : fw_M} {v : Int32} : FX x M (fw_st M x k v) := FX_st (by omega) (by omega)
theorem Rep_free {x c : Nat} {M : fw_M} {S : Sx} (h : Rep M.1 x S) (hc : c < 6) : Rep (fw_st (fw_st M (x + 3 + c) 3 0) (x + 3 + c) 4 (-1)).1 x (frS S c) := Rep_C (Rep_C h hc (by decide)) hc (by decide)
theorem F_free {x c : Nat} {M : fw_M} (hc : c < 6) : FX x M (fw_st (fw_st M (x + 3 + c) 3 0) (x + 3 + c) 4 (-1)) := FX_tr (fC hc) (fC hc)
set_option maxRecDepth 100000 in
theorem wk_X1_release (B : Nat) : fw_Wk B fl_X1 (cal_X1_release B) [] cst_X1 none kX1_release 3 (ct_X1_release B) := by
  intro as M Q QX h
  unfold ct_X1_release at h
  split at h
  · rename_i x y
    obtain ⟨b, S, c, ⟨hE, hR, hW⟩, hJ, hc, rfl, h⟩ := h
    have hn6 : cn S ≤ 6 := hW.2.1
    have hm24 : pn S ≤ 24 := hW.2.2.2.1
    have e3 : M.1 x 3 = nI (pn S) := (r3 hR).trans hW.2.2.1
    have hc6 : c < 6 := by omega
    have e4 : M.1 (x + 3 + c) 4 = sC S c 4 := rC hR hc (by decide)
    unfold drS at h
    refine ⟨rfl, [], ⟨60, And.intro (kC hE hc6) ?_⟩, nofun⟩
    rcases (hW.2.2.2.2.1 c hc).2 with ⟨d0, a0⟩ | ⟨p, hp, ea, hd⟩
    · refine And.intro (kX hE) (And.intro hE (Exists.intro (pn S) (And.intro hm24 (And.intro e3 (Or.inr (And.intro (fun k hk e => ?_) ?_))))))
      · have e : M.1 (x + 3 + c) 4 = nI k := e
        rw [e4, a0] at e
        exact nI_m1 (by omega) e.symm
      · rw [if_neg (by rw [d0]; decide)] at h
        exact And.intro (kC hE hc6) (And.intro (kC hE hc6) (h _ (Rep_free hR hc6) (F_free hc6)))
    · refine And.intro (kX hE) (And.intro hE (Exists.intro (pn S) (And.intro hm24 (And.intro e3 (Or.inl (Exists.intro p (And.intro hp (And.intro (e4.trans ea) ?_))))))))
      have hp24 : p < 24 := by omega
      have e5 : M.1 (x + 9 + 3 * p) 4 = sP S p 4 := rP hR hp (by decide)
      refine And.intro (kP hE hp24) (And.intro (fun h1 => ?_) (fun h1 => ?_))
      · have h1 : ¬ M.1 (x + 9 + 3 * p) 4 = 1 := h1
        rw [e5] at h1
        rw [if_neg (fun z => hd.elim (fun y => by rw [y] at z; exact absurd z (by decide)) (fun y => h1 y.2))] at h
        exact And.intro (kC hE hc6) (And.intro (kC hE hc6) (h _ (Rep_free hR hc6) (F_free hc6)))
      · have h1 : M.1 (x + 9 + 3 * p) 4 = 1 := h1
        rw [e5] at h1
        have d2 : sC S c 3 = 2 := hd.elim (fun y => by
          have := hJ.2 c p hc hp ea y
          rw [this] at h1
          exact absurd h1 (by decide)) (fun y => y.1)
        rw [if_pos d2, ea, n_cl (by omega)] at h
        exact And.intro (kP hE hp24) (And.intro (kC hE hc6) (And.intro (kC hE hc6) (h _ (Rep_free (Rep_P hR hp24 (by decide)) hc6) (FX_tr (fP hp24) (F_free hc6)))))
  · exact h.elim
set_option maxRecDepth 100000 in
theorem wk_X1_approach (B : Nat) : fw_Wk B fl_X1 (cal_X1_approach B) [] cst_X1 none kX1_approach 3 (ct_X1_approach B) := by
  intro as M Q QX h
  unfold ct_X1_approach at h
  split at h
  · rename_i x y q
    obtain ⟨b, S, c, p, ⟨hE, hR, hW⟩, hc, hp, rfl, rfl, h⟩ := h
    have hn6 : cn S ≤ 6 := hW.2.1
    have hm24 : pn S ≤ 24 := hW.2.2.2.1
    have hc6 : c < 6 := by omega
    have hp24 : p < 24 := by omega
    have e1 : M.1 (x + 3 + c) 1 = sC S c 1 := rC hR hc (by decide)
    have e5 : M.1 (x + 9 + 3 * p) 5 = sP S p 5 := rP hR hp (by decide)
    obtain ⟨z, hz, ez⟩ := (hW.2.2.2.2.1 c hc).1
    obtain ⟨d, hd, ed⟩ := (hW.2.2.2.2.2.2 p hp).2.2.2.2.1
    unfold goS at h
    refine ⟨rfl, [], ⟨60, And.intro (kC hE hc6) (And.intro (kP hE hp24) (And.intro (fun h1 => ?_) (fun h1 => ?_)))⟩, nofun⟩
    · have h1 : ¬ M.1 (x + 3 + c) 1 = M.1 (x + 9 + 3 * p) 5 := h1
      rw [e1, e5] at h1
      rw [if_neg h1, ← e1, ← e5] at h
      refine And.intro (kC hE hc6) (And.intro (kP hE hp24) (Exists.intro z (Exists.intro d (And.intro hz (And.intro hd (And.intro (e1.trans ez) (And.intro (e5.trans ed) (And.intro (kC hE hc6) (And.intro (kX hE) (And.intro (kX hE) ?_))))))))))
      have e6 : ∀ v, (fw_st M (x + 3 + c) 1 v).1 x 6 = S 5 := fun v => by rw [st_o (by omega)]; exact r6 hR
      have key := fun v (e : v = S 5 + 1) => h (fw_st (fw_st M (x + 3 + c) 1 (nxz (M.1 (x + 3 + c) 1) (M.1 (x + 9 + 3 * p) 5))) x 6 v) (by rw [e]; exact Rep_6 (Rep_C hR hc6 (by decide))) (FX_tr (fC hc6) fX)
      exact key _ (by rw [← e6 (nxz (M.1 (x + 3 + c) 1) (M.1 (x + 9 + 3 * p) 5))])
    · have h1 : M.1 (x + 3 + c) 1 = M.1 (x + 9 + 3 * p) 5 := h1
      rw [e1, e5] at h1
      rw [if_pos h1] at h
      exact And.intro (kC hE hc6) (And.intro (kP hE hp24) (h _ (Rep_P (Rep_C hR hc6 (by decide)) hp24 (by decide)) (FX_tr (fC hc6) (fP hp24))))
  · exact h.elim
theorem cn_frW {S : Sx} {p i : Nat} : cn (frW S p i) = cn S := cn_eq (frW_lo (by decide) i)
set_option maxRecDepth 100000 in
theorem wk_X1_freeCouriersOf (B : Nat) : fw_Wk B fl_X1 (cal_X1_freeCouriersOf B) [] cst_X1 none kX1_freeCouriersOf 4 (ct_X1_freeCouriersOf B) := by
  intro as M Q QX h
  unfold ct_X1_freeCouriersOf at h
  split at h
  · rename_i x v
    obtain ⟨hE, S, p, hR, hS2, rfl, h⟩ := h
    have hn6 : cn S ≤ 6 := hR.1
    refine ⟨rfl, [(2, [true, true, true, false], fun m ls st M' => ∃ i, m = cn S - i ∧ i ≤ cn S ∧ ls = [some (.ref x), some (.int (nI p)), some (.int (nI i)), none] ∧ st = [] ∧ Rep M'.1 x (frW S p i) ∧ FX x M M')], ⟨20, ?_⟩, ?_⟩
    · exact Exists.intro (cn S) (Exists.intro 0 ⟨rfl, by omega, rfl, rfl, hR, FX_id⟩)
    · intro q hq m ls st M' hi
      cases List.mem_singleton.mp hq
      obtain ⟨i, rfl, hi, rfl, rfl, hR', hF'⟩ := hi
      have e2 : M'.1 x 2 = nI (cn S) := by rw [r2 hR', frW_lo (by decide)]; exact hS2
      refine ⟨80, And.intro (kX hE) (And.intro (fun h1 => ?_) (fun h1 => ?_))⟩
      · have h1 : M'.1 x 2 ≤ nI i := h1
        rw [e2, n_ge (by omega) (by omega)] at h1
        rw [show i = cn S by omega] at hR'
        exact h M' hR' hF'
      · have h1 : ¬ M'.1 x 2 ≤ nI i := h1
        rw [e2, n_ge (by omega) (by omega)] at h1
        refine And.intro (kX hE) (And.intro hE (Exists.intro (cn S) (And.intro hn6 (And.intro e2 (Or.inl (Exists.intro i (And.intro (by omega) (And.intro rfl ?_))))))))
        have rc : M'.1 (x + 3 + i) 4 = sC (frW S p i) i 4 := rC hR' (by rw [cn_frW]; omega) (by decide)
        refine And.intro (kC hE (by omega)) (And.intro (fun h2 => ?_) (fun h2 => ?_))
        · have h2 : ¬ M'.1 (x + 3 + i) 4 = nI p := h2
          rw [rc] at h2
          refine Exists.intro (cn S - (i + 1)) (And.intro (by omega) (Exists.intro (i + 1) ⟨rfl, by omega, ?_, rfl, ?_, hF'⟩))
          · show [some (Value.ref x), some (Value.int (nI p)), some (Value.int (nI i + 1)), none] = _
            rw [nI_1]
          · unfold frW; rw [if_neg h2]; exact hR'
        · have h2 : M'.1 (x + 3 + i) 4 = nI p := h2
          rw [rc] at h2
          refine And.intro (kC hE (by omega)) (And.intro (kC hE (by omega)) ?_)
          refine Exists.intro (cn S - (i + 1)) (And.intro (by omega) (Exists.intro (i + 1) ⟨rfl, by omega, ?_, rfl, ?_, FX_tr hF' (F_free (by omega))⟩))
          · show [some (Value.ref x), some (Value.int (nI p)), some (Value.int (nI i + 1)), none] = _
            rw [nI_1]
          · unfold frW; rw [if_pos h2]; exact Rep_free hR' (by omega)
  · exact h.elim
theorem pn_flW {S : Sx} {i : Nat} : pn (flW S i) = pn S := pn_eq (flW_lo (by decide) i)
theorem cn_flW {S : Sx} {i : Nat} : cn (flW S i) = cn S := cn_eq (flW_lo (by decide) i)
theorem open_lt {k : Nat} (h : k ≤ 3) : (decide (nI k = 0) || decide (nI k = 1)) = decide (nI k < 2) := by
  rcases (show k = 0 ∨ k = 1 ∨ k = 2 ∨ k = 3 by omega) with y | y | y | y <;> subst y <;> decide
set_option maxRecDepth 100000 in
theorem wk_X1_failLateParcels (B : Nat) : fw_Wk B fl_X1 (cal_X1_failLateParcels B) [] cst_X1 none kX1_failLateParcels 3 (ct_X1_failLateParcels B) := by
  intro as M Q QX h
  unfold ct_X1_failLateParcels at h
  split at h
  · rename_i x
    obtain ⟨b, S, ⟨hE, hR, hW⟩, h⟩ := h
    have hm24 : pn S ≤ 24 := hR.2.1
    refine ⟨rfl, [(2, [true, true, false], fun m ls st M' => ∃ i, m = pn S - i ∧ i ≤ pn S ∧ ls = [some (.ref x), some (.int (nI i)), none] ∧ st = [] ∧ Rep M'.1 x (flW S i) ∧ FX x M M')], ⟨20, ?_⟩, ?_⟩
    · exact Exists.intro (pn S) (Exists.intro 0 ⟨rfl, by omega, rfl, rfl, hR, FX_id⟩)
    · intro q hq m ls st M' hi
      cases List.mem_singleton.mp hq
      obtain ⟨i, rfl, hi, rfl, rfl, hR', hF'⟩ := hi
      have e3 : M'.1 x 3 = nI (pn S) := by rw [r3 hR', flW_lo (by decide)]; exact hW.2.2.1
      refine ⟨120, And.intro (kX hE) (And.intro (fun h1 => ?_) (fun h1 => ?_))⟩
      · have h1 : M'.1 x 3 ≤ nI i := h1
        rw [e3, n_ge (by omega) (by omega)] at h1
        rw [show i = pn S by omega] at hR'
        exact h M' hR' hF'
      · have h1 : ¬ M'.1 x 3 ≤ nI i := h1
        rw [e3, n_ge (by omega) (by omega)] at h1
        have hWi := WF_flW hW i hi
        obtain ⟨-, -, -, ⟨k, hk, ek⟩, -⟩ := hWi.2.2.2.2.2.2 i (by rw [pn_flW]; omega)
        have r4' : M'.1 (x + 9 + 3 * i) 4 = nI k := by rw [← ek]; exact rP hR' (by rw [pn_flW]; omega) (by decide)
        have r2' : M'.1 (x + 9 + 3 * i) 2 = sP (flW S i) i 2 := rP hR' (by rw [pn_flW]; omega) (by decide)
        have key : ∀ M'' w, w = none → Rep M''.1 x (flW S (i + 1)) → FX x M M'' → ∃ m', m' < pn S - i ∧ ∃ i', m' = pn S - i' ∧ i' ≤ pn S ∧ ([some (.ref x), some (.int (nI i + 1)), w] : fw_L) = [some (.ref x), some (.int (nI i')), none] ∧ ([] : List Value) = [] ∧ Rep M''.1 x (flW S i') ∧ FX x M M'' := by
          rintro M'' w rfl g1 g2
          exact ⟨pn S - (i + 1), by omega, i + 1, rfl, by omega, by rw [nI_1], rfl, g1, g2⟩
        refine And.intro (kX hE) (And.intro hE (Exists.intro (pn S) (And.intro hm24 (And.intro e3 (Or.inl (Exists.intro i (And.intro (by omega) (And.intro rfl ?_))))))))
        refine And.intro (kP hE (by omega)) (And.intro (kP hE (by omega)) (And.intro (fun h2 => ?_) (fun h2 => ?_)))
        · have h2 : (decide (M'.1 (x + 9 + 3 * i) 4 = 0) || decide (M'.1 (x + 9 + 3 * i) 4 = 1)) = false := bi_0.mp h2
          rw [r4', open_lt hk, decide_eq_false_iff_not, ← ek] at h2
          refine key M' none rfl ?_ hF'
          unfold flW
          rw [if_neg (fun e => h2 e.1)]
          exact hR'
        · have h2 : (decide (M'.1 (x + 9 + 3 * i) 4 = 0) || decide (M'.1 (x + 9 + 3 * i) 4 = 1)) = true := bi_n0.mp h2
          rw [r4', open_lt hk, decide_eq_true_iff, ← ek] at h2
          refine And.intro (kP hE (by omega)) (And.intro (kX hE) (And.intro (kX hE) (And.intro (fun h3 => ?_) (fun h3 => ?_))))
          · have h3 : M'.1 x 0 ≤ M'.1 (x + 9 + 3 * i) 2 + M'.1 x 1 := h3
            rw [r2', r0 hR', r1 hR'] at h3
            refine key M' none rfl ?_ hF'
            unfold flW
            rw [if_neg (fun e => Int32.not_lt.mpr h3 e.2)]
            exact hR'
          · have h3 : ¬ M'.1 x 0 ≤ M'.1 (x + 9 + 3 * i) 2 + M'.1 x 1 := h3
            rw [r2', r0 hR', r1 hR'] at h3
            refine And.intro (kP hE (by omega)) (And.intro (kX hE) (And.intro hE (Exists.intro (uP (flW S i) i 4 3) (Exists.intro i (And.intro (Rep_P hR' (by omega) (by decide)) (And.intro ?_ (And.intro rfl ?_)))))))
            · rw [cn_eq (uP_lo (by decide)), uP_lo (by decide)]; exact hWi.1
            · intro M'' g1 g2
              refine key M'' none rfl ?_ (FX_tr hF' (FX_tr (fP (by omega)) g2))
              unfold flW
              rw [if_pos ⟨h2, Int32.not_le.mp h3⟩]
              unfold faiS
              rw [cn_eq (uP_lo (by decide))] at g1
              exact g1
  · exact h.elim
end WX2
end
section
/-! AN EXCHANGE'S METHODS WALKED: carry, deliver, choose -/
section WX3
theorem Rep_row {x p : Nat} {M : fw_M} {S S0 : Sx} {m : Int32} (h : Rep M.1 x S0) (hp : p < 24) (e : S0 = S) : ∀ i, i ≤ 6 → Rep (fw_row M (x + 9 + 3 * p + 2) (cpN i (fun c => fsh S p m c) (M.1 (x + 9 + 3 * p + 2)))).1 x (shW S p m i) := by
  subst e
  intro i
  induction i with
  | zero => intro _; rw [cpN_0, row_self]; exact h
  | succ i ih =>
    intro hi
    have := Rep_S (c := i) (v := fsh S0 p m i) (ih (by omega)) hp (by omega)
    have e : fw_row M (x + 9 + 3 * p + 2) (cpN (i + 1) (fun c => fsh S0 p m c) (M.1 (x + 9 + 3 * p + 2))) = fw_st (fw_row M (x + 9 + 3 * p + 2) (cpN i (fun c => fsh S0 p m c) (M.1 (x + 9 + 3 * p + 2)))) (x + 9 + 3 * p + 2) i (fsh S0 p m i) := by
      rw [st_row, row_1, row_row, ← cpN_s]
    rw [e]
    exact this
theorem n2s : fw_sd (¬ (2 : Int32) = 0) := fw_sd_i (by decide)
theorem dl_rep {x p : Nat} {M : fw_M} {S : Sx} {t v w : Int32} (h : Rep M.1 x S) (hp : p < 24) (e1 : t = S 0) (e2 : v = payS S p) (e3 : w = S 6 + payS S p) : Rep (fw_st (fw_st (fw_st (fw_st M (x + 9 + 3 * p) 4 2) (x + 9 + 3 * p) 6 t) (x + 9 + 3 * p) 7 v) x 4 w).1 x (dl1 S p) := by
  subst e1; subst e2; subst e3
  exact Rep_4 (Rep_P (Rep_P (Rep_P h hp (by decide)) hp (by decide)) hp (by decide))
set_option maxRecDepth 100000 in
theorem wk_X1_deliver (B : Nat) : fw_Wk B fl_X1 (cal_X1_deliver B) [] cst_X1 none kX1_deliver 4 (ct_X1_deliver B) := by
  intro as M Q QX h
  unfold ct_X1_deliver at h
  split at h
  · rename_i x q
    obtain ⟨hE, S, p, k, hR, hS2, hp, rfl, hLG, hk, ek, h⟩ := h
    have hn6 : cn S ≤ 6 := hR.1
    have hm24 : pn S ≤ 24 := hR.2.1
    have hp24 : p < 24 := by omega
    have eL : ∀ x, 8 ≤ x → x < 14 → sP (dl1 S p) p x = sP S p x := fun x h1 h2 => by rw [dl1_P (by omega) (by omega) (by omega), if_neg (by omega)]
    have hLG2 : LG (dl1 S p) p := by
      obtain ⟨L, h1, h2⟩ := hLG
      exact ⟨L, fun c hc => ⟨(h1 c hc).1, by rw [eL _ (by omega) (by omega)]; exact (h1 c hc).2⟩, h2⟩
    have d2 : dl1 S p 2 = S 2 := dl1_lo (by decide)
    have dc : cn (dl1 S p) = cn S := cn_eq d2
    have dp : pn (dl1 S p) = pn S := pn_eq (dl1_lo (by decide))
    have d7 : sP (dl1 S p) p 7 = payS S p := by
      unfold dl1
      rw [gPu (by decide), gPP (by decide) (by decide), if_pos ⟨rfl, rfl⟩]
    refine ⟨rfl, [(60, [true, true, true, false], fun m ls st M' => ∃ i, m = cn S - i ∧ i ≤ cn S ∧ ls = [some (.ref x), some (.ref (x + 9 + 3 * p)), some (.int (nI i)), none] ∧ st = [] ∧ Rep M'.1 x (tipW (shW (dl1 S p) p (payS S p) 6) p i) ∧ FX x M M')], ⟨120, ?_⟩, ?_⟩
    · have f0 : (fw_st M (x + 9 + 3 * p) 4 2).1 x 0 = S 0 := by rw [st_o (by omega)]; exact r0 hR
      have rest : ∀ t v w, t = S 0 → v = payS S p → w = S 6 + payS S p → (PK B (x + 9 + 3 * p) ∧ ∃ S' p', LW (fw_st (fw_st (fw_st (fw_st M (x + 9 + 3 * p) 4 2) (x + 9 + 3 * p) 6 t) (x + 9 + 3 * p) 7 v) x 4 w) (x + 9 + 3 * p) S' p' ∧ ∃ m i, m = cn S - i ∧ i ≤ cn S ∧ [some (Value.ref x), some (Value.ref (x + 9 + 3 * p)), some (Value.int 0), none] = [some (.ref x), some (.ref (x + 9 + 3 * p)), some (.int (nI i)), none] ∧ ([] : List Value) = [] ∧ Rep (fw_row (fw_st (fw_st (fw_st (fw_st M (x + 9 + 3 * p) 4 2) (x + 9 + 3 * p) 6 t) (x + 9 + 3 * p) 7 v) x 4 w) (x + 9 + 3 * p + 2) (cpN 6 (fun c => fsh S' p' ((fw_st (fw_st (fw_st (fw_st M (x + 9 + 3 * p) 4 2) (x + 9 + 3 * p) 6 t) (x + 9 + 3 * p) 7 v) x 4 w).1 (x + 9 + 3 * p) 7) c) ((fw_st (fw_st (fw_st (fw_st M (x + 9 + 3 * p) 4 2) (x + 9 + 3 * p) 6 t) (x + 9 + 3 * p) 7 v) x 4 w).1 (x + 9 + 3 * p + 2)))).1 x (tipW (shW (dl1 S p) p (payS S p) 6) p i) ∧ FX x M (fw_row (fw_st (fw_st (fw_st (fw_st M (x + 9 + 3 * p) 4 2) (x + 9 + 3 * p) 6 t) (x + 9 + 3 * p) 7 v) x 4 w) (x + 9 + 3 * p + 2) (cpN 6 (fun c => fsh S' p' ((fw_st (fw_st (fw_st (fw_st M (x + 9 + 3 * p) 4 2) (x + 9 + 3 * p) 6 t) (x + 9 + 3 * p) 7 v) x 4 w).1 (x + 9 + 3 * p) 7) c) ((fw_st (fw_st (fw_st (fw_st M (x + 9 + 3 * p) 4 2) (x + 9 + 3 * p) 6 t) (x + 9 + 3 * p) 7 v) x 4 w).1 (x + 9 + 3 * p + 2))))) := by
        intro t v w e1 e2 e3
        have hR2 := dl_rep hR hp24 e1 e2 e3
        generalize hM1 : fw_st (fw_st (fw_st (fw_st M (x + 9 + 3 * p) 4 2) (x + 9 + 3 * p) 6 t) (x + 9 + 3 * p) 7 v) x 4 w = M1 at hR2
        have hF : FX x M M1 := by rw [← hM1]; exact FX_tr (fP hp24) (FX_tr (fP hp24) (FX_tr (fP hp24) fX))
        have e7 : M1.1 (x + 9 + 3 * p) 7 = payS S p := (rP hR2 (by rw [dp]; exact hp) (by decide)).trans d7
        refine ⟨PK_of hE hp24, dl1 S p, p, ⟨fun c hc => rL hR2 (by rw [dp]; exact hp) hc, hLG2⟩, cn S, 0, rfl, by omega, rfl, rfl, ?_, FX_tr hF (FX_row (by omega) (by omega))⟩
        rw [e7]
        exact Rep_row hR2 hp24 rfl 6 (Nat.le_refl 6)
      have g2 : ∀ t, (fw_st (fw_st M (x + 9 + 3 * p) 4 2) (x + 9 + 3 * p) 6 t).1 (x + 9 + 3 * p) 2 = sP S p 2 := fun t => by rw [st_n (by decide), st_n (by decide)]; exact rP hR hp (by decide)
      have g3 : ∀ t, (fw_st (fw_st M (x + 9 + 3 * p) 4 2) (x + 9 + 3 * p) 6 t).1 (x + 9 + 3 * p) 3 = sP S p 3 := fun t => by rw [st_n (by decide), st_n (by decide)]; exact rP hR hp (by decide)
      have g0 : ∀ t, (fw_st (fw_st M (x + 9 + 3 * p) 4 2) (x + 9 + 3 * p) 6 t).1 x 0 = S 0 := fun t => by rw [st_o (by omega), st_o (by omega)]; exact r0 hR
      have g4 : ∀ t v, (fw_st (fw_st (fw_st M (x + 9 + 3 * p) 4 2) (x + 9 + 3 * p) 6 t) (x + 9 + 3 * p) 7 v).1 x 4 = S 6 := fun t v => by rw [st_o (by omega), st_o (by omega), st_o (by omega)]; exact r4 hR
      have g7 : ∀ t v, (fw_st (fw_st (fw_st M (x + 9 + 3 * p) 4 2) (x + 9 + 3 * p) 6 t) (x + 9 + 3 * p) 7 v).1 (x + 9 + 3 * p) 7 = v := fun t v => st_s
      have kp := kP hE hp24
      have kx := kX hE
      refine And.intro kp (And.intro kx (And.intro kp (And.intro kx (And.intro kp (And.intro (fun h1 => ?_) (fun h1 => ?_))))))
      · have h1 : (fw_st (fw_st M (x + 9 + 3 * p) 4 2) (x + 9 + 3 * p) 6 ((fw_st M (x + 9 + 3 * p) 4 2).1 x 0)).1 (x + 9 + 3 * p) 2 < (fw_st (fw_st M (x + 9 + 3 * p) 4 2) (x + 9 + 3 * p) 6 ((fw_st M (x + 9 + 3 * p) 4 2).1 x 0)).1 x 0 := h1
        rw [g2, g0] at h1
        have ev : (fw_st (fw_st M (x + 9 + 3 * p) 4 2) (x + 9 + 3 * p) 6 ((fw_st M (x + 9 + 3 * p) 4 2).1 x 0)).1 (x + 9 + 3 * p) 3 / 2 = payS S p := by
          rw [g3]; unfold payS; rw [if_neg (Int32.not_le.mpr h1)]
        refine And.intro kp (And.intro n2s (And.intro kp (And.intro kx (And.intro kp (And.intro kx (And.intro kp ?_))))))
        exact rest _ _ _ f0 ev (by rw [← ev]; exact (congr (congrArg HAdd.hAdd (g4 _ _)) (g7 _ _)))
      · have h1 : ¬ (fw_st (fw_st M (x + 9 + 3 * p) 4 2) (x + 9 + 3 * p) 6 ((fw_st M (x + 9 + 3 * p) 4 2).1 x 0)).1 (x + 9 + 3 * p) 2 < (fw_st (fw_st M (x + 9 + 3 * p) 4 2) (x + 9 + 3 * p) 6 ((fw_st M (x + 9 + 3 * p) 4 2).1 x 0)).1 x 0 := h1
        rw [g2, g0] at h1
        have ev : (fw_st (fw_st M (x + 9 + 3 * p) 4 2) (x + 9 + 3 * p) 6 ((fw_st M (x + 9 + 3 * p) 4 2).1 x 0)).1 (x + 9 + 3 * p) 3 = payS S p := by
          rw [g3]; unfold payS; rw [if_pos (Int32.not_lt.mp h1)]
        refine And.intro kp (And.intro kp (And.intro kx (And.intro kp (And.intro kx (And.intro kp ?_)))))
        exact rest _ _ _ f0 ev (by rw [← ev]; exact (congr (congrArg HAdd.hAdd (g4 _ _)) (g7 _ _)))
    · intro q hq m ls st M' hi
      cases List.mem_singleton.mp hq
      obtain ⟨i, rfl, hi, rfl, rfl, hR', hF'⟩ := hi
      have t2 : tipW (shW (dl1 S p) p (payS S p) 6) p i 2 = S 2 := by rw [tipW_lo (by decide), shW_lo (by decide)]; exact d2
      have tc : cn (tipW (shW (dl1 S p) p (payS S p) 6) p i) = cn S := cn_eq t2
      have tp : pn (tipW (shW (dl1 S p) p (payS S p) 6) p i) = pn S := pn_eq (by rw [tipW_lo (by decide), shW_lo (by decide)]; exact dl1_lo (by decide))
      have e2 : M'.1 x 2 = nI (cn S) := by rw [r2 hR', t2]; exact hS2
      refine ⟨80, And.intro (kX hE) (And.intro (fun h1 => ?_) (fun h1 => ?_))⟩
      · have h1 : M'.1 x 2 ≤ nI i := h1
        rw [e2, n_ge (by omega) (by omega)] at h1
        rw [show i = cn S by omega] at hR'
        refine h M' ?_ hF'
        unfold shareS
        rw [dc]
        exact hR'
      · have h1 : ¬ M'.1 x 2 ≤ nI i := h1
        rw [e2, n_ge (by omega) (by omega)] at h1
        refine And.intro (kX hE) (And.intro hE (Exists.intro (cn S) (And.intro hn6 (And.intro e2 (Or.inl (Exists.intro i (And.intro (by omega) (And.intro rfl ?_))))))))
        have v2 : M'.1 (x + 3 + i) 2 = sC (tipW (shW (dl1 S p) p (payS S p) 6) p i) i 2 := rC hR' (by rw [tc]; omega) (by decide)
        have vs : M'.1 (x + 9 + 3 * p + 2) i = sP (tipW (shW (dl1 S p) p (payS S p) 6) p i) p (14 + i) := rS hR' (by rw [tp]; exact hp) (by omega)
        refine And.intro (kC hE (by omega)) (And.intro (kP hE hp24) (And.intro (PK_of hE hp24) (Exists.intro i (And.intro (by omega) (And.intro rfl (And.intro (kC hE (by omega)) ?_))))))
        refine Exists.intro (cn S - (i + 1)) (And.intro (by omega) (Exists.intro (i + 1) ⟨rfl, by omega, ?_, rfl, ?_, FX_tr hF' (fC (by omega))⟩))
        · show [some (Value.ref x), some (Value.ref (x + 9 + 3 * p)), some (Value.int (nI i + 1)), none] = _
          rw [nI_1]
        · show Rep (fw_st M' (x + 3 + i) 2 (M'.1 (x + 3 + i) 2 + M'.1 (x + 9 + 3 * p + 2) i)).1 x _
          rw [v2, vs]
          exact Rep_C hR' (by omega) (by decide)
  · exact h.elim
theorem LG_leg {b : Nat} {S : Sx} {c p : Nat} {z : Int32} (hb : b < 50000) (h : WFp b S p) (hc : c < 6) : LG (legS S c p z) p := by
  obtain ⟨kc, hkc, ekc⟩ := h.2.2.2.2.2 c hc
  have hch : ∀ d, ∃ k, d < 6 → k ≤ b + 1 ∧ sP (legS S c p z) p (8 + d) = nI k := fun d => by
    by_cases hd : d < 6
    · obtain ⟨kd, h1, h2⟩ := h.2.2.2.2.2 d hd
      by_cases e : d = c
      · refine ⟨kc + 1, fun _ => ⟨by omega, ?_⟩⟩
        rw [legS_P hc (by omega), if_pos ⟨rfl, by omega⟩, ekc, nI_1]
      · refine ⟨kd, fun _ => ⟨by omega, ?_⟩⟩
        rw [legS_P hc (by omega), if_neg (by omega), if_neg (by omega), h2]
    · exact ⟨0, fun z => absurd z hd⟩
  obtain ⟨L, hL⟩ := Classical.axiomOfChoice hch
  refine ⟨L, fun d hd => ⟨by have := (hL d hd).1; omega, (hL d hd).2⟩, c, hc, ?_⟩
  have h9 := hL c hc
  rw [legS_P hc (by omega), if_pos ⟨rfl, rfl⟩, ekc, nI_1, nI_eq (by omega) (by omega)] at h9
  omega
set_option maxRecDepth 100000 in
theorem wk_X1_carry (B : Nat) : fw_Wk B fl_X1 (cal_X1_carry B) [] cst_X1 none kX1_carry 5 (ct_X1_carry B) := by
  intro as M Q QX h
  unfold ct_X1_carry at h
  split at h
  · rename_i x y u q
    obtain ⟨b, S, c, p, hb, ⟨hE, hR, hW⟩, hc, hp, rfl, rfl, rfl, h⟩ := h
    have hn6 : cn S ≤ 6 := hW.2.1
    have hm24 : pn S ≤ 24 := hW.2.2.2.1
    have hc6 : c < 6 := by omega
    have hp24 : p < 24 := by omega
    have kc := kC hE hc6
    have kp := kP hE hp24
    have kx := kX hE
    have e1 : M.1 (x + 3 + c) 1 = sC S c 1 := rC hR hc (by decide)
    have e0 : M.1 (x + 3 + c) 0 = sC S c 0 := rC hR hc (by decide)
    have e5 : M.1 (x + 9 + 3 * p) 1 = sP S p 1 := rP hR hp (by decide)
    obtain ⟨z, hz, ez⟩ := (hW.2.2.2.2.1 c hc).1
    obtain ⟨o, d, -, hd, -, -, ed⟩ := (hW.2.2.2.2.2.2 p hp).1
    obtain ⟨k, hk, ek⟩ := (hW.2.2.2.2.2.2 p hp).2.2.1
    have en : nxz (M.1 (x + 3 + c) 1) (M.1 (x + 9 + 3 * p) 1) = nxz (sC S c 1) (sP S p 1) := by rw [e1, e5]
    unfold carS at h
    refine ⟨rfl, [], ⟨120, And.intro kc (And.intro kp (Exists.intro z (Exists.intro d (And.intro hz (And.intro hd (And.intro (e1.trans ez) (And.intro (e5.trans ed) (And.intro kc (And.intro (fun h1 => ?_) (fun h1 => ?_))))))))))⟩, nofun⟩
    · have h1 : hs (M.1 (x + 3 + c) 0) (nxz (M.1 (x + 3 + c) 1) (M.1 (x + 9 + 3 * p) 1)) = true := bi_n0.mp h1
      rw [e0, en] at h1
      rw [if_pos h1] at h
      have key : ∀ v m l, v = nxz (sC S c 1) (sP S p 1) → m = S 5 + 1 → l = sP S p (8 + c) + 1 → Rep (fw_st (fw_st (fw_st (fw_st M (x + 3 + c) 1 v) x 6 m) (x + 9 + 3 * p) 5 v) (x + 9 + 3 * p + 1) c l).1 x (legS S c p (nxz (sC S c 1) (sP S p 1))) := by
        rintro _ _ _ rfl rfl rfl
        exact Rep_L (Rep_P (Rep_6 (Rep_C hR hc6 (by decide))) hp24 (by decide)) hp24 hc6
      have kf : ∀ v m l, FX x M (fw_st (fw_st (fw_st (fw_st M (x + 3 + c) 1 v) x 6 m) (x + 9 + 3 * p) 5 v) (x + 9 + 3 * p + 1) c l) := fun v m l => FX_tr (fC hc6) (FX_tr fX (FX_tr (fP hp24) (FX_st (by omega) (by omega))))
      have g6 : ∀ v, (fw_st M (x + 3 + c) 1 v).1 x 6 + 1 = S 5 + 1 := fun v => by rw [st_o (by omega), r6 hR]
      have gl : ∀ v m, (fw_st (fw_st (fw_st M (x + 3 + c) 1 v) x 6 m) (x + 9 + 3 * p) 5 v).1 (x + 9 + 3 * p + 1) c + 1 = sP S p (8 + c) + 1 := fun v m => by rw [st_o (by omega), st_o (by omega), st_o (by omega), rL hR hp hc6]
      have hRl := key (nxz (M.1 (x + 3 + c) 1) (M.1 (x + 9 + 3 * p) 1)) ((fw_st M (x + 3 + c) 1 (nxz (M.1 (x + 3 + c) 1) (M.1 (x + 9 + 3 * p) 1))).1 x 6 + 1) ((fw_st (fw_st (fw_st M (x + 3 + c) 1 (nxz (M.1 (x + 3 + c) 1) (M.1 (x + 9 + 3 * p) 1))) x 6 ((fw_st M (x + 3 + c) 1 (nxz (M.1 (x + 3 + c) 1) (M.1 (x + 9 + 3 * p) 1))).1 x 6 + 1)) (x + 9 + 3 * p) 5 (nxz (M.1 (x + 3 + c) 1) (M.1 (x + 9 + 3 * p) 1))).1 (x + 9 + 3 * p + 1) c + 1) en (g6 _) (gl _ _)
      have hFl := kf (nxz (M.1 (x + 3 + c) 1) (M.1 (x + 9 + 3 * p) 1)) ((fw_st M (x + 3 + c) 1 (nxz (M.1 (x + 3 + c) 1) (M.1 (x + 9 + 3 * p) 1))).1 x 6 + 1) ((fw_st (fw_st (fw_st M (x + 3 + c) 1 (nxz (M.1 (x + 3 + c) 1) (M.1 (x + 9 + 3 * p) 1))) x 6 ((fw_st M (x + 3 + c) 1 (nxz (M.1 (x + 3 + c) 1) (M.1 (x + 9 + 3 * p) 1))).1 x 6 + 1)) (x + 9 + 3 * p) 5 (nxz (M.1 (x + 3 + c) 1) (M.1 (x + 9 + 3 * p) 1))).1 (x + 9 + 3 * p + 1) c + 1)
      have lcn : cn (legS S c p (nxz (sC S c 1) (sP S p 1))) = cn S := cn_eq (legS_lo (by decide))
      have lpn : pn (legS S c p (nxz (sC S c 1) (sP S p 1))) = pn S := pn_eq (legS_lo (by decide))
      have l1 : sP (legS S c p (nxz (sC S c 1) (sP S p 1))) p 1 = sP S p 1 := by rw [legS_P hc6 (by decide), if_neg (by omega), if_neg (by omega)]
      have l3 : sP (legS S c p (nxz (sC S c 1) (sP S p 1))) p 3 = nI k := by rw [legS_P hc6 (by decide), if_neg (by omega), if_neg (by omega)]; exact ek
      refine And.intro kc (And.intro kx (And.intro kx (And.intro kp (And.intro kp (And.intro (PK_of hE hp24) (Exists.intro c (And.intro hc6 (And.intro rfl (And.intro kp ?_)))))))))
      have rq := rP hRl (p := p) (w := 1) (by rw [lpn]; exact hp) (by decide)
      rw [l1] at rq
      refine And.intro (fun h2 => ?_) (fun h2 => ?_)
      · have h2 := fun e => h2 (Eq.trans en (Eq.trans e rq.symm))
        rw [if_neg h2] at h
        exact h _ hRl hFl
      · have h2 : nxz (sC S c 1) (sP S p 1) = sP S p 1 := en.symm.trans (h2.trans rq)
        rw [if_pos h2] at h
        refine And.intro kx (And.intro hE (Exists.intro (legS S c p (nxz (sC S c 1) (sP S p 1))) (Exists.intro p (Exists.intro k (And.intro hRl (And.intro ?_ (And.intro (by rw [lpn]; exact hp) (And.intro rfl (And.intro (LG_leg hb (hW.2.2.2.2.2.2 p hp) hc6) (And.intro hk (And.intro l3 ?_)))))))))))
        · rw [lcn, legS_lo (by decide)]; exact hW.1
        · intro M4 hR4 hF4
          refine And.intro kc (And.intro kc (h _ ?_ (FX_tr hFl (FX_tr hF4 (F_free hc6)))))
          rw [delS_eq]
          exact Rep_free hR4 hc6
    · have h1 : hs (M.1 (x + 3 + c) 0) (nxz (M.1 (x + 3 + c) 1) (M.1 (x + 9 + 3 * p) 1)) = false := bi_0.mp h1
      rw [e0, en] at h1
      rw [if_neg (by rw [h1]; decide)] at h
      have key : ∀ v, v = S 4 + 1 → Q none (fw_st (fw_st (fw_st (fw_st M (x + 9 + 3 * p) 4 0) x 5 v) (x + 3 + c) 3 0) (x + 3 + c) 4 (-1)) := by
        rintro _ rfl
        exact h _ (Rep_free (Rep_5 (Rep_P hR hp24 (by decide))) hc6) (FX_tr (fP hp24) (FX_tr fX (F_free hc6)))
      refine And.intro kp (And.intro kx (And.intro kx (And.intro kc (And.intro kc (key _ ?_)))))
      show (fw_st M (x + 9 + 3 * p) 4 0).1 x 5 + 1 = _
      rw [st_o (by omega), r5 hR]
  · exact h.elim
end WX3
end
section
/-! AN EXCHANGE'S METHODS WALKED: choose, join, accept, become -/
section WX4
theorem sought_iff {S : Sx} {v : Int32} : ∀ n, sought S v n = true ↔ ∃ c, c < n ∧ sC S c 4 = v := by
  intro n
  induction n with
  | zero => exact ⟨fun h => (nomatch h), fun ⟨c, h, _⟩ => absurd h (Nat.not_lt_zero c)⟩
  | succ n ih =>
    unfold sought
    rw [Bool.or_eq_true, ih, decide_eq_true_eq]
    constructor
    · rintro (⟨c, h1, h2⟩ | h)
      · exact ⟨c, by omega, h2⟩
      · exact ⟨n, by omega, h⟩
    · rintro ⟨c, h1, h2⟩
      by_cases e : c = n
      · exact Or.inr (by rw [← e]; exact h2)
      · exact Or.inl ⟨c, by omega, h2⟩
theorem asked_iff {S : Sx} {p c : Nat} : ∀ n, asked S p c n = true ↔ ∃ o, o < n ∧ o ≠ c ∧ sC S o 3 = 1 ∧ sC S o 4 = nI p := by
  intro n
  induction n with
  | zero => exact ⟨fun h => (nomatch h), fun ⟨c, h, _⟩ => absurd h (Nat.not_lt_zero c)⟩
  | succ n ih =>
    unfold asked
    simp only [Bool.or_eq_true, Bool.and_eq_true, decide_eq_true_eq, ih]
    constructor
    · rintro (⟨o, h1, h2⟩ | ⟨⟨h1, h2⟩, h3⟩)
      · exact ⟨o, by omega, h2⟩
      · exact ⟨n, by omega, h1, h2, h3⟩
    · rintro ⟨o, h1, h2, h3, h4⟩
      by_cases e : o = n
      · subst e; exact Or.inr ⟨⟨h2, h3⟩, h4⟩
      · exact Or.inl ⟨o, by omega, h2, h3, h4⟩
theorem sought_asked {b : Nat} {S : Sx} {c p : Nat} (hW : WF b S) (hp : p < pn S) (hs : sP S p 4 = 0) : sought (frS S c) (nI p) (cn S) = asked S p c (cn S) := by
  have hm := hW.2.2.2.1
  apply Bool.eq_iff_iff.mpr
  rw [sought_iff, asked_iff]
  constructor
  · rintro ⟨o, ho, e⟩
    rw [frS_C (by decide)] at e
    by_cases eo : o = c
    · rw [if_pos ⟨eo, rfl⟩] at e
      exact absurd e.symm (nI_m1 (by omega))
    · rw [if_neg (by omega), if_neg (by omega)] at e
      rcases (hW.2.2.2.2.1 o ho).2 with ⟨-, a0⟩ | ⟨p', hp', ea, hd⟩
      · rw [a0] at e; exact absurd e.symm (nI_m1 (by omega))
      · rw [ea, nI_eq (by omega) (by omega)] at e
        subst e
        refine ⟨o, ho, eo, hd.elim id (fun y => ?_), ea⟩
        rw [hs] at y
        exact absurd y.2 (by decide)
  · rintro ⟨o, ho, ne, h3, h4⟩
    exact ⟨o, ho, by rw [frS_C (by decide), if_neg (by omega), if_neg (by omega)]; exact h4⟩
def low (S : Sx) (c i : Nat) : Int32 := if chB S c i = -1 then 1000 else sP S (chB S c i).toNatClampNeg 2
theorem low_yes {b : Nat} {S : Sx} {c i : Nat} (hW : WF b S) (hi : i < pn S) (h1 : may S c i = true) (h2 : sP S i 2 < low S c i) : chB S c (i + 1) = nI i ∧ low S c (i + 1) = sP S i 2 := by
  have hm := hW.2.2.2.1
  have e : chB S c (i + 1) = nI i := by
    unfold chB
    rw [if_pos]
    refine ⟨h1, ?_⟩
    unfold low at h2
    by_cases z : chB S c i = -1
    · exact Or.inl z
    · rw [if_neg z] at h2; exact Or.inr h2
  refine ⟨e, ?_⟩
  unfold low
  rw [e, if_neg (nI_m1 (by omega)), n_cl (by omega)]
theorem low_no {b : Nat} {S : Sx} {c i : Nat} (hW : WF b S) (hi : i < pn S) (h : ¬ (may S c i = true ∧ sP S i 2 < low S c i)) : chB S c (i + 1) = chB S c i ∧ low S c (i + 1) = low S c i := by
  obtain ⟨k, -, hk, ek⟩ := (hW.2.2.2.2.2.2 i hi).2.1
  have e : chB S c (i + 1) = chB S c i := by
    conv => lhs; unfold chB
    rw [if_neg]
    rintro ⟨h1, h2⟩
    refine h ⟨h1, ?_⟩
    unfold low
    rcases h2 with z | z
    · rw [if_pos z, ek, show (1000 : Int32) = nI 1000 from rfl, n_lt (by omega) (by decide)]
      omega
    · split
      · rw [ek, show (1000 : Int32) = nI 1000 from rfl, n_lt (by omega) (by decide)]
        omega
      · exact z
  exact ⟨e, by unfold low; rw [e]⟩
set_option maxRecDepth 100000 in
theorem wk_X1_choose (B : Nat) : fw_Wk B fl_X1 (cal_X1_choose B) [] cst_X1 none kX1_choose 6 (ct_X1_choose B) := by
  intro as M Q QX h
  unfold ct_X1_choose at h
  split at h
  · rename_i x y
    obtain ⟨b, S, c, ⟨hE, hR, hW⟩, hc, rfl, h⟩ := h
    have hn6 : cn S ≤ 6 := hW.2.1
    have hm24 : pn S ≤ 24 := hW.2.2.2.1
    have hc6 : c < 6 := by omega
    have kc := kC hE hc6
    have kx := kX hE
    have hR1 := Rep_free hR hc6
    have hF1 := F_free (x := x) (M := M) hc6
    have hW1 := WF_frs hW hc
    have c1 : cn (frS S c) = cn S := cn_eq (frS_lo (by decide))
    have p1 : pn (frS S c) = pn S := pn_eq (frS_lo (by decide))
    have hfin : ∀ M1, Rep M1.1 x (frS S c) → FX x M M1 → (chB S c (pn S) = -1 → Q none M1) ∧ (¬ chB S c (pn S) = -1 → Q none (fw_st (fw_st M1 (x + 3 + c) 3 1) (x + 3 + c) 4 (chB S c (pn S)))) := by
      intro M1 g1 g2
      constructor
      · intro e
        refine h _ ?_ g2
        unfold chS
        rw [if_pos e, e]
        exact g1
      · intro e
        refine h _ ?_ (FX_tr g2 (FX_tr (fC hc6) (fC hc6)))
        have := Rep_C (w := 4) (v := chB S c (pn S)) (Rep_C (w := 3) (v := 1) g1 hc6 (by decide)) hc6 (by decide)
        have ee : uC (uC (frS S c) c 3 1) c 4 (chB S c (pn S)) = chS S c := by
          unfold chS frS uC
          rw [if_neg e]
          funext k
          unfold upd
          by_cases k4 : k = 7 + 5 * c + 4
          · rw [if_pos k4, if_pos k4]
          · rw [if_neg k4, if_neg k4]
            by_cases k3 : k = 7 + 5 * c + 3
            · rw [if_pos k3, if_pos k3, if_neg k4]
            · rw [if_neg k3, if_neg k3, if_neg k4, if_neg k3]
        rw [ee] at this
        exact this
    generalize hM1 : fw_st (fw_st M (x + 3 + c) 3 0) (x + 3 + c) 4 (-1) = M1 at hR1 hF1
    have hfin := hfin M1 hR1 hF1
    have e3 : M1.1 x 3 = nI (pn S) := by rw [r3 hR1, frS_lo (by decide)]; exact hW.2.2.1
    refine ⟨rfl, [(13, [true, true, true, true, true, false], fun m ls st M' => ∃ i, m = pn S - i ∧ i ≤ pn S ∧ ls = [some (.ref x), some (.ref (x + 3 + c)), some (.int (chB S c i)), some (.int (low S c i)), some (.int (nI i)), none] ∧ st = [] ∧ M' = M1)], ⟨60, And.intro kc (And.intro kc (Exists.intro (pn S) (Exists.intro 0 ⟨rfl, by omega, rfl, rfl, hM1⟩)))⟩, ?_⟩
    intro q hq m ls st M' hi
    cases List.mem_singleton.mp hq
    obtain ⟨i, rfl, hi, rfl, rfl, rfl⟩ := hi
    refine ⟨160, And.intro kx (And.intro (fun h1 => ?_) (fun h1 => ?_))⟩
    · have h1 : M'.1 x 3 ≤ nI i := h1
      rw [e3, n_ge (by omega) (by omega)] at h1
      rw [show pn S = i by omega] at hfin
      exact And.intro (fun g1 => hfin.1 g1) (fun g1 => And.intro kc (And.intro kc (hfin.2 g1)))
    · have h1 : ¬ M'.1 x 3 ≤ nI i := h1
      rw [e3, n_ge (by omega) (by omega)] at h1
      have hi2 : i < pn S := by omega
      have kp := kP (p := i) hE (by omega)
      have q4 : M'.1 (x + 9 + 3 * i) 4 = sP S i 4 := by rw [rP hR1 (by rw [p1]; exact hi2) (by decide), frS_P hc6]
      have q2 : M'.1 (x + 9 + 3 * i) 2 = sP S i 2 := by rw [rP hR1 (by rw [p1]; exact hi2) (by decide), frS_P hc6]
      have q5 : M'.1 (x + 9 + 3 * i) 5 = sP S i 5 := by rw [rP hR1 (by rw [p1]; exact hi2) (by decide), frS_P hc6]
      have q1 : M'.1 (x + 9 + 3 * i) 1 = sP S i 1 := by rw [rP hR1 (by rw [p1]; exact hi2) (by decide), frS_P hc6]
      have y0 : M'.1 (x + 3 + c) 0 = sC S c 0 := by rw [rC hR1 (by rw [c1]; exact hc) (by decide), frS_C (by decide), if_neg (by omega), if_neg (by omega)]
      have hWp := hW.2.2.2.2.2.2 i hi2
      obtain ⟨o, d, -, hd, -, -, ed⟩ := hWp.1
      obtain ⟨z, hz, ez⟩ := hWp.2.2.2.2.1
      have key : ∀ a l w, w = none → chB S c (i + 1) = a → low S c (i + 1) = l → ∃ m', m' < pn S - i ∧ ∃ i', m' = pn S - i' ∧ i' ≤ pn S ∧ ([some (.ref x), some (.ref (x + 3 + c)), some (.int a), some (.int l), some (.int (nI i + 1)), w] : fw_L) = [some (.ref x), some (.ref (x + 3 + c)), some (.int (chB S c i')), some (.int (low S c i')), some (.int (nI i')), none] ∧ ([] : List Value) = [] ∧ M' = M' := by
        rintro a l w rfl rfl rfl
        exact ⟨pn S - (i + 1), by omega, i + 1, rfl, by omega, by rw [nI_1], rfl, rfl⟩
      have skip : ¬ (may S c i = true ∧ sP S i 2 < low S c i) → ∀ w, w = none → ∃ m', m' < pn S - i ∧ ∃ i', m' = pn S - i' ∧ i' ≤ pn S ∧ ([some (.ref x), some (.ref (x + 3 + c)), some (.int (chB S c i)), some (.int (low S c i)), some (.int (nI i + 1)), w] : fw_L) = [some (.ref x), some (.ref (x + 3 + c)), some (.int (chB S c i')), some (.int (low S c i')), some (.int (nI i')), none] ∧ ([] : List Value) = [] ∧ M' = M' := fun e w ew => by
        obtain ⟨a1, a2⟩ := low_no hW hi2 e
        exact key _ _ w ew a1 a2
      refine And.intro kx (And.intro hE (Exists.intro (pn S) (And.intro hm24 (And.intro e3 (Or.inl (Exists.intro i (And.intro hi2 (And.intro rfl ?_))))))))
      refine And.intro kp (And.intro (fun g1 => ?_) (fun g1 => And.intro kp (And.intro (fun g2 => ?_) (fun g2 => And.intro kc (And.intro kp (And.intro kp (Exists.intro z (Exists.intro d (And.intro hz (And.intro hd (And.intro (q5.trans ez) (And.intro (q1.trans ed) (And.intro (fun g3 => ?_) (fun g3 => ?_))))))))))))))
      · have g1 : ¬ M'.1 (x + 9 + 3 * i) 4 = 0 := g1
        rw [q4] at g1
        refine skip (fun e => ?_) none rfl
        have := e.1
        unfold may at this
        rw [decide_eq_false g1] at this
        cases this
      · have g2 : low S c i ≤ M'.1 (x + 9 + 3 * i) 2 := g2
        rw [q2] at g2
        exact skip (fun e => Int32.not_lt.mpr g2 e.2) none rfl
      · have g3 : (hs (M'.1 (x + 3 + c) 0) (M'.1 (x + 9 + 3 * i) 5) && hs (M'.1 (x + 3 + c) 0) (nxz (M'.1 (x + 9 + 3 * i) 5) (M'.1 (x + 9 + 3 * i) 1))) = false := bi_0.mp g3
        rw [y0, q5, q1] at g3
        refine skip (fun e => ?_) none rfl
        have := e.1
        unfold may suit at this
        rw [g3, Bool.and_false] at this
        cases this
      · have g1 : M'.1 (x + 9 + 3 * i) 4 = 0 := g1
        rw [q4] at g1
        have g2 : ¬ low S c i ≤ M'.1 (x + 9 + 3 * i) 2 := g2
        rw [q2] at g2
        have g3 : (hs (M'.1 (x + 3 + c) 0) (M'.1 (x + 9 + 3 * i) 5) && hs (M'.1 (x + 3 + c) 0) (nxz (M'.1 (x + 9 + 3 * i) 5) (M'.1 (x + 9 + 3 * i) 1))) = true := bi_n0.mp g3
        rw [y0, q5, q1] at g3
        refine And.intro kx (Exists.intro b (Exists.intro (frS S c) (And.intro ⟨hE, hR1, hW1⟩ (And.intro (fun g4 => ?_) (fun g4 => ?_)))))
        · have g4 : sought (frS S c) (nI i) (cn (frS S c)) = true := bi_n0.mp g4
          rw [c1, sought_asked hW hi2 g1] at g4
          refine skip (fun e => ?_) none rfl
          have := e.1
          unfold may at this
          rw [g4] at this
          simp at this
        · have g4 : sought (frS S c) (nI i) (cn (frS S c)) = false := bi_0.mp g4
          rw [c1, sought_asked hW hi2 g1] at g4
          have hm : may S c i = true := by
            unfold may suit
            rw [decide_eq_true g1, g3, g4]; rfl
          obtain ⟨a1, a2⟩ := low_yes hW hi2 hm (Int32.not_le.mp g2)
          refine And.intro kp (key _ _ none rfl a1 ?_)
          rw [a2]
          exact q2.symm
  · exact h.elim
theorem join_rep {x : Nat} {M : fw_M} {S : Sx} {ar z : Int32} (hR : Rep M.1 x S) (hS2 : S 2 = nI (cn S)) (hc : cn S < 6) : Rep (fw_st (fw_st (fw_st (fw_st (fw_st (fw_st M x 2 (S 2 + 1)) (x + 3 + cn S) 0 ar) (x + 3 + cn S) 1 z) (x + 3 + cn S) 2 0) (x + 3 + cn S) 3 0) (x + 3 + cn S) 4 (-1)).1 x (addS S ar z) := by
  have hm24 := hR.2.1
  have f2 : addS S ar z 2 = nI (cn S + 1) := by unfold addS; rw [upd_s]; exact nI_suc hS2
  have fl : ∀ k, k < 7 → k ≠ 2 → addS S ar z k = S k := fun k hk h2 => by unfold addS; rw [upd_n h2, frS_lo hk, uC_lo hk, uC_lo hk, uC_lo hk]
  have g2 : cn (addS S ar z) = cn S + 1 := by unfold cn; rw [f2, n_cl (by omega)]; rfl
  have g3 : pn (addS S ar z) = pn S := pn_eq (fl 3 (by decide) (by decide))
  have gP : ∀ p w, sP (addS S ar z) p w = sP S p w := fun p w => by
    unfold addS; rw [gPu (by decide), frS_P hc, gPC hc (by decide), gPC hc (by decide), gPC hc (by decide)]
  have old : ∀ (a k : Nat), a ≠ x + 3 + cn S → (a ≠ x ∨ k ≠ 2) → (fw_st (fw_st (fw_st (fw_st (fw_st (fw_st M x 2 (S 2 + 1)) (x + 3 + cn S) 0 ar) (x + 3 + cn S) 1 z) (x + 3 + cn S) 2 0) (x + 3 + cn S) 3 0) (x + 3 + cn S) 4 (-1)).1 a k = M.1 a k := fun a k h1 h2 => by
    rw [st_o h1, st_o h1, st_o h1, st_o h1, st_o h1]
    rcases h2 with h2 | h2
    · rw [st_o h2]
    · by_cases e : a = x
      · subst e; rw [st_n h2]
      · rw [st_o e]
  refine Rep_mk (by rw [g2]; omega) (by rw [g3]; exact hm24) ?_ ?_ ?_ ?_ ?_ ?_ ?_ (fun c hc' w hw => ?_) (fun p hp => ?_)
  · rw [old _ _ (by omega) (Or.inr (by decide)), fl 0 (by decide) (by decide)]; exact r0 hR
  · rw [old _ _ (by omega) (Or.inr (by decide)), fl 1 (by decide) (by decide)]; exact r1 hR
  · rw [st_o (by omega), st_o (by omega), st_o (by omega), st_o (by omega), st_o (by omega), st_s, f2]; exact nI_suc hS2
  · rw [old _ _ (by omega) (Or.inr (by decide)), fl 3 (by decide) (by decide)]; exact r3 hR
  · rw [old _ _ (by omega) (Or.inr (by decide)), fl 6 (by decide) (by decide)]; exact r4 hR
  · rw [old _ _ (by omega) (Or.inr (by decide)), fl 4 (by decide) (by decide)]; exact r5 hR
  · rw [old _ _ (by omega) (Or.inr (by decide)), fl 5 (by decide) (by decide)]; exact r6 hR
  · rw [g2] at hc'
    unfold addS
    rw [gCu (by decide), frS_C hw, gCC hw (by decide), gCC hw (by decide), gCC hw (by decide)]
    by_cases e : c = cn S
    · subst e
      rcases (show w = 0 ∨ w = 1 ∨ w = 2 ∨ w = 3 ∨ w = 4 by omega) with y | y | y | y | y <;> subst y <;> simp [st_s, st_n]
    · rw [old _ _ (by omega) (Or.inl (by omega)), if_neg (by omega), if_neg (by omega), if_neg (by omega), if_neg (by omega), if_neg (by omega)]
      exact rC hR (by omega) hw
  · rw [g3] at hp
    refine ⟨fun w hw => ?_, fun c hc' => ⟨?_, ?_⟩⟩
    · rw [gP, old _ _ (by omega) (Or.inl (by omega))]; exact rP hR hp hw
    · rw [gP, old _ _ (by omega) (Or.inl (by omega))]; exact rL hR hp hc'
    · rw [gP, old _ _ (by omega) (Or.inl (by omega))]; exact rS hR hp hc'
set_option maxRecDepth 100000 in
theorem wk_X1_join (B : Nat) : fw_Wk B fl_X1 (cal_X1_join B) [] cst_X1 (some .int) kX1_join 5 (ct_X1_join B) := by
  intro as M Q QX h
  unfold ct_X1_join at h
  split at h
  · rename_i x ar z
    obtain ⟨b, S, ⟨hE, hR, hW⟩, hc, h⟩ := h
    have kx := kX hE
    have e2 : M.1 x 2 = nI (cn S) := (r2 hR).trans hW.1
    have kc := kC hE hc
    have eM : (fw_st M x 2 (M.1 x 2 + 1)).1 x 2 = nI (cn S + 1) := by rw [st_s, e2, nI_1]
    refine ⟨rfl, [], ⟨80, And.intro kx (And.intro kx (And.intro kx (And.intro kx (And.intro hE (Exists.intro (cn S + 1) (And.intro (by omega) (And.intro eM (Or.inl (Exists.intro (cn S) (And.intro (Nat.lt_succ_self _) (And.intro e2 (And.intro kc (And.intro kc ?_)))))))))))))⟩, nofun⟩
    have e2' : M.1 x 2 = S 2 := r2 hR
    show Q (some (.int (M.1 x 2))) (fw_st (fw_st (fw_st (fw_st (fw_st (fw_st M x 2 (M.1 x 2 + 1)) (x + 3 + cn S) 0 ar) (x + 3 + cn S) 1 z) (x + 3 + cn S) 2 0) (x + 3 + cn S) 3 0) (x + 3 + cn S) 4 (-1))
    rw [e2']
    exact h _ (join_rep hR hW.1 hc) (FX_tr fX (FX_tr (fC hc) (FX_tr (fC hc) (FX_tr (fC hc) (FX_tr (fC hc) (fC hc))))))
  · exact h.elim
theorem acc_rep {x a : Nat} {M : fw_M} {S : Sx} {o g k t : Int32} (hR : Rep M.1 x S) (hS3 : S 3 = nI (pn S)) (hp : pn S < 24) (ha : x + 9 + 3 * pn S = a) : Rep (fw_row (fw_row (pB (fw_st M x 3 (S 3 + 1)) a o g k t) (a + 1) (cpN 6 (fun _ => 0) ((fw_st M x 3 (S 3 + 1)).1 (a + 1)))) (a + 2) (cpN 6 (fun _ => 0) ((fw_st M x 3 (S 3 + 1)).1 (a + 2)))).1 x (comS S o g k t) ∧ FX x M (fw_row (fw_row (pB (fw_st M x 3 (S 3 + 1)) a o g k t) (a + 1) (cpN 6 (fun _ => 0) ((fw_st M x 3 (S 3 + 1)).1 (a + 1)))) (a + 2) (cpN 6 (fun _ => 0) ((fw_st M x 3 (S 3 + 1)).1 (a + 2)))) := by
  have hn6 := hR.1
  have old : ∀ (c k' : Nat), c ≠ a → c ≠ a + 1 → c ≠ a + 2 → (c ≠ x ∨ k' ≠ 3) → (fw_row (fw_row (pB (fw_st M x 3 (S 3 + 1)) a o g k t) (a + 1) (cpN 6 (fun _ => 0) ((fw_st M x 3 (S 3 + 1)).1 (a + 1)))) (a + 2) (cpN 6 (fun _ => 0) ((fw_st M x 3 (S 3 + 1)).1 (a + 2)))).1 c k' = M.1 c k' := fun c k' h0 h1 h2 h3 => by
    rw [row_n h2, row_n h1, pB_o h0]
    rcases h3 with h3 | h3
    · rw [st_o h3]
    · by_cases e : c = x
      · subst e; rw [st_n h3]
      · rw [st_o e]
  refine ⟨?_, fun c hc => funext fun k' => old c k' (by omega) (by omega) (by omega) (Or.inl (by omega)), rfl⟩
  have f3 : comS S o g k t 3 = nI (pn S + 1) := by unfold comS; rw [upd_s]; exact nI_suc hS3
  have g2 : cn (comS S o g k t) = cn S := cn_eq (com_lo (by decide) (by decide))
  have g3 : pn (comS S o g k t) = pn S + 1 := by unfold pn; rw [f3, n_cl (by omega)]; rfl
  refine Rep_mk (by rw [g2]; omega) (by rw [g3]; omega) ?_ ?_ ?_ ?_ ?_ ?_ ?_ (fun c hc' w hw => ?_) (fun p hp' => ?_)
  · rw [old _ _ (by omega) (by omega) (by omega) (Or.inr (by decide)), com_lo (by decide) (by decide)]; exact r0 hR
  · rw [old _ _ (by omega) (by omega) (by omega) (Or.inr (by decide)), com_lo (by decide) (by decide)]; exact r1 hR
  · rw [old _ _ (by omega) (by omega) (by omega) (Or.inr (by decide)), com_lo (by decide) (by decide)]; exact r2 hR
  · rw [row_n (by omega), row_n (by omega), pB_o (by omega), st_s, f3]; exact nI_suc hS3
  · rw [old _ _ (by omega) (by omega) (by omega) (Or.inr (by decide)), com_lo (by decide) (by decide)]; exact r4 hR
  · rw [old _ _ (by omega) (by omega) (by omega) (Or.inr (by decide)), com_lo (by decide) (by decide)]; exact r5 hR
  · rw [old _ _ (by omega) (by omega) (by omega) (Or.inr (by decide)), com_lo (by decide) (by decide)]; exact r6 hR
  · rw [g2] at hc'
    rw [com_C (by omega) hw, old _ _ (by omega) (by omega) (by omega) (Or.inl (by omega))]
    exact rC hR hc' hw
  · rw [g3] at hp'
    by_cases e : p = pn S
    · subst e
      rw [ha]
      refine ⟨fun w hw => ?_, fun c hc' => ⟨?_, ?_⟩⟩
      · rw [row_n (by omega), row_n (by omega), com_P (by omega), if_pos rfl]
        unfold pB
        rcases (show w = 0 ∨ w = 1 ∨ w = 2 ∨ w = 3 ∨ w = 4 ∨ w = 5 ∨ w = 6 ∨ w = 7 by omega) with y | y | y | y | y | y | y | y <;> subst y <;> simp [st_s, st_n]
      · rw [row_n (by omega), row_1, com_P (by omega), if_pos rfl, if_neg (by omega), if_neg (by omega), if_neg (by omega), if_neg (by omega), if_neg (by omega), if_neg (by omega)]
        unfold cpN; rw [if_pos hc']
      · rw [row_1, com_P (by omega), if_pos rfl, if_neg (by omega), if_neg (by omega), if_neg (by omega), if_neg (by omega), if_neg (by omega), if_neg (by omega)]
        unfold cpN; rw [if_pos hc']
    · refine ⟨fun w hw => ?_, fun c hc' => ⟨?_, ?_⟩⟩
      · rw [com_P (by omega), if_neg e, old _ _ (by omega) (by omega) (by omega) (Or.inl (by omega))]; exact rP hR (by omega) hw
      · rw [com_P (by omega), if_neg e, old _ _ (by omega) (by omega) (by omega) (Or.inl (by omega))]; exact rL hR (by omega) hc'
      · rw [com_P (by omega), if_neg e, old _ _ (by omega) (by omega) (by omega) (Or.inl (by omega))]; exact rS hR (by omega) hc'
set_option maxRecDepth 100000 in
theorem wk_X1_accept (B : Nat) : fw_Wk B fl_X1 (cal_X1_accept B) [] cst_X1 (some .int) kX1_accept 7 (ct_X1_accept B) := by
  intro as M Q QX h
  unfold ct_X1_accept at h
  split at h
  · rename_i x o g k t
    obtain ⟨b, S, ⟨hE, hR, hW⟩, hp, h⟩ := h
    have kx := kX hE
    have e3 : M.1 x 3 = nI (pn S) := (r3 hR).trans hW.2.2.1
    have kp := kP hE hp
    have eM : (fw_st M x 3 (M.1 x 3 + 1)).1 x 3 = nI (pn S + 1) := by rw [st_s, e3, nI_1]
    refine ⟨rfl, [], ⟨80, And.intro kx (And.intro kx (And.intro kx (And.intro kx (And.intro hE (Exists.intro (pn S + 1) (And.intro (by omega) (And.intro eM (Or.inl (Exists.intro (pn S) (And.intro (Nat.lt_succ_self _) (And.intro e3 (And.intro kp (And.intro (PK_of hE hp) ?_)))))))))))))⟩, nofun⟩
    have e3' : M.1 x 3 = S 3 := r3 hR
    have hn6 := hR.1
    show Q (some (.int (M.1 x 3))) (fw_row (fw_row (pB (fw_st M x 3 (M.1 x 3 + 1)) (x + 9 + 3 * pn S) o g k t) (x + 9 + 3 * pn S + 1) (cpN 6 (fun _ => 0) ((fw_st M x 3 (M.1 x 3 + 1)).1 (x + 9 + 3 * pn S + 1)))) (x + 9 + 3 * pn S + 2) (cpN 6 (fun _ => 0) ((fw_st M x 3 (M.1 x 3 + 1)).1 (x + 9 + 3 * pn S + 2))))
    rw [e3']
    obtain ⟨c1, c2⟩ := acc_rep (o := o) (g := g) (k := k) (t := t) hR hW.2.2.1 hp rfl
    exact h _ c1 c2
  · exact h.elim
end WX4
end
section
/-! AN EXCHANGE BECOMES ANOTHER -/
section WX5
def Tp (V : Nat → Nat → Int32) (x : Nat) (S : Sx) : Prop := V x 0 = S 0 ∧ V x 1 = S 1 ∧ V x 2 = S 2 ∧ V x 3 = S 3 ∧ V x 4 = S 6 ∧ V x 5 = S 4 ∧ V x 6 = S 5
def CpC (V : Nat → Nat → Int32) (x : Nat) (S : Sx) (i : Nat) : Prop := ∀ c, c < i → ∀ w, w < 5 → V (x + 3 + c) w = sC S c w
def CpP (V : Nat → Nat → Int32) (x : Nat) (S : Sx) (i : Nat) : Prop := ∀ p, p < i → (∀ w, w < 8 → V (x + 9 + 3 * p) w = sP S p w) ∧ ∀ c, c < 6 → V (x + 9 + 3 * p + 1) c = sP S p (8 + c) ∧ V (x + 9 + 3 * p + 2) c = sP S p (14 + c)
theorem Tp_o {V V' : Nat → Nat → Int32} {x : Nat} {S : Sx} (h : Tp V x S) (e : V' x = V x) : Tp V' x S := by
  unfold Tp at h ⊢
  rw [e]; exact h
theorem bc_step {x y i : Nat} {M : fw_M} {S : Sx} (hT : Tp M.1 x S) (hC : CpC M.1 x S i) (hy : ∀ w, w < 5 → M.1 (y + 3 + i) w = sC S i w) :
    Tp (fw_st (fw_st (fw_st (fw_st (fw_st M (x + 3 + i) 0 (M.1 (y + 3 + i) 0)) (x + 3 + i) 1 (M.1 (y + 3 + i) 1)) (x + 3 + i) 2 (M.1 (y + 3 + i) 2)) (x + 3 + i) 3 (M.1 (y + 3 + i) 3)) (x + 3 + i) 4 (M.1 (y + 3 + i) 4)).1 x S ∧
    CpC (fw_st (fw_st (fw_st (fw_st (fw_st M (x + 3 + i) 0 (M.1 (y + 3 + i) 0)) (x + 3 + i) 1 (M.1 (y + 3 + i) 1)) (x + 3 + i) 2 (M.1 (y + 3 + i) 2)) (x + 3 + i) 3 (M.1 (y + 3 + i) 3)) (x + 3 + i) 4 (M.1 (y + 3 + i) 4)).1 x S (i + 1) := by
  refine ⟨Tp_o hT ?_, fun c hc w hw => ?_⟩
  · rw [st_o (by omega), st_o (by omega), st_o (by omega), st_o (by omega), st_o (by omega)]
  · by_cases e : c = i
    · subst e
      rw [← hy w hw]
      rcases (show w = 0 ∨ w = 1 ∨ w = 2 ∨ w = 3 ∨ w = 4 by omega) with z | z | z | z | z <;> subst z <;> simp [st_s, st_n]
    · rw [st_o (by omega), st_o (by omega), st_o (by omega), st_o (by omega), st_o (by omega)]
      exact hC c (by omega) w hw
theorem bp_step {x y i n : Nat} {M : fw_M} {S : Sx} (hT : Tp M.1 x S) (hC : CpC M.1 x S n) (hn : n ≤ 6) (hP : CpP M.1 x S i)
    (h1 : ∀ w, w < 8 → M.1 (y + 9 + 3 * i) w = sP S i w) (h2 : ∀ c, c < 6 → M.1 (y + 9 + 3 * i + 1) c = sP S i (8 + c) ∧ M.1 (y + 9 + 3 * i + 2) c = sP S i (14 + c)) :
    Tp (fw_row (fw_row (pC M (x + 9 + 3 * i) (y + 9 + 3 * i)) (x + 9 + 3 * i + 1) (cpN 6 (M.1 (y + 9 + 3 * i + 1)) (M.1 (x + 9 + 3 * i + 1)))) (x + 9 + 3 * i + 2) (cpN 6 (M.1 (y + 9 + 3 * i + 2)) (M.1 (x + 9 + 3 * i + 2)))).1 x S ∧
    CpC (fw_row (fw_row (pC M (x + 9 + 3 * i) (y + 9 + 3 * i)) (x + 9 + 3 * i + 1) (cpN 6 (M.1 (y + 9 + 3 * i + 1)) (M.1 (x + 9 + 3 * i + 1)))) (x + 9 + 3 * i + 2) (cpN 6 (M.1 (y + 9 + 3 * i + 2)) (M.1 (x + 9 + 3 * i + 2)))).1 x S n ∧
    CpP (fw_row (fw_row (pC M (x + 9 + 3 * i) (y + 9 + 3 * i)) (x + 9 + 3 * i + 1) (cpN 6 (M.1 (y + 9 + 3 * i + 1)) (M.1 (x + 9 + 3 * i + 1)))) (x + 9 + 3 * i + 2) (cpN 6 (M.1 (y + 9 + 3 * i + 2)) (M.1 (x + 9 + 3 * i + 2)))).1 x S (i + 1) := by
  have old : ∀ (c : Nat), c ≠ x + 9 + 3 * i → c ≠ x + 9 + 3 * i + 1 → c ≠ x + 9 + 3 * i + 2 → (fw_row (fw_row (pC M (x + 9 + 3 * i) (y + 9 + 3 * i)) (x + 9 + 3 * i + 1) (cpN 6 (M.1 (y + 9 + 3 * i + 1)) (M.1 (x + 9 + 3 * i + 1)))) (x + 9 + 3 * i + 2) (cpN 6 (M.1 (y + 9 + 3 * i + 2)) (M.1 (x + 9 + 3 * i + 2)))).1 c = M.1 c := fun c g0 g1 g2 => by
    rw [row_n g2, row_n g1, pC_o g0]
  refine ⟨Tp_o hT (old x (by omega) (by omega) (by omega)), fun c hc w hw => ?_, fun p hp => ?_⟩
  · rw [old _ (by omega) (by omega) (by omega)]; exact hC c hc w hw
  · by_cases e : p = i
    · subst e
      refine ⟨fun w hw => ?_, fun c hc => ⟨?_, ?_⟩⟩
      · rw [row_n (by omega), row_n (by omega), ← h1 w hw]
        unfold pC
        rcases (show w = 0 ∨ w = 1 ∨ w = 2 ∨ w = 3 ∨ w = 4 ∨ w = 5 ∨ w = 6 ∨ w = 7 by omega) with z | z | z | z | z | z | z | z <;> subst z <;> simp [st_s, st_n]
      · rw [row_n (by omega), row_1]; unfold cpN; rw [if_pos hc]; exact (h2 c hc).1
      · rw [row_1]; unfold cpN; rw [if_pos hc]; exact (h2 c hc).2
    · obtain ⟨g1, g2⟩ := hP p (by omega)
      refine ⟨fun w hw => ?_, fun c hc => ⟨?_, ?_⟩⟩
      · rw [old _ (by omega) (by omega) (by omega)]; exact g1 w hw
      · rw [old _ (by omega) (by omega) (by omega)]; exact (g2 c hc).1
      · rw [old _ (by omega) (by omega) (by omega)]; exact (g2 c hc).2
theorem FX_C5 {x i : Nat} {M : fw_M} {a0 a1 a2 a3 a4 : Int32} (h : i < 6) : FX x M (fw_st (fw_st (fw_st (fw_st (fw_st M (x + 3 + i) 0 a0) (x + 3 + i) 1 a1) (x + 3 + i) 2 a2) (x + 3 + i) 3 a3) (x + 3 + i) 4 a4) := FX_tr (fC h) (FX_tr (fC h) (FX_tr (fC h) (FX_tr (fC h) (fC h))))
theorem FX_PC {x i b : Nat} {M : fw_M} {f g : Nat → Int32} (h : i < 24) : FX x M (fw_row (fw_row (pC M (x + 9 + 3 * i) b) (x + 9 + 3 * i + 1) f) (x + 9 + 3 * i + 2) g) := by
  refine FX_tr ?_ (FX_tr (FX_row (by omega) (by omega)) (FX_row (by omega) (by omega)))
  exact FX_tr (fP h) (FX_tr (fP h) (FX_tr (fP h) (FX_tr (fP h) (FX_tr (fP h) (FX_tr (fP h) (FX_tr (fP h) (fP h)))))))
theorem top_all {x y : Nat} {M : fw_M} {S : Sx} (hy : Rep M.1 y S) (hne : y ≠ x) : Tp (fw_st (fw_st (fw_st (fw_st (fw_st (fw_st (fw_st M x 0 (M.1 y 0)) x 1 (M.1 y 1)) x 2 (M.1 y 2)) x 3 (M.1 y 3)) x 4 (M.1 y 4)) x 5 (M.1 y 5)) x 6 (M.1 y 6)).1 x S ∧ FX x M (fw_st (fw_st (fw_st (fw_st (fw_st (fw_st (fw_st M x 0 (M.1 y 0)) x 1 (M.1 y 1)) x 2 (M.1 y 2)) x 3 (M.1 y 3)) x 4 (M.1 y 4)) x 5 (M.1 y 5)) x 6 (M.1 y 6)) := by
  refine ⟨?_, FX_tr fX (FX_tr fX (FX_tr fX (FX_tr fX (FX_tr fX (FX_tr fX fX)))))⟩
  unfold Tp
  rw [← r0 hy, ← r1 hy, ← r2 hy, ← r3 hy, ← r4 hy, ← r5 hy, ← r6 hy]
  simp [st_s, st_n]
theorem ne_C {x y c d : Nat} (h : x + 81 ≤ y ∨ y + 81 ≤ x) (hc : c < 6) (hd : d < 6) : y + 3 + c ≠ x + 3 + d := by omega
theorem dj_P {x y p : Nat} (h : x + 81 ≤ y ∨ y + 81 ≤ x) (hp : p < 24) : y + 9 + 3 * p + 2 < x + 9 + 3 * p ∨ x + 9 + 3 * p + 2 < y + 9 + 3 * p := by omega
theorem Rep_y {x y : Nat} {M M' : fw_M} {S : Sx} (hy : Rep M.1 y S) (hd : x + 81 ≤ y ∨ y + 81 ≤ x) (hF : FX x M M') : Rep M'.1 y S := Rep_fr hy (fun b h1 h2 => hF.1 b (by omega))
set_option maxRecDepth 100000 in
theorem wk_X1_become (B : Nat) : fw_Wk B fl_X1 (cal_X1_become B) [] cst_X1 none kX1_become 5 (ct_X1_become B) := by
  intro as M Q QX h
  unfold ct_X1_become at h
  split at h
  · rename_i x y
    obtain ⟨hE, hne, b, S, ⟨hEy, hRy, hW⟩, h⟩ := h
    have hd := EX_dj hE hEy hne
    have hne' : y ≠ x := fun e => hne e.symm
    have hn6 : cn S ≤ 6 := hW.2.1
    have hm24 : pn S ≤ 24 := hW.2.2.2.1
    have kx := kX hE
    have ky := kX hEy
    obtain ⟨t1, t2⟩ := top_all hRy hne'
    refine ⟨rfl, [
      (58, [true, true, true, false, false], fun m ls st M' => ∃ i, m = 100 + (cn S - i) ∧ i ≤ cn S ∧ ls = [some (.ref x), some (.ref y), some (.int (nI i)), none, none] ∧ st = [] ∧ Tp M'.1 x S ∧ CpC M'.1 x S i ∧ FX x M M'),
      (102, [true, true, true, false, false], fun m ls st M' => ∃ i, m = pn S - i ∧ i ≤ pn S ∧ ls = [some (.ref x), some (.ref y), some (.int (nI i)), none, none] ∧ st = [] ∧ Tp M'.1 x S ∧ CpC M'.1 x S (cn S) ∧ CpP M'.1 x S i ∧ FX x M M')], ⟨120, ?_⟩, ?_⟩
    · refine And.intro ky (And.intro kx (And.intro ky (And.intro kx (And.intro ky (And.intro kx (And.intro ky (And.intro kx (And.intro ky (And.intro kx (And.intro ky (And.intro kx (And.intro ky (And.intro kx ?_)))))))))))))
      refine Exists.intro (100 + (cn S - 0)) (Exists.intro 0 ⟨rfl, by omega, rfl, rfl, ?_, fun c hc => absurd hc (Nat.not_lt_zero c), ?_⟩)
      · simp only [fw_fv, fw_fw, fw_fc, st_o hne']
        exact t1
      · simp only [fw_fv, fw_fw, fw_fc, st_o hne']
        exact t2
    · intro q hq m ls st M' hi
      simp only [List.mem_cons, List.not_mem_nil, or_false] at hq
      rcases hq with rfl | rfl
      · obtain ⟨i, rfl, hi, rfl, rfl, hT, hC, hF⟩ := hi
        have e2 : M'.1 x 2 = nI (cn S) := hT.2.2.1.trans hW.1
        have hRy' := Rep_y hRy hd hF
        have f2 : M'.1 y 2 = nI (cn S) := (r2 hRy').trans hW.1
        refine ⟨100, And.intro kx (And.intro (fun h1 => ?_) (fun h1 => ?_))⟩
        · have h1 : M'.1 x 2 ≤ nI i := h1
          rw [e2, n_ge (by omega) (by omega)] at h1
          exact Exists.intro (pn S - 0) (And.intro (by omega) (Exists.intro 0 ⟨rfl, by omega, rfl, rfl, hT, by rw [show cn S = i by omega]; exact hC, fun p hp => absurd hp (Nat.not_lt_zero p), hF⟩))
        · have h1 : ¬ M'.1 x 2 ≤ nI i := h1
          rw [e2, n_ge (by omega) (by omega)] at h1
          refine And.intro kx (And.intro hE (Exists.intro (cn S) (And.intro hn6 (And.intro e2 (Or.inl (Exists.intro i (And.intro (by omega) (And.intro rfl ?_))))))))
          refine And.intro ky (And.intro hEy (Exists.intro (cn S) (And.intro hn6 (And.intro f2 (Or.inl (Exists.intro i (And.intro (by omega) (And.intro rfl ?_))))))))
          obtain ⟨g1, g2⟩ := bc_step (y := y) hT hC (fun w hw => rC hRy' (by omega) hw)
          refine And.intro (kC hE (by omega)) (And.intro (kC hE (by omega)) (And.intro (kC hEy (by omega)) (And.intro (ne_C hd (by omega) (by omega)) ?_)))
          refine Exists.intro (100 + (cn S - (i + 1))) (And.intro (by omega) (Exists.intro (i + 1) ⟨rfl, by omega, ?_, rfl, g1, g2, FX_tr hF (FX_C5 (by omega))⟩))
          show [some (Value.ref x), some (Value.ref y), some (Value.int (nI i + 1)), none, none] = _
          rw [nI_1]
      · obtain ⟨i, rfl, hi, rfl, rfl, hT, hC, hP, hF⟩ := hi
        have e3 : M'.1 x 3 = nI (pn S) := hT.2.2.2.1.trans hW.2.2.1
        have hRy' := Rep_y hRy hd hF
        have f3 : M'.1 y 3 = nI (pn S) := (r3 hRy').trans hW.2.2.1
        refine ⟨100, And.intro kx (And.intro (fun h1 => ?_) (fun h1 => ?_))⟩
        · have h1 : M'.1 x 3 ≤ nI i := h1
          rw [e3, n_ge (by omega) (by omega)] at h1
          obtain ⟨a0, a1, a2, a3, a4, a5, a6⟩ := hT
          exact h M' (Rep_mk hn6 hm24 a0 a1 a2 a3 a4 a5 a6 hC (by rw [show pn S = i by omega]; exact hP)) hF
        · have h1 : ¬ M'.1 x 3 ≤ nI i := h1
          rw [e3, n_ge (by omega) (by omega)] at h1
          refine And.intro kx (And.intro hE (Exists.intro (pn S) (And.intro hm24 (And.intro e3 (Or.inl (Exists.intro i (And.intro (by omega) (And.intro rfl ?_))))))))
          refine And.intro ky (And.intro hEy (Exists.intro (pn S) (And.intro hm24 (And.intro f3 (Or.inl (Exists.intro i (And.intro (by omega) (And.intro rfl ?_))))))))
          obtain ⟨g1, g2, g3⟩ := bp_step (y := y) hT hC hn6 hP (fun w hw => rP hRy' (by omega) hw) (fun c hc => ⟨rL hRy' (by omega) hc, rS hRy' (by omega) hc⟩)
          refine And.intro (kP hE (by omega)) (And.intro (PK_of hE (by omega)) (And.intro (PK_of hEy (by omega)) (And.intro (dj_P hd (by omega)) ?_)))
          refine Exists.intro (pn S - (i + 1)) (And.intro (by omega) (Exists.intro (i + 1) ⟨rfl, by omega, ?_, rfl, g1, g2, g3, FX_tr hF (FX_PC (by omega))⟩))
          show [some (Value.ref x), some (Value.ref y), some (Value.int (nI i + 1)), none, none] = _
          rw [nI_1]
  · exact h.elim
end WX5
end
section
/-! NOBODY ELSE AIMS AT A COURIER'S PARCEL, AND IT WAITS: kept by all that happens -/
section JI
theorem J_cg {S S' : Sx} (h : J S) (e2 : cn S' = cn S) (e3 : pn S' = pn S) (hC : ∀ c, c < cn S → sC S' c 3 = sC S c 3 ∧ sC S' c 4 = sC S c 4) (hP : ∀ p, p < pn S → sP S' p 4 = sP S p 4) : J S' := by
  refine ⟨fun c d p hc hd hp h1 h2 => ?_, fun c p hc hp h1 h2 => ?_⟩
  · rw [e2] at hc hd
    rw [e3] at hp
    rw [(hC c hc).2] at h1
    rw [(hC d hd).2] at h2
    exact h.1 c d p hc hd hp h1 h2
  · rw [e2] at hc
    rw [e3] at hp
    rw [(hC c hc).2] at h1
    rw [(hC c hc).1] at h2
    rw [hP p hp]
    exact h.2 c p hc hp h1 h2
theorem J_one {S S' : Sx} {c : Nat} (h : J S) (e2 : cn S' = cn S) (e3 : pn S' = pn S)
    (hC : ∀ d, d < cn S → d ≠ c → sC S' d 3 = sC S d 3 ∧ sC S' d 4 = sC S d 4)
    (ha : ∀ p, p < pn S → sC S' c 4 = nI p → ∀ d, d < cn S → d ≠ c → ¬ sC S d 4 = nI p)
    (hs : ∀ p, p < pn S → ∀ d, d < cn S → d ≠ c → sC S d 4 = nI p → sC S d 3 = 1 → sP S' p 4 = 0)
    (hw : ∀ p, p < pn S → sC S' c 4 = nI p → sC S' c 3 = 1 → sP S' p 4 = 0) : J S' := by
  refine ⟨fun a d p ha' hd hp h1 h2 => ?_, fun d p hd hp h1 h2 => ?_⟩
  · rw [e2] at ha' hd
    rw [e3] at hp
    by_cases ea : a = c
    · by_cases ed : d = c
      · omega
      · rw [(hC d hd ed).2] at h2
        rw [ea] at h1
        exact absurd h2 (ha p hp h1 d hd ed)
    · rw [(hC a ha' ea).2] at h1
      by_cases ed : d = c
      · rw [ed] at h2
        exact absurd h1 (ha p hp h2 a ha' ea)
      · rw [(hC d hd ed).2] at h2
        exact h.1 a d p ha' hd hp h1 h2
  · rw [e2] at hd
    rw [e3] at hp
    by_cases ed : d = c
    · subst ed; exact hw p hp h1 h2
    · rw [(hC d hd ed).2] at h1
      rw [(hC d hd ed).1] at h2
      exact hs p hp d hd ed h1 h2
theorem m1_ne {p n : Nat} (hp : p < n) (hn : n ≤ 24) : ¬ (-1 : Int32) = nI p := fun e => nI_m1 (by omega) e.symm
/-- freed, and states changed only of what the courier aimed at -/
theorem J_free {S S' : Sx} {c : Nat} (h : J S) (hm : pn S ≤ 24) (e2 : cn S' = cn S) (e3 : pn S' = pn S)
    (hC : ∀ d, d < cn S → d ≠ c → sC S' d 3 = sC S d 3 ∧ sC S' d 4 = sC S d 4) (h4 : sC S' c 4 = -1)
    (hs : ∀ p, p < pn S → sP S' p 4 = sP S p 4 ∨ sP S' p 4 = 0 ∨ ∀ d, d < cn S → d ≠ c → ¬ sC S d 4 = nI p) : J S' := by
  refine J_one h e2 e3 hC (fun p hp e => ?_) (fun p hp d hd hne e e1 => ?_) (fun p hp e => ?_)
  · rw [h4] at e; exact absurd e (m1_ne hp hm)
  · rcases hs p hp with z | z | z
    · rw [z]; exact h.2 d p hd hp e e1
    · exact z
    · exact absurd e (z d hd hne)
  · rw [h4] at e; exact absurd e (m1_ne hp hm)
theorem J_frS {b : Nat} {S : Sx} {c : Nat} (h : J S) (hW : WF b S) (hc : c < cn S) : J (frS S c) := by
  have hn := hW.2.1
  refine J_free (c := c) h hW.2.2.2.1 (cn_eq (frS_lo (by decide))) (pn_eq (frS_lo (by decide))) (fun d hd hne => ⟨?_, ?_⟩) ?_ (fun p hp => Or.inl (frS_P (by omega)))
  · rw [frS_C (by decide), if_neg (by omega), if_neg (by omega)]
  · rw [frS_C (by decide), if_neg (by omega), if_neg (by omega)]
  · rw [frS_C (by decide), if_pos ⟨rfl, rfl⟩]
theorem J_put {S : Sx} {p : Nat} {b : Nat} (h : J S) (hW : WF b S) : J (uP S p 4 0) := by
  have hn := hW.2.1
  refine ⟨fun a d q ha hd hq h1 h2 => ?_, fun d q hd hq h1 h2 => ?_⟩
  · rw [cn_eq (uP_lo (by decide))] at ha hd
    rw [pn_eq (uP_lo (by decide))] at hq
    rw [gCP (by omega) (by decide)] at h1 h2
    exact h.1 a d q ha hd hq h1 h2
  · rw [cn_eq (uP_lo (by decide))] at hd
    rw [pn_eq (uP_lo (by decide))] at hq
    rw [gCP (by omega) (by decide)] at h1 h2
    rw [gPP (by decide) (by decide)]
    split
    · rfl
    · exact h.2 d q hd hq h1 h2
theorem J_dr {b : Nat} {S : Sx} {c : Nat} (h : J S) (hW : WF b S) (hc : c < cn S) : J (drS S c) := by
  have hn := hW.2.1
  unfold drS
  split
  · have h1 := J_put (p := (sC S c 4).toNatClampNeg) h hW
    refine J_free (c := c) h1 (by rw [pn_eq (uP_lo (by decide))]; exact hW.2.2.2.1) (cn_eq (frS_lo (by decide))) (pn_eq (frS_lo (by decide))) (fun d hd hne => ⟨?_, ?_⟩) ?_ (fun p hp => Or.inl (frS_P (by omega)))
    · rw [frS_C (by decide), if_neg (by omega), if_neg (by omega)]
    · rw [frS_C (by decide), if_neg (by omega), if_neg (by omega)]
    · rw [frS_C (by decide), if_pos ⟨rfl, rfl⟩]
  · exact J_frS h hW hc
theorem J_leg {b : Nat} {S : Sx} {c p : Nat} {z : Int32} (h : J S) (hW : WF b S) (hc : c < cn S) : J (legS S c p z) := by
  have hn := hW.2.1
  refine J_cg h (cn_eq (legS_lo (by decide))) (pn_eq (legS_lo (by decide))) (fun d hd => ⟨?_, ?_⟩) (fun q hq => ?_)
  · rw [legS_C (by omega) (by decide), if_neg (by omega)]
  · rw [legS_C (by omega) (by decide), if_neg (by omega)]
  · rw [legS_P (by omega) (by decide), if_neg (by omega), if_neg (by omega)]
theorem J_car {b : Nat} {S : Sx} {c p : Nat} (h : J S) (hW : WF b S) (hc : c < cn S) (h4 : sC S c 4 = nI p) (hp : p < pn S) : J (carS S c p) := by
  have hn := hW.2.1
  have hm := hW.2.2.2.1
  unfold carS
  split
  · have hL := J_leg (p := p) (z := nxz (sC S c 1) (sP S p 1)) h hW hc
    split
    · have l2 : cn (legS S c p (nxz (sC S c 1) (sP S p 1))) = cn S := cn_eq (legS_lo (by decide))
      have l3 : pn (legS S c p (nxz (sC S c 1) (sP S p 1))) = pn S := pn_eq (legS_lo (by decide))
      refine J_free (c := c) hL (by rw [l3]; exact hm) (cn_eq (delS_lo (by decide))) (pn_eq (delS_lo (by decide))) (fun d hd hne => ⟨?_, ?_⟩) ?_ (fun q hq => ?_)
      · rw [l2] at hd
        rw [delS_C (by omega) (by decide) (by decide), if_neg (by omega), if_neg (by omega)]
      · rw [l2] at hd
        rw [delS_C (by omega) (by decide) (by decide), if_neg (by omega), if_neg (by omega)]
      · rw [delS_C (by omega) (by decide) (by decide), if_pos ⟨rfl, rfl⟩]
      · rw [delS_P (by omega) (by rw [l2]; exact hn) (by decide) (by decide) (by decide)]
        by_cases e : q = p
        · refine Or.inr (Or.inr (fun d hd hne y => hne ?_))
          rw [l2] at hd
          rw [legS_C (by omega) (by decide), if_neg (by omega), e] at y
          exact h.1 d c p hd hc hp y h4
        · rw [if_neg (by omega)]; exact Or.inl rfl
    · exact hL
  · refine J_free (c := c) (J_cg (J_put (p := p) h hW) (S' := upd (uP S p 4 0) 4 (S 4 + 1)) (cn_eq (upd_n (by decide))) (pn_eq (upd_n (by decide))) (fun d hd => ⟨gCu (by decide), gCu (by decide)⟩) (fun q hq => gPu (by decide))) ?_ (cn_eq (frS_lo (by decide))) (pn_eq (frS_lo (by decide))) (fun d hd hne => ⟨?_, ?_⟩) ?_ (fun q hq => Or.inl (frS_P (by omega)))
    · rw [pn_eq (S := S) (by rw [upd_n (by decide), uP_lo (by decide)])]; exact hm
    · rw [frS_C (by decide), if_neg (by omega), if_neg (by omega)]
    · rw [frS_C (by decide), if_neg (by omega), if_neg (by omega)]
    · rw [frS_C (by decide), if_pos ⟨rfl, rfl⟩]
theorem J_go {b : Nat} {S : Sx} {c p : Nat} (h : J S) (hW : WF b S) (hc : c < cn S) (h4 : sC S c 4 = nI p) (hp : p < pn S) : J (goS S c p) := by
  have hn := hW.2.1
  unfold goS
  split
  · have eC : ∀ d x, d < 6 → x < 5 → sC (uP (uC S c 3 2) p 4 1) d x = if d = c ∧ x = 3 then 2 else sC S d x := fun d x hd hx => by rw [gCP hd hx, gCC hx (by decide)]
    have eP : ∀ q, sP (uP (uC S c 3 2) p 4 1) q 4 = if q = p then 1 else sP S q 4 := fun q => by
      rw [gPP (by decide) (by decide), gPC (by omega) (by decide)]
      by_cases e : q = p
      · rw [if_pos ⟨e, rfl⟩, if_pos e]
      · rw [if_neg (fun z => e z.1), if_neg e]
    refine J_one (c := c) h (cn_eq (by rw [uP_lo (by decide), uC_lo (by decide)])) (pn_eq (by rw [uP_lo (by decide), uC_lo (by decide)])) (fun d hd hne => ⟨?_, ?_⟩) (fun q hq e d hd hne y => ?_) (fun q hq d hd hne e e1 => ?_) (fun q hq e e1 => ?_)
    · rw [eC d 3 (by omega) (by decide), if_neg (by omega)]
    · rw [eC d 4 (by omega) (by decide), if_neg (by omega)]
    · rw [eC c 4 (by omega) (by decide), if_neg (by omega)] at e
      exact hne (h.1 d c q hd hc hq y e)
    · rw [eP]
      by_cases z : q = p
      · subst z
        exact absurd (h.1 d c q hd hc hq e h4) hne
      · rw [if_neg z]; exact h.2 d q hd hq e e1
    · rw [eC c 3 (by omega) (by decide), if_pos ⟨rfl, rfl⟩] at e1
      exact absurd e1 (by decide)
  · refine J_cg h (cn_eq (by rw [upd_n (by decide), uC_lo (by decide)])) (pn_eq (by rw [upd_n (by decide), uC_lo (by decide)])) (fun d hd => ⟨?_, ?_⟩) (fun q hq => ?_)
    · rw [gCu (by decide), gCC (by decide) (by decide), if_neg (by omega)]
    · rw [gCu (by decide), gCC (by decide) (by decide), if_neg (by omega)]
    · rw [gPu (by decide), gPC (by omega) (by decide)]
theorem chB_may {S : Sx} {c : Nat} : ∀ n, chB S c n = -1 ∨ ∃ p, p < n ∧ chB S c n = nI p ∧ may S c p = true := by
  intro n
  induction n with
  | zero => exact Or.inl rfl
  | succ n ih =>
    unfold chB
    split
    · rename_i e; exact Or.inr ⟨n, Nat.lt_succ_self n, rfl, e.1⟩
    · rcases ih with z | ⟨p, h1, h2⟩
      · exact Or.inl z
      · exact Or.inr ⟨p, by omega, h2⟩
theorem may_st {S : Sx} {c p : Nat} (h : may S c p = true) : sP S p 4 = 0 ∧ asked S p c (cn S) = false := by
  unfold may at h
  simp only [Bool.and_eq_true, decide_eq_true_eq, Bool.not_eq_true'] at h
  exact ⟨h.1.1, h.2⟩
theorem J_ch {b : Nat} {S : Sx} {c : Nat} (h : J S) (hW : WF b S) (hc : c < cn S) : J (chS S c) := by
  have hn := hW.2.1
  have hm := hW.2.2.2.1
  have eC : ∀ d x, d < 6 → x < 5 → sC (chS S c) d x = if d = c ∧ x = 4 then chB S c (pn S) else if d = c ∧ x = 3 then (if chB S c (pn S) = -1 then 0 else 1) else sC S d x := fun d x hd hx => by
    unfold chS; rw [gCC hx (by decide), gCC hx (by decide)]
  have eP : ∀ q, sP (chS S c) q 4 = sP S q 4 := fun q => by unfold chS; rw [gPC (by omega) (by decide), gPC (by omega) (by decide)]
  refine J_one (c := c) h (cn_eq (chS_lo (by decide))) (pn_eq (chS_lo (by decide))) (fun d hd hne => ⟨?_, ?_⟩) (fun q hq e d hd hne y => ?_) (fun q hq d hd hne e e1 => ?_) (fun q hq e e1 => ?_)
  · rw [eC d 3 (by omega) (by decide), if_neg (by omega), if_neg (by omega)]
  · rw [eC d 4 (by omega) (by decide), if_neg (by omega), if_neg (by omega)]
  · rw [eC c 4 (by omega) (by decide), if_pos ⟨rfl, rfl⟩] at e
    rcases chB_may (S := S) (c := c) (pn S) with z | ⟨p, hp, e2, e3⟩
    · rw [z] at e; exact m1_ne hq hm e
    · rw [e2, nI_eq (by omega) (by omega)] at e
      subst e
      obtain ⟨s0, as⟩ := may_st e3
      have : asked S p c (cn S) = true := by
        rw [asked_iff]
        rcases (hW.2.2.2.2.1 d hd).2 with ⟨-, a0⟩ | ⟨p', hp', ea, hdd⟩
        · rw [a0] at y; exact absurd y (m1_ne hq hm)
        · rw [ea, nI_eq (by omega) (by omega)] at y
          subst y
          refine ⟨d, hd, hne, hdd.elim id (fun z => ?_), ea⟩
          rw [s0] at z
          exact absurd z.2 (by decide)
      rw [as] at this
      cases this
  · rw [eP]; exact h.2 d q hd hq e e1
  · rw [eC c 4 (by omega) (by decide), if_pos ⟨rfl, rfl⟩] at e
    rw [eP]
    rcases chB_may (S := S) (c := c) (pn S) with z | ⟨p, hp, e2, e3⟩
    · rw [z] at e; exact absurd e (m1_ne hq hm)
    · rw [e2, nI_eq (by omega) (by omega)] at e
      subst e
      exact (may_st e3).1
theorem J_act {b : Nat} {S : Sx} {c : Nat} (h : J S) (hW : WF b S) (hc : c < cn S) : J (actS S c) := by
  unfold actS
  split
  · rename_i e
    obtain ⟨p, hp, e4, e2⟩ := WF_with hW hc (by rw [e]; decide)
    rw [e2]; exact J_car h hW hc e4 hp
  · split
    · rename_i e
      obtain ⟨p, hp, e4, e2⟩ := WF_with hW hc (by rw [e.1]; decide)
      rw [e2]; exact J_go h hW hc e4 hp
    · exact J_ch h hW hc
theorem J_actW {b : Nat} {S : Sx} (h : J S) (hW : WF b S) : ∀ i, i ≤ cn S → J (actW S i) := by
  intro i
  induction i with
  | zero => intro _; exact h
  | succ i ih =>
    intro hi
    exact J_act (ih (by omega)) (WF_actW hW i (by omega)) (by rw [cn_eq (actW_lo (by decide) i)]; omega)
theorem J_fai {b : Nat} {S : Sx} {p : Nat} (h : J S) (hW : WF b S) (hp : p < pn S) : J (faiS S p) := by
  have hn := hW.2.1
  have hm := hW.2.2.2.1
  have e2 : cn (faiS S p) = cn S := cn_eq (faiS_lo (by decide))
  have e3 : pn (faiS S p) = pn S := pn_eq (faiS_lo (by decide))
  have eC : ∀ d x, d < cn S → x < 5 → sC (faiS S p) d x = if sC S d 4 = nI p then (if x = 4 then -1 else if x = 3 then 0 else sC S d x) else sC S d x := fun d x hd hx => by
    unfold faiS
    rw [frW_C hx, gCP (by omega) (by decide), gCP (by omega) hx]
    by_cases e : sC S d 4 = nI p
    · rw [if_pos ⟨hd, e⟩, if_pos e]
    · rw [if_neg (fun z => e z.2), if_neg e]
  have eP : ∀ q, sP (faiS S p) q 4 = if q = p then 3 else sP S q 4 := fun q => by
    unfold faiS
    rw [frW_P _ hn, gPP (by decide) (by decide)]
    by_cases e : q = p
    · rw [if_pos ⟨e, rfl⟩, if_pos e]
    · rw [if_neg (fun z => e z.1), if_neg e]
  have aim : ∀ d q, d < cn S → q < pn S → sC (faiS S p) d 4 = nI q → sC S d 4 = nI q ∧ q ≠ p := fun d q hd hq e => by
    rw [eC d 4 hd (by decide)] at e
    by_cases z : sC S d 4 = nI p
    · rw [if_pos z, if_pos rfl] at e; exact absurd e (m1_ne hq hm)
    · rw [if_neg z] at e
      exact ⟨e, fun y => z (by rw [e, y])⟩
  refine ⟨fun a d q ha hd hq h1 h2 => ?_, fun d q hd hq h1 h2 => ?_⟩
  · rw [e2] at ha hd
    rw [e3] at hq
    exact h.1 a d q ha hd hq (aim a q ha hq h1).1 (aim d q hd hq h2).1
  · rw [e2] at hd
    rw [e3] at hq
    obtain ⟨a1, a2⟩ := aim d q hd hq h1
    rw [eC d 3 hd (by decide), if_neg (fun z => a2 (by rw [a1, nI_eq (by omega) (by omega)] at z; exact z))] at h2
    rw [eP, if_neg a2]
    exact h.2 d q hd hq a1 h2
theorem J_flW {b : Nat} {S : Sx} (h : J S) (hW : WF b S) : ∀ i, i ≤ pn S → J (flW S i) := by
  intro i
  induction i with
  | zero => intro _; exact h
  | succ i ih =>
    intro hi
    unfold flW
    split
    · exact J_fai (ih (by omega)) (WF_flW hW i (by omega)) (by rw [pn_flW]; omega)
    · exact ih (by omega)
theorem J_time {S : Sx} {v : Int32} (h : J S) : J (upd S 0 v) := J_cg h (cn_eq (upd_n (by decide))) (pn_eq (upd_n (by decide))) (fun d hd => ⟨gCu (by decide), gCu (by decide)⟩) (fun q hq => gPu (by decide))
theorem J_grace {S : Sx} {v : Int32} (h : J S) : J (upd S 1 v) := J_cg h (cn_eq (upd_n (by decide))) (pn_eq (upd_n (by decide))) (fun d hd => ⟨gCu (by decide), gCu (by decide)⟩) (fun q hq => gPu (by decide))
theorem J_area {S : Sx} {c : Nat} {v : Int32} (h : J S) (hc : c < 6) : J (uC S c 0 v) := J_cg h (cn_eq (uC_lo (by decide))) (pn_eq (uC_lo (by decide))) (fun d hd => ⟨by rw [gCC (by decide) (by decide), if_neg (by omega)], by rw [gCC (by decide) (by decide), if_neg (by omega)]⟩) (fun q hq => gPC hc (by decide))
theorem J_tick {b : Nat} {S : Sx} (h : J S) (hW : WF b S) : J (tickS S) := by
  have e : cn (upd S 0 (S 0 + 1)) = cn S := cn_eq (upd_n (by decide))
  have hw := WF_time (S 0 + 1) hW
  have hA : J (tkA S) := by
    unfold tkA
    rw [← e]
    exact J_actW (J_time h) hw _ (Nat.le_refl _)
  unfold tickS
  rw [show pn S = pn (tkA S) from (pn_eq (tkA_lo (by decide) (by decide))).symm]
  first
    | exact J_flW hA (WF_tkA hW) _ (Nat.le_refl _)
    | (rw [pn_eq (tkA_lo (by decide) (by decide))]; exact J_flW hA (WF_tkA hW) _ (Nat.le_of_eq (pn_eq (tkA_lo (by decide) (by decide))).symm))
theorem J_tkN {b : Nat} {S : Sx} (h : J S) (hW : WF b S) : ∀ n, J (tkN S n) := by
  intro n
  induction n with
  | zero => exact h
  | succ n ih => exact J_tick ih (WF_tkN hW n)
end JI
end
section
/-! AN EXCHANGE'S tick -/
section TK
theorem asked_cg {S S' : Sx} {p c : Nat} : ∀ n, (∀ o, o < n → sC S' o 3 = sC S o 3 ∧ sC S' o 4 = sC S o 4) → asked S' p c n = asked S p c n := by
  intro n
  induction n with
  | zero => intro _; rfl
  | succ n ih =>
    intro h
    unfold asked
    rw [ih (fun o ho => h o (by omega)), (h n (by omega)).1, (h n (by omega)).2]
theorem chB_m1 {S : Sx} {c : Nat} : ∀ n, n < 2 ^ 31 → chB S c n = -1 → ∀ p, p < n → may S c p = false := by
  intro n
  induction n with
  | zero => intro _ _ p hp; exact absurd hp (Nat.not_lt_zero p)
  | succ n ih =>
    intro hn e p hp
    unfold chB at e
    split at e
    · exact absurd e (nI_m1 (by omega))
    · rename_i g
      by_cases z : p = n
      · subst z
        cases hm : may S c p with
        | false => rfl
        | true => exact absurd ⟨hm, Or.inl e⟩ g
      · exact ih (by omega) e p (by omega)
theorem idle_ch {S : Sx} {c : Nat} (h3 : sC S c 3 = 0) (h4 : sC S c 4 = -1) (hb : chB S c (pn S) = -1) : chS S c = S := by
  unfold chS
  rw [hb, if_pos rfl]
  have e1 : uC S c 3 0 = S := by unfold uC; rw [show (0 : Int32) = S (7 + 5 * c + 3) from h3.symm, upd_self]
  rw [e1]
  unfold uC
  rw [show (-1 : Int32) = S (7 + 5 * c + 4) from h4.symm, upd_self]
theorem idle_act {S : Sx} {c : Nat} (h : Idle S) (hc : c < cn S) : actS S c = S := by
  obtain ⟨h3, h4, hm⟩ := h c hc
  unfold actS
  rw [if_neg (by rw [h3]; decide), if_neg (by rw [h3]; exact fun e => absurd e.1 (by decide))]
  refine idle_ch h3 h4 ?_
  rcases chB_may (S := S) (c := c) (pn S) with z | ⟨p, hp, -, e⟩
  · exact z
  · rw [hm p hp] at e; cases e
theorem idle_actW {S : Sx} (h : Idle S) : ∀ i, i ≤ cn S → actW S i = S := by
  intro i
  induction i with
  | zero => intro _; rfl
  | succ i ih => intro hi; unfold actW; rw [ih (by omega)]; exact idle_act h (by omega)
theorem idle_cg {S S' : Sx} (h : Idle S) (e2 : cn S' = cn S) (e3 : pn S' = pn S) (hC : ∀ c, c < cn S → sC S' c 0 = sC S c 0 ∧ sC S' c 3 = sC S c 3 ∧ sC S' c 4 = sC S c 4)
    (hP : ∀ p, p < pn S → sP S' p 1 = sP S p 1 ∧ sP S' p 5 = sP S p 5 ∧ (sP S' p 4 = sP S p 4 ∨ ¬ sP S' p 4 = 0)) : Idle S' := by
  intro c hc
  rw [e2] at hc
  obtain ⟨h3, h4, hm⟩ := h c hc
  obtain ⟨c0, c3, c4⟩ := hC c hc
  refine ⟨by rw [c3]; exact h3, by rw [c4]; exact h4, fun p hp => ?_⟩
  rw [e3] at hp
  obtain ⟨p1, p5, p4⟩ := hP p hp
  have hmp := hm p hp
  rcases p4 with p4 | p4
  · unfold may suit at hmp ⊢
    rw [p4, c0, p5, p1, e2, asked_cg (S := S) _ (fun o ho => ⟨(hC o ho).2.1, (hC o ho).2.2⟩)]
    exact hmp
  · unfold may
    rw [decide_eq_false p4]; rfl
theorem idle_time {S : Sx} {v : Int32} (h : Idle S) : Idle (upd S 0 v) :=
  idle_cg h (cn_eq (upd_n (by decide))) (pn_eq (upd_n (by decide))) (fun c hc => ⟨gCu (by decide), gCu (by decide), gCu (by decide)⟩) (fun p hp => ⟨gPu (by decide), gPu (by decide), Or.inl (gPu (by decide))⟩)
theorem idle_fai {S : Sx} {p : Nat} (h : Idle S) (hn : cn S ≤ 6) (hm : pn S ≤ 24) (hp : p < pn S) : Idle (faiS S p) := by
  have eC : ∀ d x, d < cn S → x < 5 → sC (faiS S p) d x = sC S d x := fun d x hd hx => by
    unfold faiS
    rw [frW_C hx, gCP (by omega) (by decide), if_neg (fun z => m1_ne hp hm (by rw [← (h d hd).2.1]; exact z.2)), gCP (by omega) hx]
  have eP : ∀ q x, x < 20 → sP (faiS S p) q x = if q = p ∧ x = 4 then 3 else sP S q x := fun q x hx => by
    unfold faiS; rw [frW_P _ hn, gPP hx (by decide)]
  refine idle_cg h (cn_eq (faiS_lo (by decide))) (pn_eq (faiS_lo (by decide))) (fun c hc => ⟨eC c 0 hc (by decide), eC c 3 hc (by decide), eC c 4 hc (by decide)⟩) (fun q hq => ⟨?_, ?_, ?_⟩)
  · rw [eP _ _ (by decide), if_neg (by omega)]
  · rw [eP _ _ (by decide), if_neg (by omega)]
  · rw [eP _ _ (by decide)]
    by_cases e : q = p
    · rw [if_pos ⟨e, rfl⟩]; exact Or.inr (by decide)
    · rw [if_neg (fun z => e z.1)]; exact Or.inl rfl
theorem idle_flW {S : Sx} (h : Idle S) (hn : cn S ≤ 6) (hm : pn S ≤ 24) : ∀ i, i ≤ pn S → Idle (flW S i) := by
  intro i
  induction i with
  | zero => intro _; exact h
  | succ i ih =>
    intro hi
    unfold flW
    split
    · exact idle_fai (ih (by omega)) (by rw [cn_flW]; exact hn) (by rw [pn_flW]; exact hm) (by rw [pn_flW]; omega)
    · exact ih (by omega)
theorem tickS_of {S S1 : Sx} (e : S1 = upd S 0 (S 0 + 1)) : tickS S = flW (actW S1 (cn S1)) (pn S1) := by
  subst e
  unfold tickS tkA
  rw [cn_eq (S := S) (S' := upd S 0 (S 0 + 1)) (upd_n (by decide)), pn_eq (S := S) (S' := upd S 0 (S 0 + 1)) (upd_n (by decide))]
set_option maxRecDepth 100000 in
theorem wk_X1_tick (B : Nat) : fw_Wk B fl_X1 (cal_X1_tick B) [] cst_X1 (some .boolean) kX1_tick 7 (ct_X1_tick B) := by
  intro as M Q QX h
  unfold ct_X1_tick at h
  split at h
  · rename_i x u
    obtain ⟨b, S, hb, ⟨hE, hR, hW⟩, hJ, hu, h⟩ := h
    have kx := kX hE
    have hR1 : Rep (fw_st M x 0 (M.1 x 0 + 1)).1 x (upd S 0 (S 0 + 1)) := by rw [r0 hR]; exact Rep_0 hR
    have hF1 : FX x M (fw_st M x 0 (M.1 x 0 + 1)) := fX
    have hW1 := WF_time (S 0 + 1) hW
    have eT := tickS_of (S := S) rfl
    generalize hM1 : fw_st M x 0 (M.1 x 0 + 1) = M1 at hR1 hF1
    have hu : u = 1 ∨ (u = 0 ∧ Idle (upd S 0 (S 0 + 1))) := hu.imp id (fun z => ⟨z.1, idle_time z.2⟩)
    generalize hS1 : upd S 0 (S 0 + 1) = S1 at hR1 hW1 eT hu
    have hn6 : cn S1 ≤ 6 := hW1.2.1
    have hm24 : pn S1 ≤ 24 := hW1.2.2.2.1
    have ac : ∀ i, cn (actW S1 i) = cn S1 := fun i => cn_eq (actW_lo (by decide) i)
    have ap : ∀ i, pn (actW S1 i) = pn S1 := fun i => pn_eq (actW_lo (by decide) i)
    -- what is known while nobody was busy
    have fin : ∀ M' v, Rep M'.1 x (actW S1 (cn S1)) → FX x M M' → (v = 1 ∨ (v = 0 ∧ Idle (actW S1 (cn S1)))) → ct_X1_failLateParcels B [.ref x] M' (fun _ M'' => (v = 0 ∨ v = 1) ∧ Q (some (.int v)) M'') (fun _ _ => False) := by
      intro M' v g1 g2 g3
      have hWA := WF_actW hW1 (cn S1) (Nat.le_refl _)
      refine ⟨_, _, ⟨hE, g1, hWA⟩, fun M'' g4 g5 => ⟨g3.elim Or.inr (fun z => Or.inl z.1), ?_⟩⟩
      rw [ap] at g4
      refine h M'' v (by rw [eT]; exact g4) (FX_tr g2 g5) (g3.imp id (fun z => ⟨z.1, ?_⟩))
      rw [eT]
      exact idle_flW z.2 (by rw [ac]; exact hn6) (by rw [ap]; exact hm24) _ (by rw [ap]; exact Nat.le_refl _)
    refine ⟨rfl, [
      (14, [true, true, true, true, false, false, false], fun m ls st M' => ∃ i s, m = 10 * (cn S1 - i) + 1 ∧ i ≤ cn S1 ∧ (u = 0 → i = 0) ∧ (s = 1 ∨ (s = 0 ∧ actW S1 i = S1 ∧ ∀ c, c < i → sC S1 c 3 = 0 ∧ sC S1 c 4 = -1 ∧ chB S1 c (pn S1) = -1)) ∧ ls = [some (.ref x), some (.int u), some (.int s), some (.int (nI i)), none, none, none] ∧ st = [] ∧ Rep M'.1 x (actW S1 i) ∧ FX x M M'),
      (129, [true, true, true, true, true, true, false], fun m ls st M' => ∃ i s w, m = 10 * (cn S1 - i) - 4 ∧ i < cn S1 ∧ u = 1 ∧ (s = 1 ∨ (s = 0 ∧ actW S1 i = S1 ∧ ∀ c, c < i → sC S1 c 3 = 0 ∧ sC S1 c 4 = -1 ∧ chB S1 c (pn S1) = -1)) ∧ ((w = 1 ∧ sC (actW S1 i) i 3 = 0) ∨ w = 0) ∧ ls = [some (.ref x), some (.int u), some (.int s), some (.int (nI i)), some (.ref (x + 3 + i)), some (.int w), none] ∧ st = [] ∧ Rep M'.1 x (actW S1 (i + 1)) ∧ FX x M M')], ⟨40, ?_⟩, ?_⟩
    · refine And.intro kx (And.intro kx ?_)
      refine Exists.intro (10 * (cn S1 - 0) + 1) (Exists.intro 0 (Exists.intro 0 ⟨rfl, by omega, fun _ => rfl, Or.inr ⟨rfl, rfl, fun c hc => absurd hc (Nat.not_lt_zero c)⟩, rfl, rfl, ?_⟩))
      show Rep (fw_st M x 0 (M.1 x 0 + 1)).1 x S1 ∧ FX x M (fw_st M x 0 (M.1 x 0 + 1))
      rw [hM1]
      exact ⟨hR1, hF1⟩
    · intro q hq m ls st M' hi
      simp only [List.mem_cons, List.not_mem_nil, or_false] at hq
      rcases hq with rfl | rfl
      · obtain ⟨i, s, rfl, hi, hui, hs, rfl, rfl, hR', hF'⟩ := hi
        have e2 : M'.1 x 2 = nI (cn S1) := by rw [r2 hR', actW_lo (by decide)]; exact hW1.1
        have e3 : M'.1 x 3 = nI (pn S1) := by rw [r3 hR', actW_lo (by decide)]; exact hW1.2.2.1
        refine ⟨200, And.intro (fun h0 => ?_) (fun h0 => And.intro kx (And.intro (fun h1 => ?_) (fun h1 => ?_)))⟩
        · have h0 : u = 0 := h0
          have hi0 := hui h0
          subst hi0
          have hid : Idle S1 := by
            rcases hu with z | z
            · rw [h0] at z; exact absurd z (by decide)
            · exact z.2
          have eA := idle_actW hid (cn S1) (Nat.le_refl _)
          refine And.intro kx (fin M' s (by rw [eA]; exact hR') hF' ?_)
          rw [eA]
          rcases hs with z | z
          · exact Or.inl z
          · exact Or.inr ⟨z.1, hid⟩
        · have h1 : M'.1 x 2 ≤ nI i := h1
          rw [e2, n_ge (by omega) (by omega)] at h1
          have ei : i = cn S1 := by omega
          refine And.intro kx (fin M' s (by rw [← ei]; exact hR') hF' ?_)
          rcases hs with z | ⟨z1, z2, z3⟩
          · exact Or.inl z
          · refine Or.inr ⟨z1, ?_⟩
            rw [← ei, z2]
            intro c hc
            obtain ⟨a1, a2, a3⟩ := z3 c (by omega)
            exact ⟨a1, a2, chB_m1 _ (by omega) a3⟩
        · have h0 : ¬ u = 0 := h0
          have u1 : u = 1 := hu.elim id (fun z => absurd z.1 h0)
          have h1 : ¬ M'.1 x 2 ≤ nI i := h1
          rw [e2, n_ge (by omega) (by omega)] at h1
          have hi2 : i < cn S1 := by omega
          have hic : i < cn (actW S1 i) := by rw [ac]; exact hi2
          have kc := kC (c := i) hE (by omega)
          have hWi := WF_actW hW1 i hi
          have d3 : M'.1 (x + 3 + i) 3 = sC (actW S1 i) i 3 := rC hR' hic (by decide)
          have d4 : M'.1 (x + 3 + i) 4 = sC (actW S1 i) i 4 := rC hR' hic (by decide)
          have next : ∀ w, ((w = 1 ∧ sC (actW S1 i) i 3 = 0) ∨ w = 0) → ∀ M'' z, z = none → Rep M''.1 x (actW S1 (i + 1)) → FX x M M'' → ∃ m', m' < 10 * (cn S1 - i) + 1 ∧ ∃ i' s' w', m' = 10 * (cn S1 - i') - 4 ∧ i' < cn S1 ∧ u = 1 ∧ (s' = 1 ∨ (s' = 0 ∧ actW S1 i' = S1 ∧ ∀ c, c < i' → sC S1 c 3 = 0 ∧ sC S1 c 4 = -1 ∧ chB S1 c (pn S1) = -1)) ∧ ((w' = 1 ∧ sC (actW S1 i') i' 3 = 0) ∨ w' = 0) ∧ ([some (.ref x), some (.int u), some (.int s), some (.int (nI i)), some (.ref (x + 3 + i)), some (.int w), z] : fw_L) = [some (.ref x), some (.int u), some (.int s'), some (.int (nI i')), some (.ref (x + 3 + i')), some (.int w'), none] ∧ ([] : List Value) = [] ∧ Rep M''.1 x (actW S1 (i' + 1)) ∧ FX x M M'' := by
            rintro w hw M'' z rfl g1 g2
            exact ⟨10 * (cn S1 - i) - 4, by omega, i, s, w, rfl, hi2, u1, hs, hw, rfl, rfl, g1, g2⟩
          have eAct : actW S1 (i + 1) = actS (actW S1 i) i := rfl
          have hpn : pn (actW S1 i) = pn S1 := ap i
          refine And.intro kx (And.intro hE (Exists.intro (cn S1) (And.intro hn6 (And.intro e2 (Or.inl (Exists.intro i (And.intro hi2 (And.intro rfl ?_))))))))
          have e_ch : ¬ sC (actW S1 i) i 3 = 2 → ¬ (sC (actW S1 i) i 3 = 1 ∧ sP (actW S1 i) (sC (actW S1 i) i 4).toNatClampNeg 4 = 0) → actW S1 (i + 1) = chS (actW S1 i) i := fun a1 a2 => by
            rw [eAct]; unfold actS; rw [if_neg a1, if_neg a2]
          refine And.intro kc (And.intro (fun g0 => ?_) (fun g0 => ?_))
          · have g0 : ¬ M'.1 (x + 3 + i) 3 = 0 := g0
            rw [d3] at g0
            have hw : ((0 : Int32) = 1 ∧ sC (actW S1 i) i 3 = 0) ∨ (0 : Int32) = 0 := Or.inr rfl
            rcases (hWi.2.2.2.2.1 i hic).2 with ⟨f3, f4⟩ | ⟨p, hp, ea, hd⟩
            · refine And.intro kc (And.intro kx (And.intro hE (Exists.intro (pn S1) (And.intro hm24 (And.intro e3 (Or.inr (And.intro (fun k hk e => ?_) ?_)))))))
              · have e : M'.1 (x + 3 + i) 4 = nI k := e
                rw [d4, f4] at e
                exact m1_ne hk hm24 e
              · have e9 := e_ch (by rw [f3]; decide) (by rw [f3]; exact fun e => absurd e.1 (by decide))
                exact And.intro kx (Exists.intro _ (Exists.intro (actW S1 i) (Exists.intro i (And.intro ⟨hE, hR', hWi⟩ (And.intro hic (And.intro rfl (fun M'' g1 g2 => next _ hw M'' none rfl (by rw [e9]; exact g1) (FX_tr hF' g2))))))))
            · have hp2 : p < pn S1 := by rw [← hpn]; exact hp
              have kp := kP (p := p) hE (by omega)
              have q4 : M'.1 (x + 9 + 3 * p) 4 = sP (actW S1 i) p 4 := rP hR' hp (by decide)
              have ep : (sC (actW S1 i) i 4).toNatClampNeg = p := by rw [ea, n_cl (by omega)]
              have cho : actW S1 (i + 1) = chS (actW S1 i) i → ct_X1_choose B [.ref x, .ref (x + 3 + i)] M' (fun _ M'' => ∃ m', m' < 10 * (cn S1 - i) + 1 ∧ ∃ i' s' w', m' = 10 * (cn S1 - i') - 4 ∧ i' < cn S1 ∧ u = 1 ∧ (s' = 1 ∨ (s' = 0 ∧ actW S1 i' = S1 ∧ ∀ c, c < i' → sC S1 c 3 = 0 ∧ sC S1 c 4 = -1 ∧ chB S1 c (pn S1) = -1)) ∧ ((w' = 1 ∧ sC (actW S1 i') i' 3 = 0) ∨ w' = 0) ∧ ([some (.ref x), some (.int u), some (.int s), some (.int (nI i)), some (.ref (x + 3 + i)), some (.int 0), none] : fw_L) = [some (.ref x), some (.int u), some (.int s'), some (.int (nI i')), some (.ref (x + 3 + i')), some (.int w'), none] ∧ ([] : List Value) = [] ∧ Rep M''.1 x (actW S1 (i' + 1)) ∧ FX x M M'') (fun _ _ => False) := fun e9 =>
                ⟨_, actW S1 i, i, ⟨hE, hR', hWi⟩, hic, rfl, fun M'' g1 g2 => next _ hw M'' none rfl (by rw [e9]; exact g1) (FX_tr hF' g2)⟩
              refine And.intro kc (And.intro kx (And.intro hE (Exists.intro (pn S1) (And.intro hm24 (And.intro e3 (Or.inl (Exists.intro p (And.intro hp2 (And.intro (d4.trans ea) (And.intro kc (And.intro (fun g1 => And.intro kc (And.intro (fun g2 => ?_) (fun g2 => And.intro kp (And.intro (fun g3 => ?_) (fun g3 => ?_))))) (fun g1 => ?_))))))))))))
              · have g1 : ¬ M'.1 (x + 3 + i) 3 = 2 := g1
                have g2 : ¬ M'.1 (x + 3 + i) 3 = 1 := g2
                rw [d3] at g1 g2
                exact And.intro kx (cho (e_ch g1 (fun e => g2 e.1)))
              · have g1 : ¬ M'.1 (x + 3 + i) 3 = 2 := g1
                have g3 : ¬ M'.1 (x + 9 + 3 * p) 4 = 0 := g3
                rw [d3] at g1
                rw [q4] at g3
                exact And.intro kx (cho (e_ch g1 (fun e => g3 (by rw [← ep]; exact e.2))))
              · have g2 : M'.1 (x + 3 + i) 3 = 1 := g2
                have g3 : M'.1 (x + 9 + 3 * p) 4 = 0 := g3
                rw [d3] at g2
                rw [q4] at g3
                have e9 : actW S1 (i + 1) = goS (actW S1 i) i p := by
                  rw [eAct]; unfold actS; rw [if_neg (by rw [g2]; decide), if_pos ⟨g2, by rw [ep]; exact g3⟩, ep]
                exact And.intro kx (Exists.intro _ (Exists.intro (actW S1 i) (Exists.intro i (Exists.intro p (And.intro ⟨hE, hR', hWi⟩ (And.intro hic (And.intro hp (And.intro rfl (And.intro rfl (fun M'' g1 g2 => next _ hw M'' none rfl (by rw [e9]; exact g1) (FX_tr hF' g2)))))))))))
              · have g1 : M'.1 (x + 3 + i) 3 = 2 := g1
                rw [d3] at g1
                have e9 : actW S1 (i + 1) = carS (actW S1 i) i p := by
                  rw [eAct]; unfold actS; rw [if_pos g1, ep]
                exact And.intro kx (Exists.intro (b + i) (Exists.intro (actW S1 i) (Exists.intro i (Exists.intro p (And.intro (by omega) (And.intro ⟨hE, hR', hWi⟩ (And.intro hic (And.intro hp (And.intro rfl (And.intro rfl (And.intro rfl (fun M'' g1 g2 => next _ hw M'' none rfl (by rw [e9]; exact g1) (FX_tr hF' g2)))))))))))))
          · have g0 : M'.1 (x + 3 + i) 3 = 0 := g0
            rw [d3] at g0
            have hw : ((1 : Int32) = 1 ∧ sC (actW S1 i) i 3 = 0) ∨ (1 : Int32) = 0 := Or.inl ⟨rfl, g0⟩
            rcases (hWi.2.2.2.2.1 i hic).2 with ⟨f3, f4⟩ | ⟨p, hp, ea, hd⟩
            · refine And.intro kc (And.intro kx (And.intro hE (Exists.intro (pn S1) (And.intro hm24 (And.intro e3 (Or.inr (And.intro (fun k hk e => ?_) ?_)))))))
              · have e : M'.1 (x + 3 + i) 4 = nI k := e
                rw [d4, f4] at e
                exact m1_ne hk hm24 e
              · have e9 := e_ch (by rw [f3]; decide) (by rw [f3]; exact fun e => absurd e.1 (by decide))
                exact And.intro kx (Exists.intro _ (Exists.intro (actW S1 i) (Exists.intro i (And.intro ⟨hE, hR', hWi⟩ (And.intro hic (And.intro rfl (fun M'' g1 g2 => next _ hw M'' none rfl (by rw [e9]; exact g1) (FX_tr hF' g2))))))))
            · have hp2 : p < pn S1 := by rw [← hpn]; exact hp
              have kp := kP (p := p) hE (by omega)
              have q4 : M'.1 (x + 9 + 3 * p) 4 = sP (actW S1 i) p 4 := rP hR' hp (by decide)
              have ep : (sC (actW S1 i) i 4).toNatClampNeg = p := by rw [ea, n_cl (by omega)]
              have cho : actW S1 (i + 1) = chS (actW S1 i) i → ct_X1_choose B [.ref x, .ref (x + 3 + i)] M' (fun _ M'' => ∃ m', m' < 10 * (cn S1 - i) + 1 ∧ ∃ i' s' w', m' = 10 * (cn S1 - i') - 4 ∧ i' < cn S1 ∧ u = 1 ∧ (s' = 1 ∨ (s' = 0 ∧ actW S1 i' = S1 ∧ ∀ c, c < i' → sC S1 c 3 = 0 ∧ sC S1 c 4 = -1 ∧ chB S1 c (pn S1) = -1)) ∧ ((w' = 1 ∧ sC (actW S1 i') i' 3 = 0) ∨ w' = 0) ∧ ([some (.ref x), some (.int u), some (.int s), some (.int (nI i)), some (.ref (x + 3 + i)), some (.int 1), none] : fw_L) = [some (.ref x), some (.int u), some (.int s'), some (.int (nI i')), some (.ref (x + 3 + i')), some (.int w'), none] ∧ ([] : List Value) = [] ∧ Rep M''.1 x (actW S1 (i' + 1)) ∧ FX x M M'') (fun _ _ => False) := fun e9 =>
                ⟨_, actW S1 i, i, ⟨hE, hR', hWi⟩, hic, rfl, fun M'' g1 g2 => next _ hw M'' none rfl (by rw [e9]; exact g1) (FX_tr hF' g2)⟩
              refine And.intro kc (And.intro kx (And.intro hE (Exists.intro (pn S1) (And.intro hm24 (And.intro e3 (Or.inl (Exists.intro p (And.intro hp2 (And.intro (d4.trans ea) (And.intro kc (And.intro (fun g1 => And.intro kc (And.intro (fun g2 => ?_) (fun g2 => And.intro kp (And.intro (fun g3 => ?_) (fun g3 => ?_))))) (fun g1 => ?_))))))))))))
              · have g1 : ¬ M'.1 (x + 3 + i) 3 = 2 := g1
                have g2 : ¬ M'.1 (x + 3 + i) 3 = 1 := g2
                rw [d3] at g1 g2
                exact And.intro kx (cho (e_ch g1 (fun e => g2 e.1)))
              · have g1 : ¬ M'.1 (x + 3 + i) 3 = 2 := g1
                have g3 : ¬ M'.1 (x + 9 + 3 * p) 4 = 0 := g3
                rw [d3] at g1
                rw [q4] at g3
                exact And.intro kx (cho (e_ch g1 (fun e => g3 (by rw [← ep]; exact e.2))))
              · have g2 : M'.1 (x + 3 + i) 3 = 1 := g2
                have g3 : M'.1 (x + 9 + 3 * p) 4 = 0 := g3
                rw [d3] at g2
                rw [q4] at g3
                have e9 : actW S1 (i + 1) = goS (actW S1 i) i p := by
                  rw [eAct]; unfold actS; rw [if_neg (by rw [g2]; decide), if_pos ⟨g2, by rw [ep]; exact g3⟩, ep]
                exact And.intro kx (Exists.intro _ (Exists.intro (actW S1 i) (Exists.intro i (Exists.intro p (And.intro ⟨hE, hR', hWi⟩ (And.intro hic (And.intro hp (And.intro rfl (And.intro rfl (fun M'' g1 g2 => next _ hw M'' none rfl (by rw [e9]; exact g1) (FX_tr hF' g2)))))))))))
              · have g1 : M'.1 (x + 3 + i) 3 = 2 := g1
                rw [d3] at g1
                have e9 : actW S1 (i + 1) = carS (actW S1 i) i p := by
                  rw [eAct]; unfold actS; rw [if_pos g1, ep]
                exact And.intro kx (Exists.intro (b + i) (Exists.intro (actW S1 i) (Exists.intro i (Exists.intro p (And.intro (by omega) (And.intro ⟨hE, hR', hWi⟩ (And.intro hic (And.intro hp (And.intro rfl (And.intro rfl (And.intro rfl (fun M'' g1 g2 => next _ hw M'' none rfl (by rw [e9]; exact g1) (FX_tr hF' g2)))))))))))))
      · obtain ⟨i, s, w, rfl, hi, u1, hs, hw, rfl, rfl, hR', hF'⟩ := hi
        have hic : i < cn (actW S1 (i + 1)) := by rw [ac]; exact hi
        have d3 : M'.1 (x + 3 + i) 3 = sC (actW S1 (i + 1)) i 3 := rC hR' hic (by decide)
        have key : ∀ s' a z, a = none → z = none → (s' = 1 ∨ (s' = 0 ∧ actW S1 (i + 1) = S1 ∧ ∀ c, c < i + 1 → sC S1 c 3 = 0 ∧ sC S1 c 4 = -1 ∧ chB S1 c (pn S1) = -1)) → ∃ m', m' < 10 * (cn S1 - i) - 4 ∧ ∃ i' s'', m' = 10 * (cn S1 - i') + 1 ∧ i' ≤ cn S1 ∧ (u = 0 → i' = 0) ∧ (s'' = 1 ∨ (s'' = 0 ∧ actW S1 i' = S1 ∧ ∀ c, c < i' → sC S1 c 3 = 0 ∧ sC S1 c 4 = -1 ∧ chB S1 c (pn S1) = -1)) ∧ ([some (.ref x), some (.int u), some (.int s'), some (.int (nI i + 1)), a, z, none] : fw_L) = [some (.ref x), some (.int u), some (.int s''), some (.int (nI i')), none, none, none] ∧ ([] : List Value) = [] ∧ Rep M'.1 x (actW S1 i') ∧ FX x M M' := by
          rintro s' a z rfl rfl h9
          exact ⟨10 * (cn S1 - (i + 1)) + 1, by omega, i + 1, s', rfl, by omega, fun e => by rw [u1] at e; exact absurd e (by decide), h9, by rw [nI_1], rfl, hR', hF'⟩
        refine ⟨100, And.intro (fun g1 => ?_) (fun g1 => And.intro (fun g2 => ?_) (fun g2 => And.intro (kC hE (by omega)) (And.intro (fun g3 => ?_) (fun g3 => ?_))))⟩
        · exact key 1 none none rfl rfl (Or.inl rfl)
        · exact key 1 none none rfl rfl (Or.inl rfl)
        · have g1 : s = 0 := g1
          have g2 : ¬ w = 0 := g2
          have g3 : M'.1 (x + 3 + i) 3 = 0 := g3
          rw [d3] at g3
          obtain ⟨-, z2, z3⟩ := hs.resolve_left (fun e => by rw [g1] at e; exact absurd e (by decide))
          have f3 := (hw.resolve_right g2).2
          rw [z2] at f3
          have f4 : sC S1 i 4 = -1 := by
            rcases (hW1.2.2.2.2.1 i hi).2 with ⟨-, a⟩ | ⟨p, -, -, hd⟩
            · exact a
            · exfalso
              rcases hd with hd | hd
              · rw [f3] at hd; exact absurd hd (by decide)
              · rw [f3] at hd; exact absurd hd.1 (by decide)
          have ea : actW S1 (i + 1) = chS S1 i := by
            show actS (actW S1 i) i = _
            rw [z2]; unfold actS; rw [if_neg (by rw [f3]; decide), if_neg (by rw [f3]; exact fun e => absurd e.1 (by decide))]
          rw [ea] at g3
          have fb : chB S1 i (pn S1) = -1 := by
            unfold chS at g3
            rw [gCC (by decide) (by decide), if_neg (by omega), gCC (by decide) (by decide), if_pos ⟨rfl, rfl⟩] at g3
            by_cases z : chB S1 i (pn S1) = -1
            · exact z
            · rw [if_neg z] at g3; exact absurd g3 (by decide)
          refine key 0 none none rfl rfl (Or.inr ⟨rfl, ?_, fun c hc => ?_⟩)
          · rw [ea]; exact idle_ch f3 f4 fb
          · by_cases e : c = i
            · subst e; exact ⟨f3, f4, fb⟩
            · exact z3 c (by omega)
        · exact key 1 none none rfl rfl (Or.inl rfl)
  · exact h.elim
end TK
end
section
/-! AN EXCHANGE PLAYED ON -/
section PS
set_option maxRecDepth 100000 in
theorem wk_X1_pass (B : Nat) : fw_Wk B fl_X1 (cal_X1_pass B) [] cst_X1 (some .int) kX1_pass 5 (ct_X1_pass B) := by
  intro as M Q QX h
  unfold ct_X1_pass at h
  split at h
  · rename_i x u
    obtain ⟨b, S, n, hb, rfl, ⟨hE, hR, hW⟩, hJ, h⟩ := h
    have kx := kX hE
    refine ⟨rfl, [(10, [true, true, true, true, true], fun m ls st M' => ∃ i y, m = n - i ∧ i ≤ n ∧ (y = 1 ∨ (y = 0 ∧ Idle (tkN S i))) ∧ ls = [some (.ref x), some (.int (nI n)), some (.int (S 6)), some (.int y), some (.int (nI i))] ∧ st = [] ∧ Rep M'.1 x (tkN S i) ∧ FX x M M')], ⟨40, And.intro kx ?_⟩, ?_⟩
    · refine Exists.intro n (Exists.intro 0 (Exists.intro 1 ⟨rfl, by omega, Or.inl rfl, ?_, rfl, hR, FX_id⟩))
      show [some (Value.ref x), some (Value.int (nI n)), some (Value.int (M.1 x 4)), some (Value.int 1), some (Value.int 0)] = _
      rw [r4 hR]
      rfl
    · intro q hq m ls st M' hi
      cases List.mem_singleton.mp hq
      obtain ⟨i, y, rfl, hi, hy, rfl, rfl, hR', hF'⟩ := hi
      refine ⟨80, And.intro (fun h1 => ?_) (fun h1 => ?_)⟩
      · have h1 : nI n ≤ nI i := h1
        rw [n_ge (by omega) (by omega)] at h1
        rw [show i = n by omega] at hR'
        have := h M' hR' hF'
        unfold payN at this
        rw [← r4 hR'] at this
        exact And.intro kx this
      · have h1 : ¬ nI n ≤ nI i := h1
        rw [n_ge (by omega) (by omega)] at h1
        refine And.intro kx (Exists.intro (b + 6 * i) (Exists.intro (tkN S i) (And.intro (by omega) (And.intro ⟨hE, hR', WF_tkN hW i⟩ (And.intro (J_tkN hJ hW i) (And.intro hy ?_))))))
        intro M'' v g1 g2 g3
        refine Exists.intro (n - (i + 1)) (And.intro (by omega) (Exists.intro (i + 1) (Exists.intro v ⟨rfl, by omega, g3, ?_, rfl, g1, FX_tr hF' g2⟩)))
        show [some (Value.ref x), some (Value.int (nI n)), some (Value.int (S 6)), some (Value.int v), some (Value.int (nI i + 1))] = _
        rw [nI_1]
  · exact h.elim
end PS
end
section
/-! contracts out of walks (printed by program) -/
section
abbrev rm_X1_courierAt : Room := { frames := 0, cells := 0, slots := 0, locals := 0 }
theorem me_X1_courierAt (l : Launch) (g : fw_G) (B : Nat) : fw_Met l g B yX1_courierAt cX1_courierAt 2 (Option.some (Jvm.ClassFile.FieldType.object "CourierRelay$Courier")) rm_X1_courierAt 0 0 (ct_X1_courierAt B) := by
  refine fw_met (own := RX1) (by decide +kernel) rfl kX1_courierAt_ok kX1_courierAt_cst fl_X1_ok ?_ ?_ (wk_X1_courierAt B)
  · intro q hq
    simp only [cal_X1_courierAt, List.mem_cons, List.not_mem_nil, or_false] at hq
  · exact fun q hq => nomatch hq
abbrev rm_X1_parcelAt : Room := { frames := 0, cells := 0, slots := 0, locals := 0 }
theorem me_X1_parcelAt (l : Launch) (g : fw_G) (B : Nat) : fw_Met l g B yX1_parcelAt cX1_parcelAt 2 (Option.some (Jvm.ClassFile.FieldType.object "CourierRelay$Parcel")) rm_X1_parcelAt 0 0 (ct_X1_parcelAt B) := by
  refine fw_met (own := RX1) (by decide +kernel) rfl kX1_parcelAt_ok kX1_parcelAt_cst fl_X1_ok ?_ ?_ (wk_X1_parcelAt B)
  · intro q hq
    simp only [cal_X1_parcelAt, List.mem_cons, List.not_mem_nil, or_false] at hq
  · exact fun q hq => nomatch hq
abbrev rm_X1_become : Room := { frames := 3, cells := 0, slots := 0, locals := 102 }
theorem me_X1_become (l : Launch) (g : fw_G) (B : Nat) : fw_Met l g B yX1_become cX1_become 5 (none) rm_X1_become 0 0 (ct_X1_become B) := by
  refine fw_met (own := RX1) (by decide +kernel) rfl kX1_become_ok kX1_become_cst fl_X1_ok ?_ ?_ (wk_X1_become B)
  · intro q hq
    simp only [cal_X1_become, List.mem_cons, List.not_mem_nil, or_false] at hq
    rcases hq with rfl | rfl | rfl | rfl
    · exact fw_calV (ci := 1) (me_X1_courierAt l g B) (by decide) wl_X1_47 wi_X1_courierAt wv_X1_courierAt wz_RX1 wc_X1_courierAt rfl rfl (by decide +kernel) ⟨by decide, by decide⟩
    · exact fw_calV (ci := 0) (me_X0_become l g B) (by decide) wl_X1_51 wi_X0_become wv_X0_become wz_RX0 wc_X0_become rfl rfl (by decide +kernel) ⟨by decide, by decide⟩
    · exact fw_calV (ci := 1) (me_X1_parcelAt l g B) (by decide) wl_X1_55 wi_X1_parcelAt wv_X1_parcelAt wz_RX1 wc_X1_parcelAt rfl rfl (by decide +kernel) ⟨by decide, by decide⟩
    · exact fw_calV (ci := 3) (me_X3_become l g B) (by decide) wl_X1_59 wi_X3_become wv_X3_become wz_RX3 wc_X3_become rfl rfl (by decide +kernel) ⟨by decide, by decide⟩
  · exact fun q hq => nomatch hq
abbrev rm_X1_join : Room := { frames := 2, cells := 0, slots := 0, locals := 42 }
theorem me_X1_join (l : Launch) (g : fw_G) (B : Nat) : fw_Met l g B yX1_join cX1_join 5 (some .int) rm_X1_join 0 0 (ct_X1_join B) := by
  refine fw_met (own := RX1) (by decide +kernel) rfl kX1_join_ok kX1_join_cst fl_X1_ok ?_ ?_ (wk_X1_join B)
  · intro q hq
    simp only [cal_X1_join, List.mem_cons, List.not_mem_nil, or_false] at hq
    rcases hq with rfl | rfl
    · exact fw_calV (ci := 1) (me_X1_courierAt l g B) (by decide) wl_X1_47 wi_X1_courierAt wv_X1_courierAt wz_RX1 wc_X1_courierAt rfl rfl (by decide +kernel) ⟨by decide, by decide⟩
    · exact fw_calV (ci := 0) (me_X0_begin l g B) (by decide) wl_X1_62 wi_X0_begin wv_X0_begin wz_RX0 wc_X0_begin rfl rfl (by decide +kernel) ⟨by decide, by decide⟩
  · exact fun q hq => nomatch hq
abbrev rm_X1_accept : Room := { frames := 1, cells := 0, slots := 0, locals := 25 }
theorem me_X1_accept (l : Launch) (g : fw_G) (B : Nat) : fw_Met l g B yX1_accept cX1_accept 7 (some .int) rm_X1_accept 0 0 (ct_X1_accept B) := by
  refine fw_met (own := RX1) (by decide +kernel) rfl kX1_accept_ok kX1_accept_cst fl_X1_ok ?_ ?_ (wk_X1_accept B)
  · intro q hq
    simp only [cal_X1_accept, List.mem_cons, List.not_mem_nil, or_false] at hq
    rcases hq with rfl | rfl
    · exact fw_calV (ci := 1) (me_X1_parcelAt l g B) (by decide) wl_X1_55 wi_X1_parcelAt wv_X1_parcelAt wz_RX1 wc_X1_parcelAt rfl rfl (by decide +kernel) ⟨by decide, by decide⟩
    · exact fw_calV (ci := 3) (me_X3_begin l g B) (by decide) wl_X1_66 wi_X3_begin wv_X3_begin wz_RX3 wc_X3_begin rfl rfl (by decide +kernel) ⟨by decide, by decide⟩
  · exact fun q hq => nomatch hq
abbrev rm_X1_release : Room := { frames := 1, cells := 0, slots := 0, locals := 21 }
theorem me_X1_release (l : Launch) (g : fw_G) (B : Nat) : fw_Met l g B yX1_release cX1_release 3 (none) rm_X1_release 0 0 (ct_X1_release B) := by
  refine fw_met (own := RX1) (by decide +kernel) rfl kX1_release_ok kX1_release_cst fl_X1_ok ?_ ?_ (wk_X1_release B)
  · intro q hq
    simp only [cal_X1_release, List.mem_cons, List.not_mem_nil, or_false] at hq
    rcases hq with rfl | rfl
    · exact fw_calV (ci := 1) (me_X1_parcelAt l g B) (by decide) wl_X1_55 wi_X1_parcelAt wv_X1_parcelAt wz_RX1 wc_X1_parcelAt rfl rfl (by decide +kernel) ⟨by decide, by decide⟩
    · exact fw_calV (ci := 0) (me_X0_setFree l g B) (by decide) wl_X1_75 wi_X0_setFree wv_X0_setFree wz_RX0 wc_X0_setFree rfl rfl (by decide +kernel) ⟨by decide, by decide⟩
  · exact fun q hq => nomatch hq
abbrev rm_X1_deliver : Room := { frames := 2, cells := 0, slots := 0, locals := 49 }
theorem me_X1_deliver (l : Launch) (g : fw_G) (B : Nat) : fw_Met l g B yX1_deliver cX1_deliver 4 (none) rm_X1_deliver 0 0 (ct_X1_deliver B) := by
  refine fw_met (own := RX1) (by decide +kernel) rfl kX1_deliver_ok kX1_deliver_cst fl_X1_ok ?_ ?_ (wk_X1_deliver B)
  · intro q hq
    simp only [cal_X1_deliver, List.mem_cons, List.not_mem_nil, or_false] at hq
    rcases hq with rfl | rfl | rfl
    · exact fw_calV (ci := 3) (me_X3_sharePaid l g B) (by decide) wl_X1_141 wi_X3_sharePaid wv_X3_sharePaid wz_RX3 wc_X3_sharePaid rfl rfl (by decide +kernel) ⟨by decide, by decide⟩
    · exact fw_calV (ci := 1) (me_X1_courierAt l g B) (by decide) wl_X1_47 wi_X1_courierAt wv_X1_courierAt wz_RX1 wc_X1_courierAt rfl rfl (by decide +kernel) ⟨by decide, by decide⟩
    · exact fw_calV (ci := 3) (me_X3_shareOf l g B) (by decide) wl_X1_147 wi_X3_shareOf wv_X3_shareOf wz_RX3 wc_X3_shareOf rfl rfl (by decide +kernel) ⟨by decide, by decide⟩
  · exact fun q hq => nomatch hq
abbrev rm_X1_carry : Room := { frames := 3, cells := 0, slots := 0, locals := 72 }
theorem me_X1_carry (l : Launch) (g : fw_G) (B : Nat) : fw_Met l g B yX1_carry cX1_carry 5 (none) rm_X1_carry 0 0 (ct_X1_carry B) := by
  refine fw_met (own := RX1) (by decide +kernel) rfl kX1_carry_ok kX1_carry_cst fl_X1_ok ?_ ?_ (wk_X1_carry B)
  · intro q hq
    simp only [cal_X1_carry, List.mem_cons, List.not_mem_nil, or_false] at hq
    rcases hq with rfl | rfl | rfl | rfl | rfl
    · exact fw_calSN (me_X5_nextZone l g B) (List.mem_append_left _ (List.mem_map.mpr ⟨(RX1, 115, yX5_nextZone, "CourierRelay"), List.mem_of_getElem? (i := 2) rfl, rfl⟩)) ws_X5_nextZone wz_RX5 wc_X5_nextZone rfl rfl (by decide +kernel) ⟨by decide, by decide⟩
    · exact fw_calSN (me_X5_holds l g B) (List.mem_append_left _ (List.mem_map.mpr ⟨(RX1, 119, yX5_holds, "CourierRelay"), List.mem_of_getElem? (i := 3) rfl, rfl⟩)) ws_X5_holds wz_RX5 wc_X5_holds rfl rfl (by decide +kernel) ⟨by decide, by decide⟩
    · exact fw_calV (ci := 0) (me_X0_setFree l g B) (by decide) wl_X1_75 wi_X0_setFree wv_X0_setFree wz_RX0 wc_X0_setFree rfl rfl (by decide +kernel) ⟨by decide, by decide⟩
    · exact fw_calV (ci := 3) (me_X3_addLeg l g B) (by decide) wl_X1_124 wi_X3_addLeg wv_X3_addLeg wz_RX3 wc_X3_addLeg rfl rfl (by decide +kernel) ⟨by decide, by decide⟩
    · exact fw_calV (ci := 1) (me_X1_deliver l g B) (by decide) wl_X1_128 wi_X1_deliver wv_X1_deliver wz_RX1 wc_X1_deliver rfl rfl (by decide +kernel) ⟨by decide, by decide⟩
  · exact fun q hq => nomatch hq
abbrev rm_X1_approach : Room := { frames := 1, cells := 0, slots := 0, locals := 23 }
theorem me_X1_approach (l : Launch) (g : fw_G) (B : Nat) : fw_Met l g B yX1_approach cX1_approach 3 (none) rm_X1_approach 0 0 (ct_X1_approach B) := by
  refine fw_met (own := RX1) (by decide +kernel) rfl kX1_approach_ok kX1_approach_cst fl_X1_ok ?_ ?_ (wk_X1_approach B)
  · intro q hq
    simp only [cal_X1_approach, List.mem_cons, List.not_mem_nil, or_false] at hq
    rcases hq with rfl
    · exact fw_calSN (me_X5_nextZone l g B) (List.mem_append_left _ (List.mem_map.mpr ⟨(RX1, 115, yX5_nextZone, "CourierRelay"), List.mem_of_getElem? (i := 2) rfl, rfl⟩)) ws_X5_nextZone wz_RX5 wc_X5_nextZone rfl rfl (by decide +kernel) ⟨by decide, by decide⟩
  · exact fun q hq => nomatch hq
abbrev rm_X1_isSought : Room := { frames := 1, cells := 0, slots := 0, locals := 21 }
theorem me_X1_isSought (l : Launch) (g : fw_G) (B : Nat) : fw_Met l g B yX1_isSought cX1_isSought 4 (some .boolean) rm_X1_isSought 0 0 (ct_X1_isSought B) := by
  refine fw_met (own := RX1) (by decide +kernel) rfl kX1_isSought_ok kX1_isSought_cst fl_X1_ok ?_ ?_ (wk_X1_isSought B)
  · intro q hq
    simp only [cal_X1_isSought, List.mem_cons, List.not_mem_nil, or_false] at hq
    rcases hq with rfl
    · exact fw_calV (ci := 1) (me_X1_courierAt l g B) (by decide) wl_X1_47 wi_X1_courierAt wv_X1_courierAt wz_RX1 wc_X1_courierAt rfl rfl (by decide +kernel) ⟨by decide, by decide⟩
  · exact fun q hq => nomatch hq
abbrev rm_X1_choose : Room := { frames := 2, cells := 0, slots := 0, locals := 44 }
theorem me_X1_choose (l : Launch) (g : fw_G) (B : Nat) : fw_Met l g B yX1_choose cX1_choose 6 (none) rm_X1_choose 0 0 (ct_X1_choose B) := by
  refine fw_met (own := RX1) (by decide +kernel) rfl kX1_choose_ok kX1_choose_cst fl_X1_ok ?_ ?_ (wk_X1_choose B)
  · intro q hq
    simp only [cal_X1_choose, List.mem_cons, List.not_mem_nil, or_false] at hq
    rcases hq with rfl | rfl | rfl | rfl
    · exact fw_calV (ci := 0) (me_X0_setFree l g B) (by decide) wl_X1_75 wi_X0_setFree wv_X0_setFree wz_RX0 wc_X0_setFree rfl rfl (by decide +kernel) ⟨by decide, by decide⟩
    · exact fw_calV (ci := 1) (me_X1_parcelAt l g B) (by decide) wl_X1_55 wi_X1_parcelAt wv_X1_parcelAt wz_RX1 wc_X1_parcelAt rfl rfl (by decide +kernel) ⟨by decide, by decide⟩
    · exact fw_calV (ci := 3) (me_X3_suits l g B) (by decide) wl_X1_150 wi_X3_suits wv_X3_suits wz_RX3 wc_X3_suits rfl rfl (by decide +kernel) ⟨by decide, by decide⟩
    · exact fw_calV (ci := 1) (me_X1_isSought l g B) (by decide) wl_X1_154 wi_X1_isSought wv_X1_isSought wz_RX1 wc_X1_isSought rfl rfl (by decide +kernel) ⟨by decide, by decide⟩
  · exact fun q hq => nomatch hq
abbrev rm_X1_freeCouriersOf : Room := { frames := 1, cells := 0, slots := 0, locals := 21 }
theorem me_X1_freeCouriersOf (l : Launch) (g : fw_G) (B : Nat) : fw_Met l g B yX1_freeCouriersOf cX1_freeCouriersOf 4 (none) rm_X1_freeCouriersOf 0 0 (ct_X1_freeCouriersOf B) := by
  refine fw_met (own := RX1) (by decide +kernel) rfl kX1_freeCouriersOf_ok kX1_freeCouriersOf_cst fl_X1_ok ?_ ?_ (wk_X1_freeCouriersOf B)
  · intro q hq
    simp only [cal_X1_freeCouriersOf, List.mem_cons, List.not_mem_nil, or_false] at hq
    rcases hq with rfl | rfl
    · exact fw_calV (ci := 1) (me_X1_courierAt l g B) (by decide) wl_X1_47 wi_X1_courierAt wv_X1_courierAt wz_RX1 wc_X1_courierAt rfl rfl (by decide +kernel) ⟨by decide, by decide⟩
    · exact fw_calV (ci := 0) (me_X0_setFree l g B) (by decide) wl_X1_75 wi_X0_setFree wv_X0_setFree wz_RX0 wc_X0_setFree rfl rfl (by decide +kernel) ⟨by decide, by decide⟩
  · exact fun q hq => nomatch hq
abbrev rm_X1_failLateParcels : Room := { frames := 2, cells := 0, slots := 0, locals := 44 }
theorem me_X1_failLateParcels (l : Launch) (g : fw_G) (B : Nat) : fw_Met l g B yX1_failLateParcels cX1_failLateParcels 3 (none) rm_X1_failLateParcels 0 0 (ct_X1_failLateParcels B) := by
  refine fw_met (own := RX1) (by decide +kernel) rfl kX1_failLateParcels_ok kX1_failLateParcels_cst fl_X1_ok ?_ ?_ (wk_X1_failLateParcels B)
  · intro q hq
    simp only [cal_X1_failLateParcels, List.mem_cons, List.not_mem_nil, or_false] at hq
    rcases hq with rfl | rfl | rfl
    · exact fw_calV (ci := 1) (me_X1_parcelAt l g B) (by decide) wl_X1_55 wi_X1_parcelAt wv_X1_parcelAt wz_RX1 wc_X1_parcelAt rfl rfl (by decide +kernel) ⟨by decide, by decide⟩
    · exact fw_calV (ci := 3) (me_X3_isOpen l g B) (by decide) wl_X1_157 wi_X3_isOpen wv_X3_isOpen wz_RX3 wc_X3_isOpen rfl rfl (by decide +kernel) ⟨by decide, by decide⟩
    · exact fw_calV (ci := 1) (me_X1_freeCouriersOf l g B) (by decide) wl_X1_161 wi_X1_freeCouriersOf wv_X1_freeCouriersOf wz_RX1 wc_X1_freeCouriersOf rfl rfl (by decide +kernel) ⟨by decide, by decide⟩
  · exact fun q hq => nomatch hq
abbrev rm_X1_tick : Room := { frames := 4, cells := 0, slots := 0, locals := 96 }
theorem me_X1_tick (l : Launch) (g : fw_G) (B : Nat) : fw_Met l g B yX1_tick cX1_tick 7 (some .boolean) rm_X1_tick 0 0 (ct_X1_tick B) := by
  refine fw_met (own := RX1) (by decide +kernel) rfl kX1_tick_ok kX1_tick_cst fl_X1_ok ?_ ?_ (wk_X1_tick B)
  · intro q hq
    simp only [cal_X1_tick, List.mem_cons, List.not_mem_nil, or_false] at hq
    rcases hq with rfl | rfl | rfl | rfl | rfl | rfl
    · exact fw_calV (ci := 1) (me_X1_courierAt l g B) (by decide) wl_X1_47 wi_X1_courierAt wv_X1_courierAt wz_RX1 wc_X1_courierAt rfl rfl (by decide +kernel) ⟨by decide, by decide⟩
    · exact fw_calV (ci := 1) (me_X1_parcelAt l g B) (by decide) wl_X1_55 wi_X1_parcelAt wv_X1_parcelAt wz_RX1 wc_X1_parcelAt rfl rfl (by decide +kernel) ⟨by decide, by decide⟩
    · exact fw_calV (ci := 1) (me_X1_carry l g B) (by decide) wl_X1_95 wi_X1_carry wv_X1_carry wz_RX1 wc_X1_carry rfl rfl (by decide +kernel) ⟨by decide, by decide⟩
    · exact fw_calV (ci := 1) (me_X1_approach l g B) (by decide) wl_X1_99 wi_X1_approach wv_X1_approach wz_RX1 wc_X1_approach rfl rfl (by decide +kernel) ⟨by decide, by decide⟩
    · exact fw_calV (ci := 1) (me_X1_choose l g B) (by decide) wl_X1_103 wi_X1_choose wv_X1_choose wz_RX1 wc_X1_choose rfl rfl (by decide +kernel) ⟨by decide, by decide⟩
    · exact fw_calV (ci := 1) (me_X1_failLateParcels l g B) (by decide) wl_X1_106 wi_X1_failLateParcels wv_X1_failLateParcels wz_RX1 wc_X1_failLateParcels rfl rfl (by decide +kernel) ⟨by decide, by decide⟩
  · exact fun q hq => nomatch hq
abbrev rm_X1_pass : Room := { frames := 5, cells := 0, slots := 0, locals := 122 }
theorem me_X1_pass (l : Launch) (g : fw_G) (B : Nat) : fw_Met l g B yX1_pass cX1_pass 5 (some .int) rm_X1_pass 0 0 (ct_X1_pass B) := by
  refine fw_met (own := RX1) (by decide +kernel) rfl kX1_pass_ok kX1_pass_cst fl_X1_ok ?_ ?_ (wk_X1_pass B)
  · intro q hq
    simp only [cal_X1_pass, List.mem_cons, List.not_mem_nil, or_false] at hq
    rcases hq with rfl
    · exact fw_calV (ci := 1) (me_X1_tick l g B) (by decide) wl_X1_84 wi_X1_tick wv_X1_tick wz_RX1 wc_X1_tick rfl rfl (by decide +kernel) ⟨by decide, by decide⟩
  · exact fun q hq => nomatch hq
abbrev rm_X1_parcelsIn : Room := { frames := 1, cells := 0, slots := 0, locals := 21 }
theorem me_X1_parcelsIn (l : Launch) (g : fw_G) (B : Nat) : fw_Met l g B yX1_parcelsIn cX1_parcelsIn 5 (some .int) rm_X1_parcelsIn 0 0 (ct_X1_parcelsIn B) := by
  refine fw_met (own := RX1) (by decide +kernel) rfl kX1_parcelsIn_ok kX1_parcelsIn_cst fl_X1_ok ?_ ?_ (wk_X1_parcelsIn B)
  · intro q hq
    simp only [cal_X1_parcelsIn, List.mem_cons, List.not_mem_nil, or_false] at hq
    rcases hq with rfl
    · exact fw_calV (ci := 1) (me_X1_parcelAt l g B) (by decide) wl_X1_55 wi_X1_parcelAt wv_X1_parcelAt wz_RX1 wc_X1_parcelAt rfl rfl (by decide +kernel) ⟨by decide, by decide⟩
  · exact fun q hq => nomatch hq
abbrev rm_X1_legsBy : Room := { frames := 2, cells := 0, slots := 0, locals := 42 }
theorem me_X1_legsBy (l : Launch) (g : fw_G) (B : Nat) : fw_Met l g B yX1_legsBy cX1_legsBy 5 (some .int) rm_X1_legsBy 0 0 (ct_X1_legsBy B) := by
  refine fw_met (own := RX1) (by decide +kernel) rfl kX1_legsBy_ok kX1_legsBy_cst fl_X1_ok ?_ ?_ (wk_X1_legsBy B)
  · intro q hq
    simp only [cal_X1_legsBy, List.mem_cons, List.not_mem_nil, or_false] at hq
    rcases hq with rfl | rfl
    · exact fw_calV (ci := 1) (me_X1_parcelAt l g B) (by decide) wl_X1_55 wi_X1_parcelAt wv_X1_parcelAt wz_RX1 wc_X1_parcelAt rfl rfl (by decide +kernel) ⟨by decide, by decide⟩
    · exact fw_calV (ci := 3) (me_X3_legsOf l g B) (by decide) wl_X1_167 wi_X3_legsOf wv_X3_legsOf wz_RX3 wc_X3_legsOf rfl rfl (by decide +kernel) ⟨by decide, by decide⟩
  · exact fun q hq => nomatch hq
abbrev rm_X1_figure : Room := { frames := 2, cells := 0, slots := 0, locals := 45 }
theorem me_X1_figure (l : Launch) (g : fw_G) (B : Nat) : fw_Met l g B yX1_figure cX1_figure 2 (some .int) rm_X1_figure 0 0 (ct_X1_figure B) := by
  refine fw_met (own := RX1) (by decide +kernel) rfl kX1_figure_ok kX1_figure_cst fl_X1_ok ?_ ?_ (wk_X1_figure B)
  · intro q hq
    simp only [cal_X1_figure, List.mem_cons, List.not_mem_nil, or_false] at hq
    rcases hq with rfl
    · exact fw_calV (ci := 1) (me_X1_parcelsIn l g B) (by decide) wl_X1_88 wi_X1_parcelsIn wv_X1_parcelsIn wz_RX1 wc_X1_parcelsIn rfl rfl (by decide +kernel) ⟨by decide, by decide⟩
  · exact fun q hq => nomatch hq
abbrev rm_X1_courierFigure : Room := { frames := 3, cells := 0, slots := 0, locals := 66 }
theorem me_X1_courierFigure (l : Launch) (g : fw_G) (B : Nat) : fw_Met l g B yX1_courierFigure cX1_courierFigure 4 (some .int) rm_X1_courierFigure 0 0 (ct_X1_courierFigure B) := by
  refine fw_met (own := RX1) (by decide +kernel) rfl kX1_courierFigure_ok kX1_courierFigure_cst fl_X1_ok ?_ ?_ (wk_X1_courierFigure B)
  · intro q hq
    simp only [cal_X1_courierFigure, List.mem_cons, List.not_mem_nil, or_false] at hq
    rcases hq with rfl
    · exact fw_calV (ci := 1) (me_X1_legsBy l g B) (by decide) wl_X1_170 wi_X1_legsBy wv_X1_legsBy wz_RX1 wc_X1_legsBy rfl rfl (by decide +kernel) ⟨by decide, by decide⟩
  · exact fun q hq => nomatch hq
end
end
section
/-! THE SAVED STATES: a ring -/
section HI2
def pl (B k : Nat) : Nat := B + 165 + 81 * k
/-- the ring holds n states, the oldest first -/
def HS (B : Nat) (M : fw_M) (n : Nat) (H : Nat → Sx) : Prop := ∃ o, o < 4 ∧ M.1 (B + 163) 1 = nI o ∧ M.1 (B + 163) 2 = nI n ∧ n ≤ 4 ∧ ∀ i, i < n → Rep M.1 (pl B ((o + i) % 4)) (H i)
theorem EX_pl {B k : Nat} (h : k < 4) : EX B (pl B k) := by
  unfold pl
  rcases (show k = 0 ∨ k = 1 ∨ k = 2 ∨ k = 3 by omega) with y | y | y | y <;> subst y
  · exact ⟨165, by decide, rfl⟩
  · exact ⟨246, by decide, rfl⟩
  · exact ⟨327, by decide, rfl⟩
  · exact ⟨408, by decide, rfl⟩
theorem EX_now {B : Nat} : EX B (B + 1) := ⟨1, by decide, rfl⟩
def ct_X2_stateAt (B : Nat) : fw_CTX := fun as M Q _ => match as with
  | [.ref a, .int v] => a = B + 163 ∧ ∃ o i, o < 4 ∧ i < 4 ∧ M.1 (B + 163) 1 = nI o ∧ v = nI i ∧ Q (some (.ref (pl B ((o + i) % 4)))) M
  | _ => False
def ct_X2_save (B : Nat) : fw_CTX := fun as M Q _ => match as with
  | [.ref a, .ref x] => a = B + 163 ∧ x = B + 1 ∧ ∃ b S n H, HS B M n H ∧ XS B M (B + 1) b S ∧ ∀ M', HS B M' (phN n) (phH n H S) → (∀ c, c < B + 163 ∨ B + 489 ≤ c → M'.1 c = M.1 c) → M'.2 = M.2 → Q none M'
  | _ => False
end HI2
end
section
/-! the callees of each method (printed by program) -/
def cal_X2_stateAt (B : Nat) : List fw_Cal := []
def cal_X2_save (B : Nat) : List fw_Cal := [(25, 0, 2, 2, 0, fun as M Q => ct_X2_stateAt B as M Q (fun _ _ => False)),
  (29, 0, 1, 2, 0, fun as M Q => ct_X1_become B as M Q (fun _ _ => False))]
end
section
/-! THE RING WALKED -/
section WH
theorem ring_n : ∀ o, o < 4 → ∀ i, i < 4 → nI o + nI i - (nI o + nI i) / 4 * 4 = nI ((o + i) % 4) := by decide +kernel
theorem k163 {B : Nat} : fw_kd B (B + 163) = 2 := kd_at (by decide)
theorem k164 {B : Nat} : fw_kd B (B + 164) = 9 := kd_at (by decide)
set_option maxRecDepth 100000 in
theorem wk_X2_stateAt (B : Nat) : fw_Wk B fl_X2 (cal_X2_stateAt B) [] cst_X2 (some (.object RX1)) kX2_stateAt 3 (ct_X2_stateAt B) := by
  intro as M Q QX h
  unfold ct_X2_stateAt at h
  split at h
  · obtain ⟨rfl, o, i, ho, hi, e1, rfl, h⟩ := h
    have el : Int32.ofNat (fw_aln B (B + 164)) = nI 4 := by unfold fw_aln; rw [k164]; rfl
    have k8 : 8 ≤ fw_kd B (B + 164) ∧ fw_kd B (B + 164) ≤ 10 := by rw [k164]; decide
    have k7 : 7 ≤ fw_kd B (B + 164) := by rw [k164]; decide
    have hr : (o + i) % 4 < 4 := Nat.mod_lt _ (by decide)
    have ev : M.1 (B + 163) 1 + nI i - (M.1 (B + 163) 1 + nI i) / 4 * 4 = nI ((o + i) % 4) := by rw [e1]; exact ring_n o ho i hi
    refine ⟨rfl, [], ⟨60, And.intro k163 (And.intro n4s (And.intro (fun h1 => ?_) (fun h1 => And.intro k163 (And.intro k7 (And.intro k8.2 (And.intro (fun h3 => ?_) (fun h3 => ?_)))))))⟩, nofun⟩
    · have h1 : M.1 (B + 163) 1 + nI i - (M.1 (B + 163) 1 + nI i) / 4 * 4 < nI 0 := h1
      rw [ev, n_lt (by omega) (by decide)] at h1
      omega
    · refine And.intro k163 (And.intro k8.1 (And.intro k8.2 (And.intro ?_ ?_)))
      · show fw_sd (vp_in (M.1 (B + 163) 1 + nI i - (M.1 (B + 163) 1 + nI i) / 4 * 4) (fw_al (fw_kd B (B + 164))))
        rw [ev, k164]; exact vn_i (by show (o + i) % 4 < 4; exact hr) (by decide)
      · show Q (some (.ref (fw_el (fw_kd B (B + 164)) (B + 164) (M.1 (B + 163) 1 + nI i - (M.1 (B + 163) 1 + nI i) / 4 * 4).toNatClampNeg))) M
        rw [ev, k164, n_cl (by omega)]
        exact h
    · have h3 : ¬ M.1 (B + 163) 1 + nI i - (M.1 (B + 163) 1 + nI i) / 4 * 4 < Int32.ofNat (fw_aln B (B + 164)) := h3
      rw [ev, el, n_lt (by omega) (by decide)] at h3
      omega
  · exact h.elim
end WH
end
section
/-! THE RING WALKED: save, restore -/
section WH2
theorem pl_dj {B k k' : Nat} (h : k ≠ k') : pl B k + 81 ≤ pl B k' ∨ pl B k' + 81 ≤ pl B k := by unfold pl; omega
theorem pl_lo {B k : Nat} (h : k < 4) : B + 165 ≤ pl B k ∧ pl B k + 81 ≤ B + 489 := by unfold pl; omega
/-- a state written at the place behind the newest -/
theorem HS_put {B o n : Nat} {M M' M'' : fw_M} {H : Nat → Sx} {S : Sx} (ho : o < 4) (hn : n < 4) (e1 : M.1 (B + 163) 1 = nI o) (hR : ∀ i, i < n → Rep M.1 (pl B ((o + i) % 4)) (H i))
    (g1 : Rep M'.1 (pl B ((o + n) % 4)) S) (g2 : FX (pl B ((o + n) % 4)) M M') (e : M'' = fw_st M' (B + 163) 2 (nI (n + 1))) :
    HS B M'' (n + 1) (fun i => if i = n then S else H i) ∧ (∀ c, c < B + 163 ∨ B + 489 ≤ c → M''.1 c = M.1 c) ∧ M''.2 = M.2 := by
  subst e
  have hk := pl_lo (B := B) (Nat.mod_lt (o + n) (by decide : 0 < 4))
  refine ⟨⟨o, ho, ?_, st_s, by omega, fun i hi => ?_⟩, fun c hc => ?_, g2.2⟩
  · rw [st_n (by decide), g2.1 _ (by omega)]; exact e1
  · by_cases e : i = n
    · subst e
      dsimp only
      rw [if_pos rfl]
      exact Rep_fr g1 (fun c h1 h2 => st_o (by omega))
    · dsimp only
      rw [if_neg e]
      have hj := pl_lo (B := B) (Nat.mod_lt (o + i) (by decide : 0 < 4))
      have hd := pl_dj (B := B) (k := (o + n) % 4) (k' := (o + i) % 4) (by omega)
      exact Rep_fr (hR i (by omega)) (fun c h1 h2 => by rw [st_o (by omega), g2.1 c (by omega)])
  · rw [st_o (by omega), g2.1 c (by omega)]
theorem pl_1 {B k : Nat} (h : k < 4) : pl B k ≠ B + 1 := by unfold pl; omega
set_option maxRecDepth 100000 in
theorem wk_X2_save (B : Nat) : fw_Wk B fl_X2 (cal_X2_save B) [] cst_X2 none kX2_save 3 (ct_X2_save B) := by
  intro as M Q QX h
  unfold ct_X2_save at h
  split at h
  · obtain ⟨rfl, rfl, b, S, n, H, ⟨o, ho, e1, e2, hn, hR⟩, ⟨hE, hRx, hW⟩, h⟩ := h
    have kk := k163 (B := B)
    refine ⟨rfl, [], ⟨100, And.intro kk (And.intro (fun h1 => ?_) (fun h1 => ?_))⟩, nofun⟩
    · have h1 : M.1 (B + 163) 2 < nI 4 := h1
      rw [e2, n_lt (by omega) (by decide)] at h1
      have hk : (o + n) % 4 < 4 := Nat.mod_lt _ (by decide)
      refine And.intro kk (And.intro kk (And.intro rfl (Exists.intro o (Exists.intro n (And.intro ho (And.intro h1 (And.intro e1 (And.intro e2 ?_))))))))
      refine And.intro (kX (EX_pl hk)) (And.intro (EX_pl hk) (And.intro (pl_1 hk) (Exists.intro b (Exists.intro S (And.intro ⟨hE, hRx, hW⟩ ?_)))))
      intro M' g1 g2
      have hl := pl_lo (B := B) hk
      have ec : M'.1 (B + 163) 2 + 1 = nI (n + 1) := by rw [g2.1 _ (by omega), e2, nI_1]
      obtain ⟨a1, a2, a3⟩ := HS_put (M'' := fw_st M' (B + 163) 2 (M'.1 (B + 163) 2 + 1)) ho h1 e1 hR g1 g2 (by rw [ec])
      refine And.intro kk (And.intro kk (h _ ?_ a2 a3))
      have ep : phN n = n + 1 := by unfold phN; rw [if_neg (by omega)]
      have eh : phH n H S = fun i => if i = n then S else H i := by funext i; unfold phH; rw [if_neg (by omega)]
      rw [ep, eh]
      exact a1
    · have h1 : ¬ M.1 (B + 163) 2 < nI 4 := h1
      rw [e2, n_lt (by omega) (by decide)] at h1
      have en : n = 4 := by omega
      subst en
      have ev : M.1 (B + 163) 1 + 1 - (M.1 (B + 163) 1 + 1) / 4 * 4 = nI ((o + 1) % 4) := by rw [e1]; exact ring_n o ho 1 (by decide)
      have f2 : (fw_st M (B + 163) 1 (M.1 (B + 163) 1 + 1 - (M.1 (B + 163) 1 + 1) / 4 * 4)).1 (B + 163) 2 - 1 = nI 3 := by rw [st_n (by decide), e2]; rfl
      have key : ∀ M1, M1 = fw_st (fw_st M (B + 163) 1 (nI ((o + 1) % 4))) (B + 163) 2 (nI 3) → M1.1 (B + 163) 1 = nI ((o + 1) % 4) ∧ M1.1 (B + 163) 2 = nI 3 ∧ Rep M1.1 (B + 1) S ∧ (∀ i, i < 3 → Rep M1.1 (pl B (((o + 1) % 4 + i) % 4)) (H (i + 1))) ∧ (∀ c, c < B + 163 ∨ B + 489 ≤ c → M1.1 c = M.1 c) ∧ M1.2 = M.2 := by
        rintro _ rfl
        refine ⟨by rw [st_n (by decide), st_s], st_s, Rep_fr hRx (fun c h1 h2 => by rw [st_o (by omega), st_o (by omega)]), fun i hi => ?_, fun c hc => by rw [st_o (by omega), st_o (by omega)], rfl⟩
        have hj := pl_lo (B := B) (Nat.mod_lt ((o + 1) % 4 + i) (by decide : 0 < 4))
        have := hR (i + 1) (by omega)
        rw [show (o + (i + 1)) % 4 = ((o + 1) % 4 + i) % 4 by omega] at this
        exact Rep_fr this (fun c h1 h2 => by rw [st_o (by omega), st_o (by omega)])
      obtain ⟨k1, k2, k3, k4, k5, k6⟩ := key (fw_st (fw_st M (B + 163) 1 (M.1 (B + 163) 1 + 1 - (M.1 (B + 163) 1 + 1) / 4 * 4)) (B + 163) 2 ((fw_st M (B + 163) 1 (M.1 (B + 163) 1 + 1 - (M.1 (B + 163) 1 + 1) / 4 * 4)).1 (B + 163) 2 - 1)) (by rw [f2, ev])
      have ho' : (o + 1) % 4 < 4 := Nat.mod_lt _ (by decide)
      have hk : ((o + 1) % 4 + 3) % 4 < 4 := Nat.mod_lt _ (by decide)
      refine And.intro kk (And.intro n4s (And.intro kk (And.intro kk (And.intro kk (And.intro kk (And.intro kk (And.intro rfl (Exists.intro ((o + 1) % 4) (Exists.intro 3 (And.intro ho' (And.intro (by decide) (And.intro k1 (And.intro k2 ?_)))))))))))))
      refine And.intro (kX (EX_pl hk)) (And.intro (EX_pl hk) (And.intro (pl_1 hk) (Exists.intro b (Exists.intro S (And.intro ⟨hE, k3, hW⟩ ?_)))))
      intro M' g1 g2
      have hl := pl_lo (B := B) hk
      have ec : M'.1 (B + 163) 2 + 1 = nI (3 + 1) := by rw [g2.1 _ (by omega), k2]; rfl
      obtain ⟨a1, a2, a3⟩ := HS_put (n := 3) (M'' := fw_st M' (B + 163) 2 (M'.1 (B + 163) 2 + 1)) (H := fun i => H (i + 1)) ho' (by decide) k1 k4 g1 g2 (by rw [ec])
      refine And.intro kk (And.intro kk (h _ ?_ (fun c hc => (a2 c hc).trans (k5 c hc)) (a3.trans k6)))
      have eh : phH 4 H S = fun i => if i = 3 then S else H (i + 1) := by funext i; unfold phH; rw [if_pos rfl]
      rw [eh]
      exact a1
  · exact h.elim
end WH2
end
section
/-! contracts out of walks (printed by program) -/
section
abbrev rm_X2_stateAt : Room := { frames := 0, cells := 0, slots := 0, locals := 0 }
theorem me_X2_stateAt (l : Launch) (g : fw_G) (B : Nat) : fw_Met l g B yX2_stateAt cX2_stateAt 3 (Option.some (Jvm.ClassFile.FieldType.object "CourierRelay$Exchange")) rm_X2_stateAt 0 0 (ct_X2_stateAt B) := by
  refine fw_met (own := RX2) (by decide +kernel) rfl kX2_stateAt_ok kX2_stateAt_cst fl_X2_ok ?_ ?_ (wk_X2_stateAt B)
  · intro q hq
    simp only [cal_X2_stateAt, List.mem_cons, List.not_mem_nil, or_false] at hq
  · exact fun q hq => nomatch hq
abbrev rm_X2_save : Room := { frames := 4, cells := 0, slots := 0, locals := 126 }
theorem me_X2_save (l : Launch) (g : fw_G) (B : Nat) : fw_Met l g B yX2_save cX2_save 3 (none) rm_X2_save 0 0 (ct_X2_save B) := by
  refine fw_met (own := RX2) (by decide +kernel) rfl kX2_save_ok kX2_save_cst fl_X2_ok ?_ ?_ (wk_X2_save B)
  · intro q hq
    simp only [cal_X2_save, List.mem_cons, List.not_mem_nil, or_false] at hq
    rcases hq with rfl | rfl
    · exact fw_calV (ci := 2) (me_X2_stateAt l g B) (by decide) wl_X2_25 wi_X2_stateAt wv_X2_stateAt wz_RX2 wc_X2_stateAt rfl rfl (by decide +kernel) ⟨by decide, by decide⟩
    · exact fw_calV (ci := 1) (me_X1_become l g B) (by decide) wl_X2_29 wi_X1_become wv_X1_become wz_RX1 wc_X1_become rfl rfl (by decide +kernel) ⟨by decide, by decide⟩
  · exact fun q hq => nomatch hq
end
end
section
/-! THE TEXT OF PARCELS: what its methods do -/
section PT
/-- the text that has been appended -/
def TS (B : Nat) (M : fw_M) (tl : Nat) (tx : Nat → Int32) : Prop := M.1 (B + 489) 2 = nI tl ∧ tl ≤ 150 ∧ ∀ i, i < tl → M.1 (B + 490) i = tx i
/-- nothing changed but what reading changes -/
def FT (B : Nat) (M M' : fw_M) : Prop := (∀ b, b ≠ B + 489 → b ≠ B + 491 → M'.1 b = M.1 b) ∧ (∀ k, k < 3 → M'.1 (B + 489) k = M.1 (B + 489) k) ∧ M'.2 = M.2
theorem TS_fr {B tl : Nat} {M M' : fw_M} {tx : Nat → Int32} (h : TS B M tl tx) (f : FT B M M') : TS B M' tl tx :=
  ⟨(f.2.1 2 (by decide)).trans h.1, h.2.1, fun i hi => by rw [f.1 (B + 490) (by omega) (by omega)]; exact h.2.2 i hi⟩
/-! the cases of a number -/
/-! the fields of an item -/
end PT
end
section
/-! THE CLASS'S FACE: what its methods do -/
section FC
/-- the class holds Z -/
def RC (B : Nat) (M : fw_M) (Z : Zs) : Prop := Rep M.1 (B + 1) Z.1 ∧ HS B M Z.2.1 Z.2.2.1 ∧ TS B M Z.2.2.2.1 Z.2.2.2.2
def JZ (Z : Zs) : Prop := J Z.1 ∧ ∀ i, i < Z.2.1 → J (Z.2.2.1 i)
/-- nothing but the class's own has changed -/
def FC (B : Nat) (M M' : fw_M) : Prop := (∀ b, B + 492 ≤ b → M'.1 b = M.1 b) ∧ M'.2 = M.2
/-- what a call throws -/
def exA : Nat → String
  | 1 => "java/lang/IllegalArgumentException"
  | _ => "java/lang/IllegalStateException"
def exB : Nat → String
  | 1 => "java/lang/IndexOutOfBoundsException"
  | _ => "java/lang/IllegalArgumentException"
def exC : Nat → String := fun _ => "java/lang/IllegalStateException"
def ctC (B : Nat) (op : Op) (ex : Nat → String) (a : Nat) (M : fw_M) (Q : Option Value → fw_M → Prop) (QX : String → fw_M → Prop) : Prop := a = B ∧ ∃ Z, RC B M Z ∧ GZ Z ∧ JZ Z ∧ ((op Z).1 = 0 → ∀ M', RC B M' (op Z).2.2 → FC B M M' → Q (some (.int (op Z).2.1)) M') ∧ ((op Z).1 ≠ 0 → QX (ex (op Z).1) M)
def ct_X5_addCourier (B : Nat) : fw_CTX := fun as M Q QX => match as with
  | [.ref a, .int x, .int y] => ctC B (opAdd x y) exA a M Q QX
  | _ => False
def ct_X5_setArea (B : Nat) : fw_CTX := fun as M Q QX => match as with
  | [.ref a, .int x, .int y] => ctC B (opArea x y) exB a M Q QX
  | _ => False
def ct_X5_give (B : Nat) : fw_CTX := fun as M Q QX => match as with
  | [.ref a, .int x, .int y, .int z, .int u] => ctC B (opGive x y z u) exA a M Q QX
  | _ => False
def ct_X5_setGrace (B : Nat) : fw_CTX := fun as M Q QX => match as with
  | [.ref a, .int x] => ctC B (opGrace x) exA a M Q QX
  | _ => False
def ct_X5_drop (B : Nat) : fw_CTX := fun as M Q QX => match as with
  | [.ref a, .int x] => ctC B (opDrop x) exB a M Q QX
  | _ => False
def ct_X5_run (B : Nat) : fw_CTX := fun as M Q QX => match as with
  | [.ref a, .int x] => ctC B (opRun x) exA a M Q QX
  | _ => False
def ct_X5_value (B : Nat) : fw_CTX := fun as M Q QX => match as with
  | [.ref a, .int x] => ctC B (opValue x) exA a M Q QX
  | _ => False
def ct_X5_courier (B : Nat) : fw_CTX := fun as M Q QX => match as with
  | [.ref a, .int x, .int y] => ctC B (opCourier x y) exB a M Q QX
  | _ => False
def ct_X5_parcel (B : Nat) : fw_CTX := fun as M Q QX => match as with
  | [.ref a, .int x, .int y] => ctC B (opParcel x y) exB a M Q QX
  | _ => False
def ct_X5_legs (B : Nat) : fw_CTX := fun as M Q QX => match as with
  | [.ref a, .int x, .int y, .int z] => ctC B (opLegs x y z) exB a M Q QX
  | _ => False
def ct_X5_distance (B : Nat) : fw_CTX := fun as M Q QX => match as with
  | [.ref a, .int x, .int y] => ctC B (opDist x y) exB a M Q QX
  | _ => False
def ct_X5_suited (B : Nat) : fw_CTX := fun as M Q QX => match as with
  | [.ref a, .int x] => ctC B (opSuited x) exB a M Q QX
  | _ => False
def ct_X5_leastRelay (B : Nat) : fw_CTX := fun as M Q QX => match as with
  | [.ref a, .int x] => ctC B (opRelay x) exB a M Q QX
  | _ => False
def ct_X5_paidIn (B : Nat) : fw_CTX := fun as M Q QX => match as with
  | [.ref a, .int x] => ctC B (opPaid x) exA a M Q QX
  | _ => False
def ct_X5_bestZone (B : Nat) : fw_CTX := fun as M Q QX => match as with
  | [.ref a, .int x, .int y] => ctC B (opBest x y) exB a M Q QX
  | _ => False
def ct_X5_worth (B : Nat) : fw_CTX := fun as M Q QX => match as with
  | [.ref a, .int x, .int y] => ctC B (opWorth x y) exB a M Q QX
  | _ => False
def ct_X5_doneIn (B : Nat) : fw_CTX := fun as M Q QX => match as with
  | [.ref a] => ctC B opDone exA a M Q QX
  | _ => False
def ct_X5_append (B : Nat) : fw_CTX := fun as M Q QX => match as with
  | [.ref a, .int x] => ctC B (opAppend x) exA a M Q QX
  | _ => False
def ct_X5_clearText (B : Nat) : fw_CTX := fun as M Q QX => match as with
  | [.ref a] => ctC B opClear exA a M Q QX
  | _ => False
def ct_X5_undo (B : Nat) : fw_CTX := fun as M Q QX => match as with
  | [.ref a] => ctC B opUndo exC a M Q QX
  | _ => False
def ct_X5_punctuality (B : Nat) : fw_CTX := fun as M Q _ => match as with
  | [.ref a] => a = B ∧ ∃ Z, RC B M Z ∧ GZ Z ∧ Q (some (.double (punS Z.1))) M
  | _ => False
def ct_X5_digest (B : Nat) : fw_CTX := fun as M Q _ => match as with
  | [.ref a] => a = B ∧ ∃ Z, RC B M Z ∧ GZ Z ∧ Q (some (.long (dgst Z))) M
  | _ => False
theorem kB {B : Nat} : fw_kd B B = 5 := kd_at (o := 0) (by decide)
theorem FC_id {B : Nat} {M : fw_M} : FC B M M := ⟨fun _ _ => rfl, rfl⟩
theorem FC_tr {B : Nat} {M M1 M2 : fw_M} (h1 : FC B M M1) (h2 : FC B M1 M2) : FC B M M2 := ⟨fun b hb => (h2.1 b hb).trans (h1.1 b hb), h2.2.trans h1.2⟩
theorem FC_x {B x : Nat} {M M' : fw_M} (h : FX x M M') (hx : x ≤ B + 411) : FC B M M' := ⟨fun b hb => h.1 b (Or.inr (by omega)), h.2⟩
theorem FC_s {B : Nat} {M M' : fw_M} (g2 : ∀ c, c < B + 163 ∨ B + 489 ≤ c → M'.1 c = M.1 c) (g3 : M'.2 = M.2) : FC B M M' := ⟨fun b hb => g2 b (Or.inr (by omega)), g3⟩
theorem FC_t {B : Nat} {M M' : fw_M} (h : FT B M M') : FC B M M' := ⟨fun b hb => h.1 b (by omega) (by omega), h.2.2⟩
theorem HS_fr {B n : Nat} {M M' : fw_M} {H : Nat → Sx} (h : HS B M n H) (e : ∀ c, B + 163 ≤ c → c < B + 489 → M'.1 c = M.1 c) : HS B M' n H := by
  obtain ⟨o, ho, e1, e2, hn, hR⟩ := h
  refine ⟨o, ho, by rw [e _ (by omega) (by omega)]; exact e1, by rw [e _ (by omega) (by omega)]; exact e2, hn, fun i hi => ?_⟩
  have hl := pl_lo (B := B) (k := (o + i) % 4) (Nat.mod_lt _ (by decide))
  exact Rep_fr (hR i hi) (fun c h1 h2 => e c (by omega) (by omega))
theorem TS_eq {B tl : Nat} {M M' : fw_M} {tx : Nat → Int32} (h : TS B M tl tx) (e1 : M'.1 (B + 489) = M.1 (B + 489)) (e2 : M'.1 (B + 490) = M.1 (B + 490)) : TS B M' tl tx :=
  ⟨by rw [e1]; exact h.1, h.2.1, fun i hi => by rw [e2]; exact h.2.2 i hi⟩
theorem RC_save {B : Nat} {M M' : fw_M} {Z : Zs} (h : RC B M Z) (g1 : HS B M' (phN Z.2.1) (phH Z.2.1 Z.2.2.1 Z.1)) (g2 : ∀ c, c < B + 163 ∨ B + 489 ≤ c → M'.1 c = M.1 c) : RC B M' (phZ Z Z.1) :=
  ⟨Rep_fr h.1 (fun c h1 h2 => g2 c (Or.inl (by omega))), g1, TS_eq h.2.2 (g2 _ (Or.inr (by omega))) (g2 _ (Or.inr (by omega)))⟩
theorem RC_now {B : Nat} {M M' : fw_M} {Z : Zs} {S' : Sx} (h : RC B M Z) (g : Rep M'.1 (B + 1) S') (f : FX (B + 1) M M') : RC B M' (S', Z.2) :=
  ⟨g, HS_fr h.2.1 (fun c h1 h2 => f.1 c (by omega)), TS_eq h.2.2 (f.1 _ (by omega)) (f.1 _ (by omega))⟩
theorem RC_tri {B : Nat} {M M' : fw_M} {Z : Zs} (h : RC B M Z) (f : FX (B + 82) M M') : RC B M' Z :=
  ⟨Rep_fr h.1 (fun c h1 h2 => f.1 c (by omega)), HS_fr h.2.1 (fun c h1 h2 => f.1 c (by omega)), TS_eq h.2.2 (f.1 _ (by omega)) (f.1 _ (by omega))⟩
theorem RC_txt {B : Nat} {M M' : fw_M} {Z : Zs} (h : RC B M Z) (f : FT B M M') : RC B M' Z :=
  ⟨Rep_fr h.1 (fun c h1 h2 => f.1 c (by omega) (by omega)), HS_fr h.2.1 (fun c h1 h2 => f.1 c (by omega) (by omega)), TS_fr h.2.2 f⟩
theorem cF_act {B : Nat} {op : Op} {Z : Zs} {r : Int32} {S' : Sx} {M M1 M2 : fw_M} {Q : Option Value → fw_M → Prop} (e : op Z = (0, r, phZ Z S')) (hR : RC B M Z) (g1 : HS B M1 (phN Z.2.1) (phH Z.2.1 Z.2.2.1 Z.1)) (g2 : ∀ c, c < B + 163 ∨ B + 489 ≤ c → M1.1 c = M.1 c) (g3 : M1.2 = M.2)
    (f1 : Rep M2.1 (B + 1) S') (f2 : FX (B + 1) M1 M2) (hq : (op Z).1 = 0 → ∀ M', RC B M' (op Z).2.2 → FC B M M' → Q (some (.int (op Z).2.1)) M') : Q (some (.int r)) M2 := by
  rw [e] at hq
  exact hq rfl M2 (RC_now (RC_save hR g1 g2) f1 f2) (FC_tr (FC_s g2 g3) (FC_x f2 (by omega)))
theorem cF_tell {B : Nat} {op : Op} {Z : Zs} {r : Int32} {M M' : fw_M} {Q : Option Value → fw_M → Prop} (e : op Z = (0, r, Z)) (hR : RC B M' Z) (hF : FC B M M')
    (hq : (op Z).1 = 0 → ∀ M', RC B M' (op Z).2.2 → FC B M M' → Q (some (.int (op Z).2.1)) M') : Q (some (.int r)) M' := by
  rw [e] at hq
  exact hq rfl M' hR hF
theorem cF_thr {op : Op} {Z : Zs} {k : Nat} {M : fw_M} {ex : Nat → String} {QX : String → fw_M → Prop} (e : op Z = (k, 0, Z)) (hk : k ≠ 0) (hx : (op Z).1 ≠ 0 → QX (ex (op Z).1) M) : QX (ex k) M := by
  rw [e] at hx
  exact hx hk
theorem cr_dec {b : Nat} {S : Sx} (hW : WF b S) (c : Int32) : (∃ k, k < cn S ∧ c = nI k ∧ isCr S c = true ∧ c.toNatClampNeg = k) ∨ (isCr S c = false ∧ ∀ k, k < cn S → c ≠ nI k) := by
  cases e : isCr S c with
  | true =>
    obtain ⟨k, h1, h2, h3⟩ := isCr_n hW e
    exact Or.inl ⟨k, h1, h2, rfl, h3⟩
  | false =>
    refine Or.inr ⟨rfl, fun k hk ek => ?_⟩
    have hn := hW.2.1
    have : isCr S c = true := by
      unfold isCr okN
      rw [hW.1, ek, show (1 : Int32) = nI 1 from rfl, pk_sub (by omega), show (0 : Int32) = nI 0 from rfl, decide_eq_true ((n_ge (by decide) (by omega)).mpr (Nat.zero_le k)), decide_eq_true ((n_ge (by omega) (by omega)).mpr (by omega))]
      rfl
    rw [this] at e
    cases e
theorem pc_dec {b : Nat} {S : Sx} (hW : WF b S) (c : Int32) : (∃ k, k < pn S ∧ c = nI k ∧ isPc S c = true ∧ c.toNatClampNeg = k) ∨ (isPc S c = false ∧ ∀ k, k < pn S → c ≠ nI k) := by
  cases e : isPc S c with
  | true =>
    obtain ⟨k, h1, h2, h3⟩ := isPc_n hW e
    exact Or.inl ⟨k, h1, h2, rfl, h3⟩
  | false =>
    refine Or.inr ⟨rfl, fun k hk ek => ?_⟩
    have hn := hW.2.2.2.1
    have : isPc S c = true := by
      unfold isPc okN
      rw [hW.2.2.1, ek, show (1 : Int32) = nI 1 from rfl, pk_sub (by omega), show (0 : Int32) = nI 0 from rfl, decide_eq_true ((n_ge (by decide) (by omega)).mpr (Nat.zero_le k)), decide_eq_true ((n_ge (by omega) (by omega)).mpr (by omega))]
      rfl
    rw [this] at e
    cases e
end FC
end
section
/-! the callees of each method (printed by program) -/
def cal_X5_addCourier (B : Nat) : List fw_Cal := [(33, 1, 0, 1, 0, fun as M Q => ct_X5_isArea B as M Q (fun _ _ => False)),
  (37, 1, 0, 1, 0, fun as M Q => ct_X5_isZone B as M Q (fun _ _ => False)),
  (50, 0, 2, 2, 0, fun as M Q => ct_X2_save B as M Q (fun _ _ => False)),
  (54, 0, 1, 3, 0, fun as M Q => ct_X1_join B as M Q (fun _ _ => False))]
def cal_X5_setArea (B : Nat) : List fw_Cal := [(58, 0, 1, 2, 0, fun as M Q => ct_X1_courierAt B as M Q (fun _ _ => False)),
  (33, 1, 0, 1, 0, fun as M Q => ct_X5_isArea B as M Q (fun _ _ => False)),
  (50, 0, 2, 2, 0, fun as M Q => ct_X2_save B as M Q (fun _ _ => False))]
def cal_X5_give (B : Nat) : List fw_Cal := [(37, 1, 0, 1, 0, fun as M Q => ct_X5_isZone B as M Q (fun _ _ => False)),
  (70, 1, 0, 1, 0, fun as M Q => ct_X5_isCutOff B as M Q (fun _ _ => False)),
  (73, 1, 0, 1, 0, fun as M Q => ct_X5_isTip B as M Q (fun _ _ => False)),
  (50, 0, 2, 2, 0, fun as M Q => ct_X2_save B as M Q (fun _ _ => False)),
  (79, 0, 1, 5, 0, fun as M Q => ct_X1_accept B as M Q (fun _ _ => False))]
def cal_X5_setGrace (B : Nat) : List fw_Cal := [(50, 0, 2, 2, 0, fun as M Q => ct_X2_save B as M Q (fun _ _ => False))]
def cal_X5_drop (B : Nat) : List fw_Cal := [(58, 0, 1, 2, 0, fun as M Q => ct_X1_courierAt B as M Q (fun _ _ => False)),
  (50, 0, 2, 2, 0, fun as M Q => ct_X2_save B as M Q (fun _ _ => False)),
  (89, 0, 1, 2, 0, fun as M Q => ct_X1_release B as M Q (fun _ _ => False))]
def cal_X5_run (B : Nat) : List fw_Cal := [(93, 1, 0, 1, 0, fun as M Q => ct_X5_isTicks B as M Q (fun _ _ => False)),
  (50, 0, 2, 2, 0, fun as M Q => ct_X2_save B as M Q (fun _ _ => False)),
  (99, 0, 1, 2, 0, fun as M Q => ct_X1_parcelsIn B as M Q (fun _ _ => False)),
  (103, 0, 1, 2, 0, fun as M Q => ct_X1_pass B as M Q (fun _ _ => False))]
def cal_X5_value (B : Nat) : List fw_Cal := [(106, 0, 1, 2, 0, fun as M Q => ct_X1_figure B as M Q (fun _ _ => False))]
def cal_X5_courier (B : Nat) : List fw_Cal := [(58, 0, 1, 2, 0, fun as M Q => ct_X1_courierAt B as M Q (fun _ _ => False)),
  (109, 0, 1, 4, 0, fun as M Q => ct_X1_courierFigure B as M Q (fun _ _ => False))]
def cal_X5_parcel (B : Nat) : List fw_Cal := [(113, 0, 1, 2, 0, fun as M Q => ct_X1_parcelAt B as M Q (fun _ _ => False)),
  (117, 0, 3, 2, 0, fun as M Q => ct_X3_figure B as M Q (fun _ _ => False))]
def cal_X5_legs (B : Nat) : List fw_Cal := [(113, 0, 1, 2, 0, fun as M Q => ct_X1_parcelAt B as M Q (fun _ _ => False)),
  (58, 0, 1, 2, 0, fun as M Q => ct_X1_courierAt B as M Q (fun _ _ => False)),
  (120, 0, 3, 2, 0, fun as M Q => ct_X3_shareOf B as M Q (fun _ _ => False)),
  (123, 0, 3, 2, 0, fun as M Q => ct_X3_legsOf B as M Q (fun _ _ => False))]
def cal_X5_distance (B : Nat) : List fw_Cal := [(37, 1, 0, 1, 0, fun as M Q => ct_X5_isZone B as M Q (fun _ _ => False)),
  (126, 1, 0, 1, 0, fw_ctAbs)]
end
section
/-! THE FACE WALKED: the calls that act -/
section WF1
abbrev thA : Nat × String := (40, "java/lang/IllegalArgumentException")
abbrev thS : Nat × String := (47, "java/lang/IllegalStateException")
abbrev thI : Nat × String := (62, "java/lang/IndexOutOfBoundsException")
set_option maxRecDepth 100000 in
theorem wk_X5_addCourier (B : Nat) : fw_Wk B fl_X5 (cal_X5_addCourier B) [thA, thS] cst_X5 (some .int) kX5_addCourier 3 (ct_X5_addCourier B) := by
  intro as M Q QX h
  unfold ct_X5_addCourier at h
  split at h
  · rename_i a ar z
    obtain ⟨rfl, ⟨S, n, H, tl, tx⟩, hR, hG, hJ, hq, hx⟩ := h
    obtain ⟨t, ht, ht0, hW⟩ := GZ_wf hG
    have hW : WF (6 * t) S := hW
    have ht0 : S 0 = nI t := ht0
    have hXS : XS a M (a + 1) (6 * t) S := ⟨EX_now, hR.1, hW⟩
    have hn6 : cn S ≤ 6 := hW.2.1
    have hm24 : pn S ≤ 24 := hW.2.2.2.1
    have e2 : M.1 (a + 1) 2 = nI (cn S) := (r2 hR.1).trans hW.1
    have e3 : M.1 (a + 1) 3 = nI (pn S) := (r3 hR.1).trans hW.2.2.1
    have k5 := kB (B := a)
    have k1 := kX (EX_now (B := a))
    have k2 := k163 (B := a)
    have hJ0 : J S := hJ.1
    have n6 : S 2 = 6 ↔ cn S = 6 := by rw [hW.1, show (6 : Int32) = nI 6 from rfl, nI_eq (by omega) (by decide)]
    refine ⟨rfl, [], ⟨100, And.intro (fun h1 => ?_) (fun h1 => And.intro (fun h2 => ?_) (fun h2 => ?_))⟩, nofun⟩
    · have h1 : okN ar 0 65535 = false := bi_0.mp h1
      have z := cF_thr (k := 1) (by unfold opAdd; rw [h1, Bool.false_and, if_neg (by decide)]) (by decide) hx
      exact z
    · have h1 : okN ar 0 65535 = true := bi_n0.mp h1
      have h2 : okN z 0 15 = true := bi_n0.mp h2
      refine And.intro k5 (And.intro k1 (And.intro (fun h3 => ?_) (fun h3 => ?_)))
      · have h3 : M.1 (a + 1) 2 < nI 6 := h3
        rw [e2, n_lt (by omega) (by decide)] at h3
        refine And.intro k5 (And.intro k5 (And.intro k2 (And.intro rfl (And.intro rfl (Exists.intro (6 * t) (Exists.intro S (Exists.intro n (Exists.intro H (And.intro hR.2.1 (And.intro hXS ?_))))))))))
        intro M1 g1 g2 g3
        have hR1 := RC_save hR g1 g2
        refine And.intro k5 (And.intro k1 (Exists.intro (6 * t) (Exists.intro S (And.intro ⟨EX_now, hR1.1, hW⟩ (And.intro h3 ?_)))))
        intro M2 f1 f2
        have z := cF_act (op := opAdd ar z) (r := S 2) (by unfold opAdd; rw [h1, h2, if_pos (show (true && true) = true from rfl), if_neg (by rw [n6]; omega)]) hR g1 g2 g3 f1 f2 hq
        exact z
      · have h3 : ¬ M.1 (a + 1) 2 < nI 6 := h3
        rw [e2, n_lt (by omega) (by decide)] at h3
        have z := cF_thr (k := 2) (by unfold opAdd; rw [h1, h2, if_pos (show (true && true) = true from rfl), if_pos (n6.mpr (by omega))]) (by decide) hx
        exact z
    · have h1 : okN ar 0 65535 = true := bi_n0.mp h1
      have h2 : okN z 0 15 = false := bi_0.mp h2
      have z := cF_thr (k := 1) (by unfold opAdd; rw [h1, h2, Bool.true_and, if_neg (by decide)]) (by decide) hx
      exact z
  · exact h.elim
set_option maxRecDepth 100000 in
theorem wk_X5_setArea (B : Nat) : fw_Wk B fl_X5 (cal_X5_setArea B) [thI, thA] cst_X5 (some .int) kX5_setArea 5 (ct_X5_setArea B) := by
  intro as M Q QX h
  unfold ct_X5_setArea at h
  split at h
  · rename_i a c ar
    obtain ⟨rfl, ⟨S, n, H, tl, tx⟩, hR, hG, hJ, hq, hx⟩ := h
    obtain ⟨t, ht, ht0, hW⟩ := GZ_wf hG
    have hW : WF (6 * t) S := hW
    have ht0 : S 0 = nI t := ht0
    have hXS : XS a M (a + 1) (6 * t) S := ⟨EX_now, hR.1, hW⟩
    have hn6 : cn S ≤ 6 := hW.2.1
    have hm24 : pn S ≤ 24 := hW.2.2.2.1
    have e2 : M.1 (a + 1) 2 = nI (cn S) := (r2 hR.1).trans hW.1
    have e3 : M.1 (a + 1) 3 = nI (pn S) := (r3 hR.1).trans hW.2.2.1
    have k5 := kB (B := a)
    have k1 := kX (EX_now (B := a))
    have k2 := k163 (B := a)
    have hJ0 : J S := hJ.1
    rcases cr_dec hW c with ⟨k, hk, rfl, hc, ec⟩ | ⟨hc, hno⟩
    · have kc := kC (EX_now (B := a)) (show k < 6 by omega)
      refine ⟨rfl, [], ⟨100, And.intro k5 (And.intro k1 (And.intro EX_now (Exists.intro (cn S) (And.intro hn6 (And.intro e2 (Or.inl (Exists.intro k (And.intro hk (And.intro rfl ?_)))))))))⟩, nofun⟩
      refine And.intro (fun h1 => ?_) (fun h1 => ?_)
      · have h1 : okN ar 0 65535 = true := bi_n0.mp h1
        refine And.intro k5 (And.intro k5 (And.intro k2 (And.intro rfl (And.intro rfl (Exists.intro (6 * t) (Exists.intro S (Exists.intro n (Exists.intro H (And.intro hR.2.1 (And.intro hXS ?_))))))))))
        intro M1 g1 g2 g3
        have hR1 := RC_save hR g1 g2
        have ev : M1.1 (a + 1 + 3 + k) 0 = sC S k 0 := by rw [g2 _ (Or.inl (by omega))]; exact rC hR.1 hk (by decide)
        have z := cF_act (op := opArea (nI k) ar) (r := sC S k 0) (S' := uC S k 0 ar) (M2 := fw_st M1 (a + 1 + 3 + k) 0 ar) (by unfold opArea; rw [if_pos hc, if_pos h1, ec]) hR g1 g2 g3 (Rep_C hR1.1 (by omega) (by decide)) (FX_st (by omega) (by omega)) hq
        rw [← ev] at z
        exact And.intro kc (And.intro kc z)
      · have h1 : okN ar 0 65535 = false := bi_0.mp h1
        have z := cF_thr (k := 2) (by unfold opArea; rw [if_pos hc, h1, if_neg (by decide)]) (by decide) hx
        exact z
    · refine ⟨rfl, [], ⟨100, And.intro k5 (And.intro k1 (And.intro EX_now (Exists.intro (cn S) (And.intro hn6 (And.intro e2 (Or.inr (And.intro hno ?_)))))))⟩, nofun⟩
      have z := cF_thr (k := 1) (by unfold opArea; rw [hc, if_neg (by decide)]) (by decide) hx
      exact z
  · exact h.elim
set_option maxRecDepth 100000 in
theorem wk_X5_give (B : Nat) : fw_Wk B fl_X5 (cal_X5_give B) [thA, thS] cst_X5 (some .int) kX5_give 5 (ct_X5_give B) := by
  intro as M Q QX h
  unfold ct_X5_give at h
  split at h
  · rename_i a o g k y
    obtain ⟨rfl, ⟨S, n, H, tl, tx⟩, hR, hG, hJ, hq, hx⟩ := h
    obtain ⟨t, ht, ht0, hW⟩ := GZ_wf hG
    have hW : WF (6 * t) S := hW
    have ht0 : S 0 = nI t := ht0
    have hXS : XS a M (a + 1) (6 * t) S := ⟨EX_now, hR.1, hW⟩
    have hn6 : cn S ≤ 6 := hW.2.1
    have hm24 : pn S ≤ 24 := hW.2.2.2.1
    have e2 : M.1 (a + 1) 2 = nI (cn S) := (r2 hR.1).trans hW.1
    have e3 : M.1 (a + 1) 3 = nI (pn S) := (r3 hR.1).trans hW.2.2.1
    have k5 := kB (B := a)
    have k1 := kX (EX_now (B := a))
    have k2 := k163 (B := a)
    have hJ0 : J S := hJ.1
    have n24 : S 3 = 24 ↔ pn S = 24 := by rw [hW.2.2.1, show (24 : Int32) = nI 24 from rfl, nI_eq (by omega) (by decide)]
    have no : (okN o 0 15 && okN g 0 15 && okN k 1 999 && okN y 0 1000 && decide (o ≠ g)) = false → QX "java/lang/IllegalArgumentException" M := fun w =>
      cF_thr (k := 1) (ex := exA) (by unfold opGive; rw [w, if_neg (by decide)]) (by decide) hx
    refine ⟨rfl, [], ⟨100, And.intro (fun h1 => ?_) (fun h1 => And.intro (fun h2 => ?_) (fun h2 => And.intro (fun h3 => ?_) (fun h3 => And.intro (fun h4 => ?_) (fun h4 => And.intro (fun h5 => ?_) (fun h5 => ?_)))))⟩, nofun⟩
    · have h1 : okN o 0 15 = false := bi_0.mp h1
      exact no (by rw [h1]; rfl)
    · have h2 : okN g 0 15 = false := bi_0.mp h2
      exact no (by rw [h2, Bool.and_false]; rfl)
    · have h3 : o = g := h3
      exact no (by rw [decide_eq_false (fun w => w h3), Bool.and_false])
    · have h4 : okN k 1 999 = false := bi_0.mp h4
      exact no (by rw [h4, Bool.and_false]; rfl)
    · have h1 : okN o 0 15 = true := bi_n0.mp h1
      have h2 : okN g 0 15 = true := bi_n0.mp h2
      have h3 : ¬ o = g := h3
      have h4 : okN k 1 999 = true := bi_n0.mp h4
      have h5 : okN y 0 1000 = true := bi_n0.mp h5
      have ok : (okN o 0 15 && okN g 0 15 && okN k 1 999 && okN y 0 1000 && decide (o ≠ g)) = true := by rw [h1, h2, h4, h5, decide_eq_true h3]; rfl
      refine And.intro k5 (And.intro k1 (And.intro (fun h6 => ?_) (fun h6 => ?_)))
      · have h6 : M.1 (a + 1) 3 < nI 24 := h6
        rw [e3, n_lt (by omega) (by decide)] at h6
        refine And.intro k5 (And.intro k5 (And.intro k2 (And.intro rfl (And.intro rfl (Exists.intro (6 * t) (Exists.intro S (Exists.intro n (Exists.intro H (And.intro hR.2.1 (And.intro hXS ?_))))))))))
        intro M1 g1 g2 g3
        have hR1 := RC_save hR g1 g2
        refine And.intro k5 (And.intro k1 (Exists.intro (6 * t) (Exists.intro S (And.intro ⟨EX_now, hR1.1, hW⟩ (And.intro h6 ?_)))))
        intro M2 f1 f2
        have z := cF_act (op := opGive o g k y) (r := S 3) (by unfold opGive; rw [if_pos ok, if_neg (by rw [n24]; omega)]) hR g1 g2 g3 f1 f2 hq
        exact z
      · have h6 : ¬ M.1 (a + 1) 3 < nI 24 := h6
        rw [e3, n_lt (by omega) (by decide)] at h6
        have z := cF_thr (k := 2) (by unfold opGive; rw [if_pos ok, if_pos (n24.mpr (by omega))]) (by decide) hx
        exact z
    · have h5 : okN y 0 1000 = false := bi_0.mp h5
      exact no (by rw [h5, Bool.and_false]; rfl)
  · exact h.elim
set_option maxRecDepth 100000 in
theorem wk_X5_setGrace (B : Nat) : fw_Wk B fl_X5 (cal_X5_setGrace B) [thA] cst_X5 (some .int) kX5_setGrace 3 (ct_X5_setGrace B) := by
  intro as M Q QX h
  unfold ct_X5_setGrace at h
  split at h
  · rename_i a x
    obtain ⟨rfl, ⟨S, n, H, tl, tx⟩, hR, hG, hJ, hq, hx⟩ := h
    obtain ⟨t, ht, ht0, hW⟩ := GZ_wf hG
    have hW : WF (6 * t) S := hW
    have ht0 : S 0 = nI t := ht0
    have hXS : XS a M (a + 1) (6 * t) S := ⟨EX_now, hR.1, hW⟩
    have hn6 : cn S ≤ 6 := hW.2.1
    have hm24 : pn S ≤ 24 := hW.2.2.2.1
    have e2 : M.1 (a + 1) 2 = nI (cn S) := (r2 hR.1).trans hW.1
    have e3 : M.1 (a + 1) 3 = nI (pn S) := (r3 hR.1).trans hW.2.2.1
    have k5 := kB (B := a)
    have k1 := kX (EX_now (B := a))
    have k2 := k163 (B := a)
    have hJ0 : J S := hJ.1
    have no : okN x 0 100 = false → QX "java/lang/IllegalArgumentException" M := fun w =>
      cF_thr (k := 1) (ex := exA) (by unfold opGrace; rw [w, if_neg (by decide)]) (by decide) hx
    refine ⟨rfl, [], ⟨100, And.intro (fun h1 => ?_) (fun h1 => And.intro (fun h2 => ?_) (fun h2 => ?_))⟩, nofun⟩
    · exact no (ok_lt h1)
    · have ok : okN x 0 100 = true := ok_in h1 (Int32.not_lt.mpr h2)
      refine And.intro k5 (And.intro k5 (And.intro k2 (And.intro rfl (And.intro rfl (Exists.intro (6 * t) (Exists.intro S (Exists.intro n (Exists.intro H (And.intro hR.2.1 (And.intro hXS ?_))))))))))
      intro M1 g1 g2 g3
      have hR1 := RC_save hR g1 g2
      have ev : M1.1 (a + 1) 1 = S 1 := r1 hR1.1
      have z := cF_act (op := opGrace x) (r := S 1) (S' := upd S 1 x) (M2 := fw_st M1 (a + 1) 1 x) (by unfold opGrace; rw [if_pos ok]) hR g1 g2 g3 (Rep_1 hR1.1) (FX_st (by omega) (by omega)) hq
      rw [← ev] at z
      exact And.intro k5 (And.intro k1 (And.intro k5 (And.intro k1 z)))
    · exact no (ok_gt (Int32.not_le.mp h2))
  · exact h.elim
set_option maxRecDepth 100000 in
theorem wk_X5_drop (B : Nat) : fw_Wk B fl_X5 (cal_X5_drop B) [thI] cst_X5 (some .int) kX5_drop 4 (ct_X5_drop B) := by
  intro as M Q QX h
  unfold ct_X5_drop at h
  split at h
  · rename_i a c
    obtain ⟨rfl, ⟨S, n, H, tl, tx⟩, hR, hG, hJ, hq, hx⟩ := h
    obtain ⟨t, ht, ht0, hW⟩ := GZ_wf hG
    have hW : WF (6 * t) S := hW
    have ht0 : S 0 = nI t := ht0
    have hXS : XS a M (a + 1) (6 * t) S := ⟨EX_now, hR.1, hW⟩
    have hn6 : cn S ≤ 6 := hW.2.1
    have hm24 : pn S ≤ 24 := hW.2.2.2.1
    have e2 : M.1 (a + 1) 2 = nI (cn S) := (r2 hR.1).trans hW.1
    have e3 : M.1 (a + 1) 3 = nI (pn S) := (r3 hR.1).trans hW.2.2.1
    have k5 := kB (B := a)
    have k1 := kX (EX_now (B := a))
    have k2 := k163 (B := a)
    have hJ0 : J S := hJ.1
    rcases cr_dec hW c with ⟨k, hk, rfl, hc, ec⟩ | ⟨hc, hno⟩
    · have kc := kC (EX_now (B := a)) (show k < 6 by omega)
      refine ⟨rfl, [], ⟨100, And.intro k5 (And.intro k1 (And.intro EX_now (Exists.intro (cn S) (And.intro hn6 (And.intro e2 (Or.inl (Exists.intro k (And.intro hk (And.intro rfl ?_)))))))))⟩, nofun⟩
      refine And.intro k5 (And.intro k5 (And.intro k2 (And.intro rfl (And.intro rfl (Exists.intro (6 * t) (Exists.intro S (Exists.intro n (Exists.intro H (And.intro hR.2.1 (And.intro hXS ?_))))))))))
      intro M1 g1 g2 g3
      have hR1 := RC_save hR g1 g2
      have ev : M1.1 (a + 1 + 3 + k) 4 = sC S k 4 := by rw [g2 _ (Or.inl (by omega))]; exact rC hR.1 hk (by decide)
      refine And.intro kc (And.intro k5 (And.intro k1 (Exists.intro (6 * t) (Exists.intro S (Exists.intro k (And.intro ⟨EX_now, hR1.1, hW⟩ (And.intro hJ0 (And.intro hk (And.intro rfl ?_)))))))))
      intro M2 f1 f2
      have z := cF_act (op := opDrop (nI k)) (r := sC S k 4) (by unfold opDrop; rw [if_pos hc, ec]) hR g1 g2 g3 f1 f2 hq
      rw [← ev] at z
      exact z
    · refine ⟨rfl, [], ⟨100, And.intro k5 (And.intro k1 (And.intro EX_now (Exists.intro (cn S) (And.intro hn6 (And.intro e2 (Or.inr (And.intro hno ?_)))))))⟩, nofun⟩
      have z := cF_thr (k := 1) (by unfold opDrop; rw [hc, if_neg (by decide)]) (by decide) hx
      exact z
  · exact h.elim
set_option maxRecDepth 100000 in
theorem wk_X5_run (B : Nat) : fw_Wk B fl_X5 (cal_X5_run B) [thA, thS] cst_X5 (some .int) kX5_run 3 (ct_X5_run B) := by
  intro as M Q QX h
  unfold ct_X5_run at h
  split at h
  · rename_i a x
    obtain ⟨rfl, ⟨S, n, H, tl, tx⟩, hR, hG, hJ, hq, hx⟩ := h
    obtain ⟨t, ht, ht0, hW⟩ := GZ_wf hG
    have hW : WF (6 * t) S := hW
    have ht0 : S 0 = nI t := ht0
    have hXS : XS a M (a + 1) (6 * t) S := ⟨EX_now, hR.1, hW⟩
    have hn6 : cn S ≤ 6 := hW.2.1
    have hm24 : pn S ≤ 24 := hW.2.2.2.1
    have e2 : M.1 (a + 1) 2 = nI (cn S) := (r2 hR.1).trans hW.1
    have e3 : M.1 (a + 1) 3 = nI (pn S) := (r3 hR.1).trans hW.2.2.1
    have k5 := kB (B := a)
    have k1 := kX (EX_now (B := a))
    have k2 := k163 (B := a)
    have hJ0 : J S := hJ.1
    refine ⟨rfl, [], ⟨100, And.intro (fun h1 => ?_) (fun h1 => ?_)⟩, nofun⟩
    · have h1 : okN x 0 200 = true := bi_n0.mp h1
      obtain ⟨i, -, hi, rfl, ei⟩ := ok_n (a := 0) (b := 200) (by decide) (by decide) h1
      have e0 : M.1 (a + 1) 0 + nI i = nI (t + i) := by rw [r0 hR.1]; show S 0 + nI i = _; rw [ht0, n_add]
      refine And.intro k5 (And.intro k1 (And.intro (fun h2 => ?_) (fun h2 => ?_)))
      · have h2 : M.1 (a + 1) 0 + nI i ≤ nI 2000 := h2
        rw [e0, n_ge (by omega) (by decide)] at h2
        have hc2 : ¬ (2000 : Int32) < S 0 + nI i := by rw [ht0, n_add, show (2000 : Int32) = nI 2000 from rfl, n_lt (by decide) (by omega)]; omega
        refine And.intro k5 (And.intro k5 (And.intro k2 (And.intro rfl (And.intro rfl (Exists.intro (6 * t) (Exists.intro S (Exists.intro n (Exists.intro H (And.intro hR.2.1 (And.intro hXS ?_))))))))))
        intro M1 g1 g2 g3
        have hR1 := RC_save hR g1 g2
        obtain ⟨-, -, hz⟩ : True ∧ True ∧ ∀ k, 517 ≤ k → S k = 0 := ⟨trivial, trivial, by obtain ⟨_, -, -, -, z⟩ := hG.1; exact z⟩
        obtain ⟨t2, ht2, hW2⟩ := GS_wf (GS_tkN (n := i) hW ht0 hz h2)
        have en : pn (tkN S i) = pn S := pn_eq (tkN_lo (by decide) (by decide) i)
        refine And.intro k5 (And.intro k1 (Exists.intro (6 * t) (Exists.intro S (And.intro ⟨EX_now, hR1.1, hW⟩ (And.intro k5 (And.intro k1 (Exists.intro (6 * t) (Exists.intro S (Exists.intro i (And.intro (by omega) (And.intro rfl (And.intro ⟨EX_now, hR1.1, hW⟩ (And.intro hJ0 ?_)))))))))))))
        intro M2 f1 f2
        refine And.intro k5 (And.intro k1 (Exists.intro (6 * t2) (Exists.intro (tkN S i) (And.intro ⟨EX_now, f1, hW2⟩ ?_))))
        have z := cF_act (op := opRun (nI i)) (r := inSt (tkN S i) 2 (pn (tkN S i)) - inSt S 2 (pn S)) (by unfold opRun; rw [if_pos h1, if_neg (show ¬ (2000 : Int32) < (S, n, H, tl, tx).1 0 + nI i from hc2), ei, en]) hR g1 g2 g3 f1 f2 hq
        exact z
      · have h2 : ¬ M.1 (a + 1) 0 + nI i ≤ nI 2000 := h2
        rw [e0, n_ge (by omega) (by decide)] at h2
        have hc2 : (2000 : Int32) < S 0 + nI i := by rw [ht0, n_add, show (2000 : Int32) = nI 2000 from rfl, n_lt (by decide) (by omega)]; omega
        have z := cF_thr (k := 2) (by unfold opRun; rw [if_pos h1, if_pos (show (2000 : Int32) < (S, n, H, tl, tx).1 0 + nI i from hc2)]) (by decide) hx
        exact z
    · have h1 : okN x 0 200 = false := bi_0.mp h1
      have z := cF_thr (k := 1) (by unfold opRun; rw [h1, if_neg (by decide)]) (by decide) hx
      exact z
  · exact h.elim
end WF1
end
section
/-! THE FACE WALKED: the calls that tell -/
section WF2
set_option maxRecDepth 100000 in
theorem wk_X5_value (B : Nat) : fw_Wk B fl_X5 (cal_X5_value B) [thA] cst_X5 (some .int) kX5_value 2 (ct_X5_value B) := by
  intro as M Q QX h
  unfold ct_X5_value at h
  split at h
  · rename_i a x
    obtain ⟨rfl, ⟨S, n, H, tl, tx⟩, hR, hG, hJ, hq, hx⟩ := h
    obtain ⟨t, ht, ht0, hW⟩ := GZ_wf hG
    have hW : WF (6 * t) S := hW
    have ht0 : S 0 = nI t := ht0
    have hXS : XS a M (a + 1) (6 * t) S := ⟨EX_now, hR.1, hW⟩
    have hn6 : cn S ≤ 6 := hW.2.1
    have hm24 : pn S ≤ 24 := hW.2.2.2.1
    have e2 : M.1 (a + 1) 2 = nI (cn S) := (r2 hR.1).trans hW.1
    have e3 : M.1 (a + 1) 3 = nI (pn S) := (r3 hR.1).trans hW.2.2.1
    have k5 := kB (B := a)
    have k1 := kX (EX_now (B := a))
    have k2 := k163 (B := a)
    have hJ0 : J S := hJ.1
    have no : okN x 0 10 = false → QX "java/lang/IllegalArgumentException" M := fun w =>
      cF_thr (k := 1) (ex := exA) (by unfold opValue; rw [w, if_neg (by decide)]) (by decide) hx
    refine ⟨rfl, [], ⟨100, And.intro (fun h1 => ?_) (fun h1 => And.intro (fun h2 => ?_) (fun h2 => ?_))⟩, nofun⟩
    · exact no (ok_lt h1)
    · have ok : okN x 0 10 = true := ok_in h1 (Int32.not_lt.mpr h2)
      obtain ⟨w, -, hw, rfl, ew⟩ := ok_n (a := 0) (b := 10) (by decide) (by decide) ok
      have z := cF_tell (op := opValue (nI w)) (r := valS S w) (M' := M) (by unfold opValue; rw [if_pos ok, ew]) hR FC_id hq
      exact And.intro k5 (And.intro k1 (Exists.intro (6 * t) (Exists.intro S (Exists.intro w (And.intro hXS (And.intro hw (And.intro rfl z)))))))
    · exact no (ok_gt (Int32.not_le.mp h2))
  · exact h.elim
set_option maxRecDepth 100000 in
theorem wk_X5_courier (B : Nat) : fw_Wk B fl_X5 (cal_X5_courier B) [thI, thA] cst_X5 (some .int) kX5_courier 4 (ct_X5_courier B) := by
  intro as M Q QX h
  unfold ct_X5_courier at h
  split at h
  · rename_i a c x
    obtain ⟨rfl, ⟨S, n, H, tl, tx⟩, hR, hG, hJ, hq, hx⟩ := h
    obtain ⟨t, ht, ht0, hW⟩ := GZ_wf hG
    have hW : WF (6 * t) S := hW
    have ht0 : S 0 = nI t := ht0
    have hXS : XS a M (a + 1) (6 * t) S := ⟨EX_now, hR.1, hW⟩
    have hn6 : cn S ≤ 6 := hW.2.1
    have hm24 : pn S ≤ 24 := hW.2.2.2.1
    have e2 : M.1 (a + 1) 2 = nI (cn S) := (r2 hR.1).trans hW.1
    have e3 : M.1 (a + 1) 3 = nI (pn S) := (r3 hR.1).trans hW.2.2.1
    have k5 := kB (B := a)
    have k1 := kX (EX_now (B := a))
    have k2 := k163 (B := a)
    have hJ0 : J S := hJ.1
    rcases cr_dec hW c with ⟨k, hk, rfl, hc, ec⟩ | ⟨hc, hno⟩
    · have no : okN x 0 5 = false → QX "java/lang/IllegalArgumentException" M := fun w =>
        cF_thr (k := 2) (ex := exB) (by unfold opCourier; rw [if_pos hc, w, if_neg (by decide)]) (by decide) hx
      refine ⟨rfl, [], ⟨100, And.intro k5 (And.intro k1 (And.intro EX_now (Exists.intro (cn S) (And.intro hn6 (And.intro e2 (Or.inl (Exists.intro k (And.intro hk (And.intro rfl ?_)))))))))⟩, nofun⟩
      refine And.intro (fun h1 => ?_) (fun h1 => And.intro (fun h2 => ?_) (fun h2 => ?_))
      · exact no (ok_lt h1)
      · have ok : okN x 0 5 = true := ok_in h1 (Int32.not_lt.mpr h2)
        obtain ⟨w, -, hw, rfl, ew⟩ := ok_n (a := 0) (b := 5) (by decide) (by decide) ok
        have z := cF_tell (op := opCourier (nI k) (nI w)) (r := crS S k w) (M' := M) (by unfold opCourier; rw [if_pos hc, if_pos ok, ew, ec]) hR FC_id hq
        exact And.intro k5 (And.intro k1 (Exists.intro (6 * t) (Exists.intro S (Exists.intro k (Exists.intro w (And.intro hXS (And.intro hk (And.intro hw (And.intro rfl (And.intro rfl (And.intro rfl z)))))))))))
      · exact no (ok_gt (Int32.not_le.mp h2))
    · refine ⟨rfl, [], ⟨100, And.intro k5 (And.intro k1 (And.intro EX_now (Exists.intro (cn S) (And.intro hn6 (And.intro e2 (Or.inr (And.intro hno ?_)))))))⟩, nofun⟩
      have z := cF_thr (k := 1) (by unfold opCourier; rw [hc, if_neg (by decide)]) (by decide) hx
      exact z
  · exact h.elim
set_option maxRecDepth 100000 in
theorem wk_X5_parcel (B : Nat) : fw_Wk B fl_X5 (cal_X5_parcel B) [thI, thA] cst_X5 (some .int) kX5_parcel 4 (ct_X5_parcel B) := by
  intro as M Q QX h
  unfold ct_X5_parcel at h
  split at h
  · rename_i a p x
    obtain ⟨rfl, ⟨S, n, H, tl, tx⟩, hR, hG, hJ, hq, hx⟩ := h
    obtain ⟨t, ht, ht0, hW⟩ := GZ_wf hG
    have hW : WF (6 * t) S := hW
    have ht0 : S 0 = nI t := ht0
    have hXS : XS a M (a + 1) (6 * t) S := ⟨EX_now, hR.1, hW⟩
    have hn6 : cn S ≤ 6 := hW.2.1
    have hm24 : pn S ≤ 24 := hW.2.2.2.1
    have e2 : M.1 (a + 1) 2 = nI (cn S) := (r2 hR.1).trans hW.1
    have e3 : M.1 (a + 1) 3 = nI (pn S) := (r3 hR.1).trans hW.2.2.1
    have k5 := kB (B := a)
    have k1 := kX (EX_now (B := a))
    have k2 := k163 (B := a)
    have hJ0 : J S := hJ.1
    rcases pc_dec hW p with ⟨k, hk, rfl, hc, ec⟩ | ⟨hc, hno⟩
    · have no : okN x 0 8 = false → QX "java/lang/IllegalArgumentException" M := fun w =>
        cF_thr (k := 2) (ex := exB) (by unfold opParcel; rw [if_pos hc, w, if_neg (by decide)]) (by decide) hx
      have k24 : k < 24 := by omega
      refine ⟨rfl, [], ⟨100, And.intro k5 (And.intro k1 (And.intro EX_now (Exists.intro (pn S) (And.intro hm24 (And.intro e3 (Or.inl (Exists.intro k (And.intro hk (And.intro rfl ?_)))))))))⟩, nofun⟩
      refine And.intro (fun h1 => ?_) (fun h1 => And.intro (fun h2 => ?_) (fun h2 => ?_))
      · exact no (ok_lt h1)
      · have ok : okN x 0 8 = true := ok_in h1 (Int32.not_lt.mpr h2)
        obtain ⟨w, -, hw, rfl, ew⟩ := ok_n (a := 0) (b := 8) (by decide) (by decide) ok
        have ev : (if w < 8 then M.1 (a + 1 + 9 + 3 * k) w else rsum (M.1 (a + 1 + 9 + 3 * k + 1)) 6) = paS S k w := by
          unfold paS
          by_cases e : w < 8
          · rw [if_pos e, if_pos e]; exact rP hR.1 hk e
          · rw [if_neg e, if_neg e]; exact rsum_l (fun c hc => rL hR.1 hk hc) 6 (Nat.le_refl 6)
        have z := cF_tell (op := opParcel (nI k) (nI w)) (r := paS S k w) (M' := M) (by unfold opParcel; rw [if_pos hc, if_pos ok, ew, ec]) hR FC_id hq
        rw [← ev] at z
        exact And.intro (kP EX_now k24) (And.intro (PK_of EX_now k24) (Exists.intro w (And.intro hw (And.intro rfl z))))
      · exact no (ok_gt (Int32.not_le.mp h2))
    · refine ⟨rfl, [], ⟨100, And.intro k5 (And.intro k1 (And.intro EX_now (Exists.intro (pn S) (And.intro hm24 (And.intro e3 (Or.inr (And.intro hno ?_)))))))⟩, nofun⟩
      have z := cF_thr (k := 1) (by unfold opParcel; rw [hc, if_neg (by decide)]) (by decide) hx
      exact z
  · exact h.elim
set_option maxRecDepth 100000 in
theorem wk_X5_legs (B : Nat) : fw_Wk B fl_X5 (cal_X5_legs B) [thI] cst_X5 (some .int) kX5_legs 5 (ct_X5_legs B) := by
  intro as M Q QX h
  unfold ct_X5_legs at h
  split at h
  · rename_i a p c s
    obtain ⟨rfl, ⟨S, n, H, tl, tx⟩, hR, hG, hJ, hq, hx⟩ := h
    obtain ⟨t, ht, ht0, hW⟩ := GZ_wf hG
    have hW : WF (6 * t) S := hW
    have ht0 : S 0 = nI t := ht0
    have hXS : XS a M (a + 1) (6 * t) S := ⟨EX_now, hR.1, hW⟩
    have hn6 : cn S ≤ 6 := hW.2.1
    have hm24 : pn S ≤ 24 := hW.2.2.2.1
    have e2 : M.1 (a + 1) 2 = nI (cn S) := (r2 hR.1).trans hW.1
    have e3 : M.1 (a + 1) 3 = nI (pn S) := (r3 hR.1).trans hW.2.2.1
    have k5 := kB (B := a)
    have k1 := kX (EX_now (B := a))
    have k2 := k163 (B := a)
    have hJ0 : J S := hJ.1
    rcases pc_dec hW p with ⟨j, hj, rfl, hp, ep⟩ | ⟨hp, hno⟩
    · have j24 : j < 24 := by omega
      rcases cr_dec hW c with ⟨k, hk, rfl, hc, ec⟩ | ⟨hc, hno⟩
      · refine ⟨rfl, [], ⟨100, And.intro k5 (And.intro k1 (And.intro EX_now (Exists.intro (pn S) (And.intro hm24 (And.intro e3 (Or.inl (Exists.intro j (And.intro hj (And.intro rfl ?_)))))))))⟩, nofun⟩
        refine And.intro k5 (And.intro k1 (And.intro EX_now (Exists.intro (cn S) (And.intro hn6 (And.intro e2 (Or.inl (Exists.intro k (And.intro hk (And.intro rfl ?_)))))))))
        have ok : (isPc S (nI j) && isCr S (nI k)) = true := by rw [hp, hc]; rfl
        refine And.intro (fun h1 => ?_) (fun h1 => ?_)
        · have h1 : s = 0 := h1
          have ev : M.1 (a + 1 + 9 + 3 * j + 1) k = sP S j (8 + k) := rL hR.1 hj (by omega)
          have z := cF_tell (op := opLegs (nI j) (nI k) s) (r := sP S j (8 + k)) (M' := M) (by unfold opLegs; rw [if_pos ok, if_pos h1, ec, ep]) hR FC_id hq
          rw [← ev] at z
          exact And.intro (kP EX_now j24) (And.intro (PK_of EX_now j24) (Exists.intro k (And.intro (by omega) (And.intro rfl z))))
        · have h1 : ¬ s = 0 := h1
          have ev : M.1 (a + 1 + 9 + 3 * j + 2) k = sP S j (14 + k) := rS hR.1 hj (by omega)
          have z := cF_tell (op := opLegs (nI j) (nI k) s) (r := sP S j (14 + k)) (M' := M) (by unfold opLegs; rw [if_pos ok, if_neg h1, ec, ep]) hR FC_id hq
          rw [← ev] at z
          exact And.intro (kP EX_now j24) (And.intro (PK_of EX_now j24) (Exists.intro k (And.intro (by omega) (And.intro rfl z))))
      · refine ⟨rfl, [], ⟨100, And.intro k5 (And.intro k1 (And.intro EX_now (Exists.intro (pn S) (And.intro hm24 (And.intro e3 (Or.inl (Exists.intro j (And.intro hj (And.intro rfl ?_)))))))))⟩, nofun⟩
        refine And.intro k5 (And.intro k1 (And.intro EX_now (Exists.intro (cn S) (And.intro hn6 (And.intro e2 (Or.inr (And.intro hno ?_)))))))
        have z := cF_thr (k := 1) (by unfold opLegs; rw [hc, Bool.and_false, if_neg (by decide)]) (by decide) hx
        exact z
    · refine ⟨rfl, [], ⟨100, And.intro k5 (And.intro k1 (And.intro EX_now (Exists.intro (pn S) (And.intro hm24 (And.intro e3 (Or.inr (And.intro hno ?_)))))))⟩, nofun⟩
      have z := cF_thr (k := 1) (by unfold opLegs; rw [hp, Bool.false_and, if_neg (by decide)]) (by decide) hx
      exact z
  · exact h.elim
def absI (x : Int32) : Int32 := if 0 ≤ x then x else 0 - x
theorem dist_c : ∀ i, i < 16 → ∀ j, j < 16 → absI (nI i / 4 - nI j / 4) + absI ((nI i - nI i / 4 * 4) - (nI j - nI j / 4 * 4)) = dist (nI i) (nI j) := by decide +kernel
set_option maxRecDepth 100000 in
theorem wk_X5_distance (B : Nat) : fw_Wk B fl_X5 (cal_X5_distance B) [thI] cst_X5 (some .int) kX5_distance 3 (ct_X5_distance B) := by
  intro as M Q QX h
  unfold ct_X5_distance at h
  split at h
  · rename_i a x y
    obtain ⟨rfl, ⟨S, n, H, tl, tx⟩, hR, hG, hJ, hq, hx⟩ := h
    obtain ⟨t, ht, ht0, hW⟩ := GZ_wf hG
    have hW : WF (6 * t) S := hW
    have ht0 : S 0 = nI t := ht0
    have hXS : XS a M (a + 1) (6 * t) S := ⟨EX_now, hR.1, hW⟩
    have hn6 : cn S ≤ 6 := hW.2.1
    have hm24 : pn S ≤ 24 := hW.2.2.2.1
    have e2 : M.1 (a + 1) 2 = nI (cn S) := (r2 hR.1).trans hW.1
    have e3 : M.1 (a + 1) 3 = nI (pn S) := (r3 hR.1).trans hW.2.2.1
    have k5 := kB (B := a)
    have k1 := kX (EX_now (B := a))
    have k2 := k163 (B := a)
    have hJ0 : J S := hJ.1
    have no : (okN x 0 15 && okN y 0 15) = false → QX "java/lang/IndexOutOfBoundsException" M := fun w =>
      cF_thr (k := 1) (ex := exB) (by unfold opDist; rw [w, if_neg (by decide)]) (by decide) hx
    refine ⟨rfl, [], ⟨100, And.intro (fun h1 => ?_) (fun h1 => And.intro (fun h2 => ?_) (fun h2 => ?_))⟩, nofun⟩
    · have h1 : okN x 0 15 = false := bi_0.mp h1
      exact no (by rw [h1]; rfl)
    · have h1 : okN x 0 15 = true := bi_n0.mp h1
      have h2 : okN y 0 15 = true := bi_n0.mp h2
      obtain ⟨i, -, hi, rfl, -⟩ := ok_n (a := 0) (b := 15) (by decide) (by decide) h1
      obtain ⟨j, -, hj, rfl, -⟩ := ok_n (a := 0) (b := 15) (by decide) (by decide) h2
      have z := cF_tell (op := opDist (nI i) (nI j)) (r := dist (nI i) (nI j)) (M' := M) (by unfold opDist; rw [h1, h2, if_pos (show (true && true) = true from rfl)]) hR FC_id hq
      rw [← dist_c i (by omega) j (by omega)] at z
      exact And.intro n4s (And.intro n4s (And.intro n4s (And.intro n4s z)))
    · have h2 : okN y 0 15 = false := bi_0.mp h2
      exact no (by rw [h2, Bool.and_false])
  · exact h.elim
end WF2
end
section
/-! THE THREE THROWS of the class -/
section TH
theorem thr_in {L : List Cond} (h : ∀ w ∈ L.filter goodWord, w ∈ lw_tbl) : ∀ w ∈ L.filter goodWord, w ∈ fw_LW := fun w hw => List.mem_filter.mpr ⟨h w hw, (List.mem_filter.mp hw).2⟩
theorem fw_thr40 {l : Launch} {g : fw_G} {B : Nat} {R : Room} {mc ms : Nat} (htr : l.stackTraces = false) (hRf : 5 < R.frames) (hRl : 81 ≤ R.locals) (hRc : 1 ≤ R.cells) (hRs : 6 ≤ R.slots) (hmc : 1 ≤ mc) (hms : 6 ≤ ms) : fw_ThrX l g B RX5 R mc ms (40, "java/lang/IllegalArgumentException") :=
  fw_thrX htr (by decide +kernel) wq_X5_40 wz_IllegalArgumentException (thr_in (by decide +kernel)) (by decide +kernel) (by decide +kernel) hRf hRl hRc hRs hmc hms
theorem fw_thr47 {l : Launch} {g : fw_G} {B : Nat} {R : Room} {mc ms : Nat} (htr : l.stackTraces = false) (hRf : 5 < R.frames) (hRl : 81 ≤ R.locals) (hRc : 1 ≤ R.cells) (hRs : 6 ≤ R.slots) (hmc : 1 ≤ mc) (hms : 6 ≤ ms) : fw_ThrX l g B RX5 R mc ms (47, "java/lang/IllegalStateException") :=
  fw_thrX htr (by decide +kernel) wq_X5_47 wz_IllegalStateException (thr_in (by decide +kernel)) (by decide +kernel) (by decide +kernel) hRf hRl hRc hRs hmc hms
theorem fw_thr62 {l : Launch} {g : fw_G} {B : Nat} {R : Room} {mc ms : Nat} (htr : l.stackTraces = false) (hRf : 5 < R.frames) (hRl : 81 ≤ R.locals) (hRc : 1 ≤ R.cells) (hRs : 6 ≤ R.slots) (hmc : 1 ≤ mc) (hms : 6 ≤ ms) : fw_ThrX l g B RX5 R mc ms (62, "java/lang/IndexOutOfBoundsException") :=
  fw_thrX htr (by decide +kernel) wq_X5_62 wz_IndexOutOfBoundsException (thr_in (by decide +kernel)) (by decide +kernel) (by decide +kernel) hRf hRl hRc hRs hmc hms
end TH
end
section
/-! contracts out of walks (printed by program) -/
section
abbrev rm_X5_addCourier : Room := { frames := 6, cells := 1, slots := 6, locals := 148 }
theorem me_X5_addCourier (l : Launch) (g : fw_G) (B : Nat) (htr : l.stackTraces = false) : fw_Met l g B yX5_addCourier cX5_addCourier 3 (some .int) rm_X5_addCourier 1 6 (ct_X5_addCourier B) := by
  refine fw_met (own := RX5) (by decide +kernel) rfl kX5_addCourier_ok kX5_addCourier_cst fl_X5_ok ?_ ?_ (wk_X5_addCourier B)
  · intro q hq
    simp only [cal_X5_addCourier, List.mem_cons, List.not_mem_nil, or_false] at hq
    rcases hq with rfl | rfl | rfl | rfl
    · exact fw_calS (me_X5_isArea l g B) wl_X5_33 ws_X5_isArea wz_RX5 wc_X5_isArea rfl rfl (by decide +kernel) ⟨by decide, by decide⟩
    · exact fw_calS (me_X5_isZone l g B) wl_X5_37 ws_X5_isZone wz_RX5 wc_X5_isZone rfl rfl (by decide +kernel) ⟨by decide, by decide⟩
    · exact fw_calV (ci := 2) (me_X2_save l g B) (by decide) wl_X5_50 wi_X2_save wv_X2_save wz_RX2 wc_X2_save rfl rfl (by decide +kernel) ⟨by decide, by decide⟩
    · exact fw_calV (ci := 1) (me_X1_join l g B) (by decide) wl_X5_54 wi_X1_join wv_X1_join wz_RX1 wc_X1_join rfl rfl (by decide +kernel) ⟨by decide, by decide⟩
  · intro q hq
    simp only [List.mem_cons, List.not_mem_nil, or_false] at hq
    rcases hq with rfl | rfl
    · exact fw_thr40 htr (by decide) (by decide) (by decide) (by decide) (by decide) (by decide)
    · exact fw_thr47 htr (by decide) (by decide) (by decide) (by decide) (by decide) (by decide)
abbrev rm_X5_setArea : Room := { frames := 6, cells := 1, slots := 6, locals := 148 }
theorem me_X5_setArea (l : Launch) (g : fw_G) (B : Nat) (htr : l.stackTraces = false) : fw_Met l g B yX5_setArea cX5_setArea 5 (some .int) rm_X5_setArea 1 6 (ct_X5_setArea B) := by
  refine fw_met (own := RX5) (by decide +kernel) rfl kX5_setArea_ok kX5_setArea_cst fl_X5_ok ?_ ?_ (wk_X5_setArea B)
  · intro q hq
    simp only [cal_X5_setArea, List.mem_cons, List.not_mem_nil, or_false] at hq
    rcases hq with rfl | rfl | rfl
    · exact fw_calV (ci := 1) (me_X1_courierAt l g B) (by decide) wl_X5_58 wi_X1_courierAt wv_X1_courierAt wz_RX1 wc_X1_courierAt rfl rfl (by decide +kernel) ⟨by decide, by decide⟩
    · exact fw_calS (me_X5_isArea l g B) wl_X5_33 ws_X5_isArea wz_RX5 wc_X5_isArea rfl rfl (by decide +kernel) ⟨by decide, by decide⟩
    · exact fw_calV (ci := 2) (me_X2_save l g B) (by decide) wl_X5_50 wi_X2_save wv_X2_save wz_RX2 wc_X2_save rfl rfl (by decide +kernel) ⟨by decide, by decide⟩
  · intro q hq
    simp only [List.mem_cons, List.not_mem_nil, or_false] at hq
    rcases hq with rfl | rfl
    · exact fw_thr62 htr (by decide) (by decide) (by decide) (by decide) (by decide) (by decide)
    · exact fw_thr40 htr (by decide) (by decide) (by decide) (by decide) (by decide) (by decide)
abbrev rm_X5_give : Room := { frames := 6, cells := 1, slots := 6, locals := 148 }
theorem me_X5_give (l : Launch) (g : fw_G) (B : Nat) (htr : l.stackTraces = false) : fw_Met l g B yX5_give cX5_give 5 (some .int) rm_X5_give 1 6 (ct_X5_give B) := by
  refine fw_met (own := RX5) (by decide +kernel) rfl kX5_give_ok kX5_give_cst fl_X5_ok ?_ ?_ (wk_X5_give B)
  · intro q hq
    simp only [cal_X5_give, List.mem_cons, List.not_mem_nil, or_false] at hq
    rcases hq with rfl | rfl | rfl | rfl | rfl
    · exact fw_calS (me_X5_isZone l g B) wl_X5_37 ws_X5_isZone wz_RX5 wc_X5_isZone rfl rfl (by decide +kernel) ⟨by decide, by decide⟩
    · exact fw_calS (me_X5_isCutOff l g B) wl_X5_70 ws_X5_isCutOff wz_RX5 wc_X5_isCutOff rfl rfl (by decide +kernel) ⟨by decide, by decide⟩
    · exact fw_calS (me_X5_isTip l g B) wl_X5_73 ws_X5_isTip wz_RX5 wc_X5_isTip rfl rfl (by decide +kernel) ⟨by decide, by decide⟩
    · exact fw_calV (ci := 2) (me_X2_save l g B) (by decide) wl_X5_50 wi_X2_save wv_X2_save wz_RX2 wc_X2_save rfl rfl (by decide +kernel) ⟨by decide, by decide⟩
    · exact fw_calV (ci := 1) (me_X1_accept l g B) (by decide) wl_X5_79 wi_X1_accept wv_X1_accept wz_RX1 wc_X1_accept rfl rfl (by decide +kernel) ⟨by decide, by decide⟩
  · intro q hq
    simp only [List.mem_cons, List.not_mem_nil, or_false] at hq
    rcases hq with rfl | rfl
    · exact fw_thr40 htr (by decide) (by decide) (by decide) (by decide) (by decide) (by decide)
    · exact fw_thr47 htr (by decide) (by decide) (by decide) (by decide) (by decide) (by decide)
abbrev rm_X5_setGrace : Room := { frames := 6, cells := 1, slots := 6, locals := 148 }
theorem me_X5_setGrace (l : Launch) (g : fw_G) (B : Nat) (htr : l.stackTraces = false) : fw_Met l g B yX5_setGrace cX5_setGrace 3 (some .int) rm_X5_setGrace 1 6 (ct_X5_setGrace B) := by
  refine fw_met (own := RX5) (by decide +kernel) rfl kX5_setGrace_ok kX5_setGrace_cst fl_X5_ok ?_ ?_ (wk_X5_setGrace B)
  · intro q hq
    simp only [cal_X5_setGrace, List.mem_cons, List.not_mem_nil, or_false] at hq
    rcases hq with rfl
    · exact fw_calV (ci := 2) (me_X2_save l g B) (by decide) wl_X5_50 wi_X2_save wv_X2_save wz_RX2 wc_X2_save rfl rfl (by decide +kernel) ⟨by decide, by decide⟩
  · intro q hq
    simp only [List.mem_cons, List.not_mem_nil, or_false] at hq
    rcases hq with rfl
    · exact fw_thr40 htr (by decide) (by decide) (by decide) (by decide) (by decide) (by decide)
abbrev rm_X5_drop : Room := { frames := 6, cells := 1, slots := 6, locals := 148 }
theorem me_X5_drop (l : Launch) (g : fw_G) (B : Nat) (htr : l.stackTraces = false) : fw_Met l g B yX5_drop cX5_drop 4 (some .int) rm_X5_drop 1 6 (ct_X5_drop B) := by
  refine fw_met (own := RX5) (by decide +kernel) rfl kX5_drop_ok kX5_drop_cst fl_X5_ok ?_ ?_ (wk_X5_drop B)
  · intro q hq
    simp only [cal_X5_drop, List.mem_cons, List.not_mem_nil, or_false] at hq
    rcases hq with rfl | rfl | rfl
    · exact fw_calV (ci := 1) (me_X1_courierAt l g B) (by decide) wl_X5_58 wi_X1_courierAt wv_X1_courierAt wz_RX1 wc_X1_courierAt rfl rfl (by decide +kernel) ⟨by decide, by decide⟩
    · exact fw_calV (ci := 2) (me_X2_save l g B) (by decide) wl_X5_50 wi_X2_save wv_X2_save wz_RX2 wc_X2_save rfl rfl (by decide +kernel) ⟨by decide, by decide⟩
    · exact fw_calV (ci := 1) (me_X1_release l g B) (by decide) wl_X5_89 wi_X1_release wv_X1_release wz_RX1 wc_X1_release rfl rfl (by decide +kernel) ⟨by decide, by decide⟩
  · intro q hq
    simp only [List.mem_cons, List.not_mem_nil, or_false] at hq
    rcases hq with rfl
    · exact fw_thr62 htr (by decide) (by decide) (by decide) (by decide) (by decide) (by decide)
abbrev rm_X5_run : Room := { frames := 6, cells := 1, slots := 6, locals := 148 }
theorem me_X5_run (l : Launch) (g : fw_G) (B : Nat) (htr : l.stackTraces = false) : fw_Met l g B yX5_run cX5_run 3 (some .int) rm_X5_run 1 6 (ct_X5_run B) := by
  refine fw_met (own := RX5) (by decide +kernel) rfl kX5_run_ok kX5_run_cst fl_X5_ok ?_ ?_ (wk_X5_run B)
  · intro q hq
    simp only [cal_X5_run, List.mem_cons, List.not_mem_nil, or_false] at hq
    rcases hq with rfl | rfl | rfl | rfl
    · exact fw_calS (me_X5_isTicks l g B) wl_X5_93 ws_X5_isTicks wz_RX5 wc_X5_isTicks rfl rfl (by decide +kernel) ⟨by decide, by decide⟩
    · exact fw_calV (ci := 2) (me_X2_save l g B) (by decide) wl_X5_50 wi_X2_save wv_X2_save wz_RX2 wc_X2_save rfl rfl (by decide +kernel) ⟨by decide, by decide⟩
    · exact fw_calV (ci := 1) (me_X1_parcelsIn l g B) (by decide) wl_X5_99 wi_X1_parcelsIn wv_X1_parcelsIn wz_RX1 wc_X1_parcelsIn rfl rfl (by decide +kernel) ⟨by decide, by decide⟩
    · exact fw_calV (ci := 1) (me_X1_pass l g B) (by decide) wl_X5_103 wi_X1_pass wv_X1_pass wz_RX1 wc_X1_pass rfl rfl (by decide +kernel) ⟨by decide, by decide⟩
  · intro q hq
    simp only [List.mem_cons, List.not_mem_nil, or_false] at hq
    rcases hq with rfl | rfl
    · exact fw_thr40 htr (by decide) (by decide) (by decide) (by decide) (by decide) (by decide)
    · exact fw_thr47 htr (by decide) (by decide) (by decide) (by decide) (by decide) (by decide)
abbrev rm_X5_value : Room := { frames := 6, cells := 1, slots := 6, locals := 81 }
theorem me_X5_value (l : Launch) (g : fw_G) (B : Nat) (htr : l.stackTraces = false) : fw_Met l g B yX5_value cX5_value 2 (some .int) rm_X5_value 1 6 (ct_X5_value B) := by
  refine fw_met (own := RX5) (by decide +kernel) rfl kX5_value_ok kX5_value_cst fl_X5_ok ?_ ?_ (wk_X5_value B)
  · intro q hq
    simp only [cal_X5_value, List.mem_cons, List.not_mem_nil, or_false] at hq
    rcases hq with rfl
    · exact fw_calV (ci := 1) (me_X1_figure l g B) (by decide) wl_X5_106 wi_X1_figure wv_X1_figure wz_RX1 wc_X1_figure rfl rfl (by decide +kernel) ⟨by decide, by decide⟩
  · intro q hq
    simp only [List.mem_cons, List.not_mem_nil, or_false] at hq
    rcases hq with rfl
    · exact fw_thr40 htr (by decide) (by decide) (by decide) (by decide) (by decide) (by decide)
abbrev rm_X5_courier : Room := { frames := 6, cells := 1, slots := 6, locals := 89 }
theorem me_X5_courier (l : Launch) (g : fw_G) (B : Nat) (htr : l.stackTraces = false) : fw_Met l g B yX5_courier cX5_courier 4 (some .int) rm_X5_courier 1 6 (ct_X5_courier B) := by
  refine fw_met (own := RX5) (by decide +kernel) rfl kX5_courier_ok kX5_courier_cst fl_X5_ok ?_ ?_ (wk_X5_courier B)
  · intro q hq
    simp only [cal_X5_courier, List.mem_cons, List.not_mem_nil, or_false] at hq
    rcases hq with rfl | rfl
    · exact fw_calV (ci := 1) (me_X1_courierAt l g B) (by decide) wl_X5_58 wi_X1_courierAt wv_X1_courierAt wz_RX1 wc_X1_courierAt rfl rfl (by decide +kernel) ⟨by decide, by decide⟩
    · exact fw_calV (ci := 1) (me_X1_courierFigure l g B) (by decide) wl_X5_109 wi_X1_courierFigure wv_X1_courierFigure wz_RX1 wc_X1_courierFigure rfl rfl (by decide +kernel) ⟨by decide, by decide⟩
  · intro q hq
    simp only [List.mem_cons, List.not_mem_nil, or_false] at hq
    rcases hq with rfl | rfl
    · exact fw_thr62 htr (by decide) (by decide) (by decide) (by decide) (by decide) (by decide)
    · exact fw_thr40 htr (by decide) (by decide) (by decide) (by decide) (by decide) (by decide)
abbrev rm_X5_parcel : Room := { frames := 6, cells := 1, slots := 6, locals := 81 }
theorem me_X5_parcel (l : Launch) (g : fw_G) (B : Nat) (htr : l.stackTraces = false) : fw_Met l g B yX5_parcel cX5_parcel 4 (some .int) rm_X5_parcel 1 6 (ct_X5_parcel B) := by
  refine fw_met (own := RX5) (by decide +kernel) rfl kX5_parcel_ok kX5_parcel_cst fl_X5_ok ?_ ?_ (wk_X5_parcel B)
  · intro q hq
    simp only [cal_X5_parcel, List.mem_cons, List.not_mem_nil, or_false] at hq
    rcases hq with rfl | rfl
    · exact fw_calV (ci := 1) (me_X1_parcelAt l g B) (by decide) wl_X5_113 wi_X1_parcelAt wv_X1_parcelAt wz_RX1 wc_X1_parcelAt rfl rfl (by decide +kernel) ⟨by decide, by decide⟩
    · exact fw_calV (ci := 3) (me_X3_figure l g B) (by decide) wl_X5_117 wi_X3_figure wv_X3_figure wz_RX3 wc_X3_figure rfl rfl (by decide +kernel) ⟨by decide, by decide⟩
  · intro q hq
    simp only [List.mem_cons, List.not_mem_nil, or_false] at hq
    rcases hq with rfl | rfl
    · exact fw_thr62 htr (by decide) (by decide) (by decide) (by decide) (by decide) (by decide)
    · exact fw_thr40 htr (by decide) (by decide) (by decide) (by decide) (by decide) (by decide)
abbrev rm_X5_legs : Room := { frames := 6, cells := 1, slots := 6, locals := 81 }
theorem me_X5_legs (l : Launch) (g : fw_G) (B : Nat) (htr : l.stackTraces = false) : fw_Met l g B yX5_legs cX5_legs 5 (some .int) rm_X5_legs 1 6 (ct_X5_legs B) := by
  refine fw_met (own := RX5) (by decide +kernel) rfl kX5_legs_ok kX5_legs_cst fl_X5_ok ?_ ?_ (wk_X5_legs B)
  · intro q hq
    simp only [cal_X5_legs, List.mem_cons, List.not_mem_nil, or_false] at hq
    rcases hq with rfl | rfl | rfl | rfl
    · exact fw_calV (ci := 1) (me_X1_parcelAt l g B) (by decide) wl_X5_113 wi_X1_parcelAt wv_X1_parcelAt wz_RX1 wc_X1_parcelAt rfl rfl (by decide +kernel) ⟨by decide, by decide⟩
    · exact fw_calV (ci := 1) (me_X1_courierAt l g B) (by decide) wl_X5_58 wi_X1_courierAt wv_X1_courierAt wz_RX1 wc_X1_courierAt rfl rfl (by decide +kernel) ⟨by decide, by decide⟩
    · exact fw_calV (ci := 3) (me_X3_shareOf l g B) (by decide) wl_X5_120 wi_X3_shareOf wv_X3_shareOf wz_RX3 wc_X3_shareOf rfl rfl (by decide +kernel) ⟨by decide, by decide⟩
    · exact fw_calV (ci := 3) (me_X3_legsOf l g B) (by decide) wl_X5_123 wi_X3_legsOf wv_X3_legsOf wz_RX3 wc_X3_legsOf rfl rfl (by decide +kernel) ⟨by decide, by decide⟩
  · intro q hq
    simp only [List.mem_cons, List.not_mem_nil, or_false] at hq
    rcases hq with rfl
    · exact fw_thr62 htr (by decide) (by decide) (by decide) (by decide) (by decide) (by decide)
abbrev rm_X5_distance : Room := { frames := 6, cells := 1, slots := 6, locals := 81 }
theorem me_X5_distance (l : Launch) (g : fw_G) (B : Nat) (htr : l.stackTraces = false) : fw_Met l g B yX5_distance cX5_distance 3 (some .int) rm_X5_distance 1 6 (ct_X5_distance B) := by
  refine fw_met (own := RX5) (by decide +kernel) rfl kX5_distance_ok kX5_distance_cst fl_X5_ok ?_ ?_ (wk_X5_distance B)
  · intro q hq
    simp only [cal_X5_distance, List.mem_cons, List.not_mem_nil, or_false] at hq
    rcases hq with rfl | rfl
    · exact fw_calS (me_X5_isZone l g B) wl_X5_37 ws_X5_isZone wz_RX5 wc_X5_isZone rfl rfl (by decide +kernel) ⟨by decide, by decide⟩
    · exact fw_calAbs wl_X5_126 ws_J9_abs_0f7a4 wz_Math wc_J9_abs_0f7a4 (by decide) (by decide)
  · intro q hq
    simp only [List.mem_cons, List.not_mem_nil, or_false] at hq
    rcases hq with rfl
    · exact fw_thr62 htr (by decide) (by decide) (by decide) (by decide) (by decide) (by decide)
end
end
section
/-! THE LAW'S HELPERS: a call that may throw, caught by the helper's table -/
section LM
def fw_NC (U : State) : Prop := va_Nc "java/lang/IllegalStateException" "java/lang/IllegalArgumentException" U ∧ va_Nc "java/lang/IllegalArgumentException" "java/lang/IndexOutOfBoundsException" U
abbrev fw_wsH (y : MethodName) (cc : ByteArray) (nL : Nat) (rt : Option FieldType) (hh : List (Nat × Nat × Nat × Nat)) : List Cond := Cond.codeWith y cc nL rt hh :: fw_LW
def fw_PcH (g : fw_G) (B : Nat) (as : List Value) (M : fw_M) : Array Value → State → Prop := fun a st => fw_Pc g B as M a st ∧ fw_NC st
def fw_MetH (l : Launch) (g : fw_G) (B : Nat) (y : MethodName) (cc : ByteArray) (nL : Nat) (rt : Option FieldType) (hh : List (Nat × Nat × Nat × Nat)) (rm : Room) (mc ms : Nat) (ct : fw_CTX) : Prop :=
  ∀ as M Q QX, ct as M Q QX → vx_Met l y (fw_wsH y cc nL rt hh) rm (fw_PcH g B as M) (fw_Qc g B Q) (fw_XC g B (fun _ _ => False)) mc ms (fun q => B ≤ q)
section L1
variable {p : Program} {l : Launch} {e : Env} {R : Room} {s : State} {m : MethodId} {args : Array Value} {below : List Frame} {meth : Method} {c : Code} {Qs : State → Prop} {cc : ByteArray} {nL B : Nat} {g : fw_G} {own : String}
variable {H : Heap} {locs : List Loc} {cells slots mc ms pc : Nat} {la : Array Slot} {rest st0 : List Value} {a : Array Value}
theorem fw_callXH {Qr : Option Value → fw_M → Prop} {QX : String → fw_M → Prop} (hr : vx_Run p l e R s m args below meth c H locs cells slots mc ms (F0 m pc la st0) rest (fw_Qc g B Qr a) (fw_XC g B QX) (fun q => B ≤ q)) (hS : va_S (fun q => B ≤ q) s.heap H locs)
    (kk : ∀ (r : Option Value) (M : fw_M) (H1 : Heap) (locs1 : List Loc), Qr r M → va_P g.1 vwCl (fw_WL g B M) H1 → va_S (fun q => B ≤ q) s.heap H1 locs1 → W p l e R s m args below meth c H1 locs1 (cells + mc) (slots + ms) Qs (F0 m (pc + 3) la (r.toList ++ rest)))
    (kx : ∀ (E : String) (M : fw_M) (ce : Cell) (q : Addr) (H1 : Heap) (locs1 : List Loc), QX E M → va_P g.1 vwCl (fw_WL g B M) H1 → va_S (fun q => B ≤ q) s.heap H1 locs1 → H1[q]? = some ce → ce.vm = .none → s.vm.findClass E = some ce.cls → vx_W p l e R s m args below meth c H1 locs1 (cells + mc) (slots + ms) Qs (F0 m pc la rest) q) :
    W p l e R s m args below meth c H locs cells slots Qs (F0 m pc la st0) := by
  intro T hT X
  rcases hr T hT X with ⟨v, st₀, t, T', L, h0, X', hL, e1, e2, ⟨⟨r, M, hv, hq, hp⟩, hF⟩, st⟩ | ⟨q, st₀, t, T', L, E, ce, h0, X', hL, e1, e2, ⟨⟨M, hq, hp⟩, hF⟩, hce, hcv, hcl, st⟩
  · cases hv
    obtain ⟨k1, k2, k3⟩ := vx_keep h0 e1 hS (fun _ _ h => h) (fun _ h => h) hL hF
    obtain ⟨t2, a1, b1⟩ := kk v M T'.heap (locs ++ L) hq (by rw [e1]; exact hp) k3 T' rfl X'
    exact ⟨t2, st t2 a1, b1⟩
  · obtain ⟨k1, k2, k3⟩ := vx_keep h0 e1 hS (fun _ _ h => h) (fun _ h => h) hL hF
    obtain ⟨t2, a1, b1⟩ := kx E M ce q T'.heap (locs ++ L) hq (by rw [e1]; exact hp) k3 (by rw [e1]; exact hce) hcv hcl T' rfl X'
    exact ⟨t2, st.trans a1, b1⟩
/-- ends, with cells counted -/
theorem fw_retC {rt : Option FieldType} {Q Q' : Option Value → fw_M → Prop} {XC : String → State → State → Prop} {cf sf : Nat → Nat}
    (E : fw_Env p s m args c cc nL g own) (hr : meth.sig.returnType = rt) (hlocks : meth.locks = false) (hQ : ∀ r M, Q' r M → Q r M ∧ cf M.2.2 ≤ mc ∧ sf M.2.2 ≤ ms) : fw_RetOK p l e R s m args below meth c cc nL B g cf sf (vx_MQ below (fw_Qc g B Q) XC args s mc ms (fun q => B ≤ q)) rt Q' := by
  obtain ⟨hx, hb, hml, hown, hts, hK⟩ := E
  have key : ∀ {H : Heap} {locs : List Loc} {M : fw_M} {r : Option Value}, va_P g.1 vwCl (fw_WL g B M) H → va_S (fun q => B ≤ q) s.heap H locs → Q r M → ∀ t : State, t.heap = H → s.WarmedH t.vm → fw_Qc g B Q args s (.returned r) t := by
    intro H locs M r hP hS hq t ht hW
    exact ⟨⟨r, M, rfl, hq, by rw [ht]; exact hP⟩, hS.F ht⟩
  intro pc ls st M
  refine ⟨?_, ?_, ?_, ?_, ?_⟩
  · intro hd h
    unfold fw_endi at h
    split at h
    · intro H locs la hP hS hl
      obtain ⟨h, h1, h2⟩ := hQ _ _ h
      exact vx_ret (W.widen (k := mc) (n := ms) h1 h2 (W.iret hx hb hr (key hP hS h) hS.2.2 hd))
    · obtain ⟨hz, h⟩ := h
      intro H locs la hP hS hl
      obtain ⟨h, h1, h2⟩ := hQ _ _ h
      exact vx_ret (W.widen (k := mc) (n := ms) h1 h2 (W.zret hx hb hr (by rcases hz with rfl | rfl <;> rfl) (key hP hS h) hS.2.2 hd))
    · exact h.elim
  · intro hd h
    unfold fw_enda at h
    split at h
    · intro H locs la hP hS hl
      obtain ⟨h, h1, h2⟩ := hQ _ _ h
      exact vx_ret (W.widen (k := mc) (n := ms) h1 h2 (W.aret hx hb hr (Or.inl ⟨_, rfl⟩) (Or.inr ⟨_, rfl⟩) (key hP hS h) hS.2.2 hd))
    · intro H locs la hP hS hl
      obtain ⟨h, h1, h2⟩ := hQ _ _ h
      exact vx_ret (W.widen (k := mc) (n := ms) h1 h2 (W.aret hx hb hr (Or.inl ⟨_, rfl⟩) (Or.inl rfl) (key hP hS h) hS.2.2 hd))
    · exact h.elim
  · intro hd h
    unfold fw_endl at h
    split at h
    · intro H locs la hP hS hl
      obtain ⟨h, h1, h2⟩ := hQ _ _ h
      exact vx_ret (W.widen (k := mc) (n := ms) h1 h2 (W.lret hx hb hr (key hP hS h) hS.2.2 hd))
    · exact h.elim
  · intro hd h
    unfold fw_endd at h
    split at h
    · intro H locs la hP hS hl
      obtain ⟨h, h1, h2⟩ := hQ _ _ h
      exact vx_ret (W.widen (k := mc) (n := ms) h1 h2 (W.dret hx hb hr (key hP hS h) hS.2.2 hd))
    · exact h.elim
  · intro hd h
    unfold fw_endv at h
    split at h
    · intro H locs la hP hS hl
      obtain ⟨h, h1, h2⟩ := hQ _ _ h
      exact vx_ret (W.widen (k := mc) (n := ms) h1 h2 (W.vret hx hb hr (key hP hS h) hS.2.2 hd))
    · exact h.elim
/-- a stretch from where it starts to where K cuts it -/
theorem fw_from {fld : List (Nat × Nat × Nat)} {cal : List fw_Cal} {thr : List (Nat × String)} {cst : List (Nat × Value)} {scr : Option (Nat × Nat × Option (Nat → Int32))} {rt : Option FieldType} {Q : Option Value → fw_M → Prop} {QX : String → fw_M → Prop} {code : List fw_Ent} {cf sf : Nat → Nat}
    (E : fw_Env p s m args c cc nL g own) (hchk : fw_chk cc nL code = true) (hcst : ∀ en ∈ code, fw_CstOK own cst en) (hfld : fw_Fld own fld) (hscr : fw_ScrOK s B g scr)
    (hcal : ∀ q ∈ cal, fw_CallOK p l e R s m args below meth c cc nL B g cf sf Qs q) (hthr : ∀ q ∈ thr, fw_ThrOK p l e R s m args below meth c cc nL B g cf sf Qs QX q) (hret : fw_RetOK p l e R s m args below meth c cc nL B g cf sf Qs rt Q)
    (K : fw_K) (hK : ∀ pc q, K pc = some q → ∀ ls st M, q.2 ls st M → fw_WW p l e R s m args below meth c nL B g cf sf Qs pc ls st M) {t F : Nat} {ls : fw_L} {st : List Value} {M : fw_M}
    (h : fw_wp B fld cal thr cst scr rt Q QX code K F true (fw_seek t code) ls st M) : fw_WW p l e R s m args below meth c nL B g cf sf Qs t ls st M := by
  obtain ⟨pre2, hp2⟩ := fw_seek_suf (t := t) code
  cases hs : fw_seek t code with
  | nil => rw [hs] at h; cases F <;> exact h.elim
  | cons en2 tl2 =>
    rw [hs] at h hp2
    rw [← fw_seek_pc hs]
    exact fw_wp_sound E hchk hcst hfld hscr hcal hthr hret K hK F true pre2 tl2 en2 hp2 ls st M h
end L1
/-- a row of the table that takes what is thrown, none ahead of it -/
def fw_row_ok (own : String) (hh : List (Nat × Nat × Nat × Nat)) (p0 : Nat) (E : String) (hp : Nat) : Prop :=
  ∃ pre x suf, tableOf hh = pre ++ x :: suf ∧ covers x p0 = true ∧ x.catchType ≠ 0 ∧ x.handlerPc = hp ∧ Cond.classLink own x.catchType E ∈ fw_LW ∧ Cond.castable E E ∈ fw_xw ∧
    ∀ z ∈ pre, z.catchType ≠ 0 ∧ ∃ nm : String, Cond.classLink own z.catchType nm ∈ fw_LW ∧ ∀ U, fw_NC U → va_Nc E nm U
def fw_K0 (p0 : Nat) (asC rest : List Value) (M0 : fw_M) : fw_K := fun pc => bif Nat.beq pc p0 then some ([], fun ls st M => ls = [] ∧ st = asC.reverse ++ rest ∧ M = M0) else none
theorem fw_metH {l : Launch} {g : fw_G} {B : Nat} {y : MethodName} {cc : ByteArray} {nL : Nat} {rt : Option FieldType} {hh : List (Nat × Nat × Nat × Nat)} {rm : Room} {own : String} {code : List fw_Ent} {ct : fw_CTX}
    {ix n p0 : Nat} {yc : MethodName} {cc1 : ByteArray} {nL1 : Nat} {rt1 : Option FieldType} {rm1 : Room} {ctc : fw_CTX} {es : List (String × Int32)}
    (hy : plainName y.cls = true) (hcls : y.cls = own) (hchk : fw_chk cc nL code = true) (hcst : ∀ en ∈ code, fw_CstOK own [] en)
    (hM : fw_Met l g B yc cc1 nL1 rt1 rm1 1 6 ctc) (w1 : Cond.methodLink own ix yc ∈ fw_LW) (w2 : Cond.instanceMethod yc ∈ fw_LW) (w3 : Cond.selects (fw_cl 5).1 yc yc ∈ fw_LW) (w4 : Cond.initialized (fw_cl 5).1 ∈ fw_LW) (w5 : Cond.code yc cc1 nL1 rt1 ∈ fw_LW) (hrc : rm1.cells = 1) (hrs : rm1.slots = 6)
    (hd : yc.cls = (fw_cl 5).1 ∧ yc.cls ≠ "java/lang/invoke/MethodHandle" ∧ yc.cls ≠ "java/lang/invoke/VarHandle" ∧ (parseMethodDescriptor yc.desc).map (fun d => d.parameters.length) = some n) (hR : rm1.frames + 1 ≤ rm.frames ∧ 8 + (nL1 + 11) + rm1.locals ≤ rm.locals ∧ 1 ≤ rm.cells ∧ 6 ≤ rm.slots)
    (hd0 : decode cc p0 = .ok (.invokevirtual ix, 3))
    (hE : ∀ E k, (E, k) ∈ es → ∃ hp, fw_row_ok own hh p0 E hp ∧ ∀ (Q : Option Value → fw_M → Prop) (q : Nat) (M1 : fw_M), Q (some (.int k)) M1 → ∃ F, fw_wp B [] [] [] [] none rt Q (fun _ _ => False) code (fun _ => none) F true (fw_seek hp code) [] [.ref q] M1)
    (hw : ∀ as M Q QX, ct as M Q QX → Nat.ble (lg_sl as).length nL = true ∧ ∃ b as' rest, fw_kd B b = 5 ∧ as'.length = n ∧ (rest.map fun v => v.category).sum ≤ 8 ∧
      (∃ F, fw_wp B [] [] [] [] none rt (fun r M => Q r M ∧ M.2.2 ≤ 1) (fun _ _ => False) code (fw_K0 p0 (.ref b :: as') rest (M.1, M.2.1, 0)) F true (fw_seek 0 code) (fw_pad nL (fw_in0 as)) [] (M.1, M.2.1, 0)) ∧
      ctc (.ref b :: as') (M.1, M.2.1, 0) (fun r M1 => ∃ F, fw_wp B [] [] [] [] none rt (fun r M => Q r M ∧ M.2.2 ≤ 1) (fun _ _ => False) code (fun _ => none) F true (fw_seek (p0 + 3) code) [] (r.toList ++ rest) (M1.1, M1.2.1, 1))
        (fun E M1 => ∃ k, (E, k) ∈ es ∧ Q (some (.int k)) (M1.1, M1.2.1, 1))) : fw_MetH l g B y cc nL rt hh rm 1 6 ct := by
  intro as M Q QX hct
  obtain ⟨hlen, b, as', rest, hkb, hlen', hrest, ⟨F, hwp⟩, hcc⟩ := hw as M Q QX hct
  refine vx_ofWH (cc := cc) (maxL := nL) (ret := rt) (hh := hh) hy rfl ?_
  intro p e s m args below meth c s₁ Bd hml hv
  obtain ⟨⟨rfl, hP, hAmb⟩, hNC⟩ := hv
  have hts0 := atoms_spec (ws := fw_wsH y cc nL rt hh) Bd.pre
  have htab : c.exceptionTable.toList = tableOf hh := vx_table (x := y) Bd (hts0 _ List.mem_cons_self)
  have hown : s.vm.findClass own = some m.cls := by rw [← hcls]; exact findClass_of_methodNamed Bd.named
  have hlocks := Bd.notSynchronized
  have E : fw_Env p s m as.toArray c cc nL g own := ⟨Bd.exec, Bd.bytes, hml, hown, fun w hw => hts0 w (List.mem_cons_of_mem _ hw), hAmb.1⟩
  have hl := lv_entry as (n := nL) (Nat.le_of_ble_eq_true hlen)
  rw [lg_entry_eq]
  have hret := fw_retC (p := p) (l := l) (e := e) (R := rm) (below := below) (B := B) (mc := 1) (ms := 6) (Q := Q) (Q' := fun r M => Q r M ∧ M.2.2 ≤ 1) (XC := fw_XC g B (fun _ _ => False)) (cf := fun n => n) (sf := fun n => 6 * n) E Bd.returns hlocks (fun r M h => ⟨h.1, h.2, by have := h.2; omega⟩)
  have none_ok : ∀ (pc : Nat) (q : List Bool × (fw_L → List Value → fw_M → Prop)), (fun _ => none : fw_K) pc = some q → ∀ ls st M, q.2 ls st M → fw_WW p l e rm s m as.toArray below meth c nL B g (fun n => n) (fun n => 6 * n) (vx_MQ below (fw_Qc g B Q) (fw_XC g B (fun _ _ => False)) as.toArray s 1 6 (fun q => B ≤ q)) pc ls st M := fun pc q h => nomatch h
  have hcs : ∀ w ∈ fw_LW, w.before as.toArray s = true := E.2.2.2.2.1
  have W0 := fw_from (p := p) (l := l) (e := e) (R := rm) (below := below) (Qs := vx_MQ below (fw_Qc g B Q) (fw_XC g B (fun _ _ => False)) as.toArray s 1 6 (fun q => B ≤ q)) (scr := none) (fld := []) (cal := []) (thr := []) (cf := fun n => n) (sf := fun n => 6 * n) E hchk hcst (fun q hq => nomatch hq) trivial (fun q hq => nomatch hq) (fun q hq => nomatch hq) hret (fw_K0 p0 (.ref b :: as') rest (M.1, M.2.1, 0)) (by
    intro pc q hq ls st M1 hM1
    unfold fw_K0 at hq
    cases hpc : Nat.beq pc p0 with
    | false => rw [hpc] at hq; cases hq
    | true =>
      rw [hpc] at hq
      cases hq
      have epc := Nat.eq_of_beq_eq_true hpc
      subst epc
      obtain ⟨rfl, rfl, rfl⟩ := hM1
      intro H locs la hP hS hl1
      obtain ⟨hx, hb, hml, hown, hts, hK⟩ := E
      obtain ⟨o, ho, rfl, hko⟩ := fw_kd_at hkb (by omega)
      have hG : GoodIn fw_LW (wsV own ix (fw_cl 5).1 yc (fw_ws yc cc1 nL1 rt1)) := fw_goodIn (by
        intro w hw
        rcases List.mem_append.mp hw with hw | hw
        · simp only [List.mem_cons, List.not_mem_nil, or_false] at hw
          rcases hw with rfl | rfl | rfl | rfl
          · exact w1
          · exact w2
          · exact w3
          · exact w4
        · rcases List.mem_cons.mp hw with rfl | hw
          · exact w5
          · exact hw)
      have hrecv := va_recv (D := g.1) (cl := vwCl) (tys := fw_tys g) hK hP (ci := 5) (q0 := o) (fw_cl_get 5 (by decide)) (by rw [fw_WL_get ho, fw_ct_obj hko (by decide)])
      refine fw_callXH (mc := 1) (ms := 6) (rest := rest) (vx_runV (C := (fw_cl 5).1) (As := as') (rest := rest) ⟨hx, hb, hml, hown, hts⟩ (hM _ (M.1, M.2.1, 0) _ _ hcc) (cwV n hts hG rfl hrc hrs hd ⟨hR.1, hR.2.1⟩) ⟨fw_Pc_blind, hrecv, fun U hU hW => fw_Pc_at hAmb hP hS hU hW⟩ rfl hlen' hl1.1 (by simp) (lv_room hrest) hd0 ⟨by show 0 + 1 ≤ rm.cells; omega, by show 6 * 0 + 6 ≤ rm.slots; omega⟩) hS ?_ ?_
      · intro r M2 H1 locs1 hq hP1 hS1
        obtain ⟨F2, hq⟩ := hq
        exact fw_from (p := p) (l := l) (e := e) (R := rm) (below := below) (scr := none) (fld := []) (cal := []) (thr := []) (cf := fun n => n) (sf := fun n => 6 * n) ⟨hx, hb, hml, hown, hts, hK⟩ hchk hcst (fun q hq => nomatch hq) trivial (fun q hq => nomatch hq) (fun q hq => nomatch hq) hret (fun _ => none) none_ok hq H1 locs1 la hP1 hS1 hl1
      · intro E M2 ce q H1 locs1 hq hP1 hS1 hce hcv hcl
        obtain ⟨k, hk, hq⟩ := hq
        obtain ⟨hp, ⟨pre, x, suf, t1, t2, t3, t4, t5, t6, t7⟩, hh2⟩ := hE E k hk
        obtain ⟨F2, hF2⟩ := hh2 (fun r M => Q r M ∧ M.2.2 ≤ 1) q (M2.1, M2.2.1, 1) ⟨hq, Nat.le_refl 1⟩
        refine vx_catch hown pre x suf (by rw [htab]; exact t1) (fun z hz => Or.inr ⟨(t7 z hz).1, ?_⟩) t2 t3 (hcs _ t5) (va_Nw.use (fw_xw_tab t6) (hAmb.2.1 _ t6)) hce hcv hcl ?_
        · obtain ⟨nm, hn1, hn2⟩ := (t7 z hz).2
          exact ⟨nm, hcs _ hn1, hn2 s hNC⟩
        · rw [t4]
          exact fw_from (p := p) (l := l) (e := e) (R := rm) (below := below) (scr := none) (fld := []) (cal := []) (thr := []) (cf := fun n => n) (sf := fun n => 6 * n) ⟨hx, hb, hml, hown, hts, hK⟩ hchk hcst (fun q hq => nomatch hq) trivial (fun q hq => nomatch hq) (fun q hq => nomatch hq) hret (fun _ => none) none_ok hF2 H1 locs1 la hP1 hS1 hl1) hwp
  exact W0 s.heap [] _ hP va_S.rf ⟨hl.1, hl.2.1, fun i v hi => by
      have h1 := fw_lg_in0 (k := 0) (fw_lg_pad hi)
      rw [Nat.zero_add] at h1
      exact hl.2.2 (i, v) h1⟩
end LM
end
section
/-! THE LAW: its methods as lists of decoded rows (printed by program) -/
abbrev fw_rowq (cc : ByteArray) (nL : Nat) (en : fw_Ent) : Bool := decide (decode cc en.1 = .ok (en.2.2.1, en.2.1)) && fw_lt nL en && fw_newq cc en
def kL_cell : List fw_Ent := [
  (0, 1, .iload_n 1, 0, 0), (1, 1, .aload_n 0, 0, 0), (2, 1, .arraylength, 0, 0), (3, 3, .if_icmp .ge 9, 0, 12),
  (6, 1, .aload_n 0, 0, 0), (7, 1, .iload_n 1, 0, 0), (8, 1, .iaload, 0, 0), (9, 3, .goto 9, 0, 18),
  (12, 2, .ldc 7, 40503, 0), (14, 1, .iload_n 1, 0, 0), (15, 1, .iconst 3, 3, 0), (16, 1, .iadd, 0, 0),
  (17, 1, .imul, 0, 0), (18, 1, .ireturn, 0, 0)]
theorem kL_cell_ok : fw_chk cL_cell 2 kL_cell = true := by decide +kernel
set_option maxRecDepth 100000 in
theorem kL_cell_cst : ∀ en ∈ kL_cell, fw_CstOK RL [] en := by
  have h : kL_cell.all (fw_cstq cp_L) = true := by decide +kernel
  exact fun en he => fw_cstX cp_L_ok (fun i v hq => nomatch hq) (List.all_eq_true.mp h en he)
def kL_low : List fw_Ent := [
  (0, 1, .iload_n 0, 0, 0), (1, 2, .ldc 8, 2147483647, 0), (3, 1, .iand, 0, 0), (4, 1, .iload_n 1, 0, 0),
  (5, 1, .irem, 0, 0), (6, 1, .ireturn, 0, 0)]
theorem kL_low_ok : fw_chk cL_low 2 kL_low = true := by decide +kernel
set_option maxRecDepth 100000 in
theorem kL_low_cst : ∀ en ∈ kL_low, fw_CstOK RL [] en := by
  have h : kL_low.all (fw_cstq cp_L) = true := by decide +kernel
  exact fun en he => fw_cstX cp_L_ok (fun i v hq => nomatch hq) (List.all_eq_true.mp h en he)
def kL_towards : List fw_Ent := [
  (0, 1, .iload_n 1, 0, 0), (1, 1, .iconst 4, 4, 0), (2, 1, .irem, 0, 0), (3, 1, .iload_n 0, 0, 0),
  (4, 1, .iconst 4, 4, 0), (5, 1, .irem, 0, 0), (6, 1, .isub, 0, 0), (7, 1, .istore_n 2, 0, 0),
  (8, 1, .iload_n 1, 0, 0), (9, 1, .iconst 4, 4, 0), (10, 1, .idiv, 0, 0), (11, 1, .iload_n 0, 0, 0),
  (12, 1, .iconst 4, 4, 0), (13, 1, .idiv, 0, 0), (14, 1, .isub, 0, 0), (15, 1, .istore_n 3, 0, 0),
  (16, 1, .iload_n 2, 0, 0), (17, 3, .ifCond .le 9, 0, 26), (20, 1, .iload_n 0, 0, 0), (21, 1, .iconst 1, 1, 0),
  (22, 1, .iadd, 0, 0), (23, 3, .goto 34, 0, 57), (26, 1, .iload_n 2, 0, 0), (27, 3, .ifCond .ge 9, 0, 36),
  (30, 1, .iload_n 0, 0, 0), (31, 1, .iconst 1, 1, 0), (32, 1, .isub, 0, 0), (33, 3, .goto 24, 0, 57),
  (36, 1, .iload_n 3, 0, 0), (37, 3, .ifCond .le 9, 0, 46), (40, 1, .iload_n 0, 0, 0), (41, 1, .iconst 4, 4, 0),
  (42, 1, .iadd, 0, 0), (43, 3, .goto 14, 0, 57), (46, 1, .iload_n 3, 0, 0), (47, 3, .ifCond .ge 9, 0, 56),
  (50, 1, .iload_n 0, 0, 0), (51, 1, .iconst 4, 4, 0), (52, 1, .isub, 0, 0), (53, 3, .goto 4, 0, 57),
  (56, 1, .iload_n 0, 0, 0), (57, 1, .ireturn, 0, 0)]
theorem kL_towards_ok : fw_chk cL_towards 4 kL_towards = true := by decide +kernel
set_option maxRecDepth 100000 in
theorem kL_towards_cst : ∀ en ∈ kL_towards, fw_CstOK RL [] en := by
  have h : kL_towards.all (fw_cstq cp_L) = true := by decide +kernel
  exact fun en he => fw_cstX cp_L_ok (fun i v hq => nomatch hq) (List.all_eq_true.mp h en he)
def kL_has : List fw_Ent := [
  (0, 1, .iload_n 0, 0, 0), (1, 1, .iload_n 1, 0, 0), (2, 1, .ishr, 0, 0), (3, 1, .iconst 1, 1, 0),
  (4, 1, .iand, 0, 0), (5, 1, .iconst 1, 1, 0), (6, 3, .if_icmp .ne 7, 0, 13), (9, 1, .iconst 1, 1, 0),
  (10, 3, .goto 4, 0, 14), (13, 1, .iconst 0, 0, 0), (14, 1, .ireturn, 0, 0)]
theorem kL_has_ok : fw_chk cL_has 2 kL_has = true := by decide +kernel
set_option maxRecDepth 100000 in
theorem kL_has_cst : ∀ en ∈ kL_has, fw_CstOK RL [] en := by
  have h : kL_has.all (fw_cstq cp_L) = true := by decide +kernel
  exact fun en he => fw_cstX cp_L_ok (fun i v hq => nomatch hq) (List.all_eq_true.mp h en he)
def kL_suits : List fw_Ent := [
  (0, 1, .aload_n 0, 0, 0), (1, 1, .iconst 5, 5, 0), (2, 1, .iload_n 2, 0, 0), (3, 1, .imul, 0, 0),
  (4, 1, .iaload, 0, 0), (5, 1, .aload_n 1, 0, 0), (6, 2, .bipush 8, 8, 0), (8, 1, .iload_n 3, 0, 0),
  (9, 1, .imul, 0, 0), (10, 1, .iconst 5, 5, 0), (11, 1, .iadd, 0, 0), (12, 1, .iaload, 0, 0),
  (13, 3, .invokestatic 9, 0, 0), (16, 3, .ifCond .eq 37, 0, 53), (19, 1, .aload_n 0, 0, 0), (20, 1, .iconst 5, 5, 0),
  (21, 1, .iload_n 2, 0, 0), (22, 1, .imul, 0, 0), (23, 1, .iaload, 0, 0), (24, 1, .aload_n 1, 0, 0),
  (25, 2, .bipush 8, 8, 0), (27, 1, .iload_n 3, 0, 0), (28, 1, .imul, 0, 0), (29, 1, .iconst 5, 5, 0),
  (30, 1, .iadd, 0, 0), (31, 1, .iaload, 0, 0), (32, 1, .aload_n 1, 0, 0), (33, 2, .bipush 8, 8, 0),
  (35, 1, .iload_n 3, 0, 0), (36, 1, .imul, 0, 0), (37, 1, .iconst 1, 1, 0), (38, 1, .iadd, 0, 0),
  (39, 1, .iaload, 0, 0), (40, 3, .invokestatic 15, 0, 0), (43, 3, .invokestatic 9, 0, 0), (46, 3, .ifCond .eq 7, 0, 53),
  (49, 1, .iconst 1, 1, 0), (50, 3, .goto 4, 0, 54), (53, 1, .iconst 0, 0, 0), (54, 1, .ireturn, 0, 0)]
theorem kL_suits_ok : fw_chk cL_suits 4 kL_suits = true := by decide +kernel
set_option maxRecDepth 100000 in
theorem kL_suits_cst : ∀ en ∈ kL_suits, fw_CstOK RL [] en := by
  have h : kL_suits.all (fw_cstq cp_L) = true := by decide +kernel
  exact fun en he => fw_cstX cp_L_ok (fun i v hq => nomatch hq) (List.all_eq_true.mp h en he)
def kL_pays : List fw_Ent := [
  (0, 1, .aload_n 0, 0, 0), (1, 1, .iconst 0, 0, 0), (2, 1, .iaload, 0, 0), (3, 1, .aload_n 2, 0, 0),
  (4, 2, .bipush 8, 8, 0), (6, 2, .iload 5, 0, 0), (8, 1, .imul, 0, 0), (9, 1, .iconst 2, 2, 0),
  (10, 1, .iadd, 0, 0), (11, 1, .iaload, 0, 0), (12, 3, .if_icmp .gt 15, 0, 27), (15, 1, .aload_n 2, 0, 0),
  (16, 2, .bipush 8, 8, 0), (18, 2, .iload 5, 0, 0), (20, 1, .imul, 0, 0), (21, 1, .iconst 3, 3, 0),
  (22, 1, .iadd, 0, 0), (23, 1, .iaload, 0, 0), (24, 3, .goto 14, 0, 38), (27, 1, .aload_n 2, 0, 0),
  (28, 2, .bipush 8, 8, 0), (30, 2, .iload 5, 0, 0), (32, 1, .imul, 0, 0), (33, 1, .iconst 3, 3, 0),
  (34, 1, .iadd, 0, 0), (35, 1, .iaload, 0, 0), (36, 1, .iconst 2, 2, 0), (37, 1, .idiv, 0, 0),
  (38, 2, .istore 6, 0, 0), (40, 1, .iconst 0, 0, 0), (41, 2, .istore 7, 0, 0), (43, 2, .iload 6, 0, 0),
  (45, 2, .istore 8, 0, 0), (47, 1, .iconst 0, 0, 0), (48, 2, .istore 9, 0, 0), (50, 2, .iload 9, 0, 0),
  (52, 2, .bipush 6, 6, 0), (54, 3, .if_icmp .ge 24, 0, 78), (57, 2, .iload 7, 0, 0), (59, 1, .aload_n 3, 0, 0),
  (60, 2, .bipush 6, 6, 0), (62, 2, .iload 5, 0, 0), (64, 1, .imul, 0, 0), (65, 2, .iload 9, 0, 0),
  (67, 1, .iadd, 0, 0), (68, 1, .iaload, 0, 0), (69, 1, .iadd, 0, 0), (70, 2, .istore 7, 0, 0),
  (72, 3, .iinc 9 1, 1, 0), (75, 3, .goto (-25), 0, 50), (78, 1, .iconst 0, 0, 0), (79, 2, .istore 9, 0, 0),
  (81, 2, .iload 9, 0, 0), (83, 2, .bipush 6, 6, 0), (85, 3, .if_icmp .ge 52, 0, 137), (88, 2, .aload 4, 0, 0),
  (90, 2, .bipush 6, 6, 0), (92, 2, .iload 5, 0, 0), (94, 1, .imul, 0, 0), (95, 2, .iload 9, 0, 0),
  (97, 1, .iadd, 0, 0), (98, 2, .iload 6, 0, 0), (100, 1, .aload_n 3, 0, 0), (101, 2, .bipush 6, 6, 0),
  (103, 2, .iload 5, 0, 0), (105, 1, .imul, 0, 0), (106, 2, .iload 9, 0, 0), (108, 1, .iadd, 0, 0),
  (109, 1, .iaload, 0, 0), (110, 1, .imul, 0, 0), (111, 2, .iload 7, 0, 0), (113, 1, .idiv, 0, 0),
  (114, 1, .iastore, 0, 0), (115, 2, .iload 8, 0, 0), (117, 2, .aload 4, 0, 0), (119, 2, .bipush 6, 6, 0),
  (121, 2, .iload 5, 0, 0), (123, 1, .imul, 0, 0), (124, 2, .iload 9, 0, 0), (126, 1, .iadd, 0, 0),
  (127, 1, .iaload, 0, 0), (128, 1, .isub, 0, 0), (129, 2, .istore 8, 0, 0), (131, 3, .iinc 9 1, 1, 0),
  (134, 3, .goto (-53), 0, 81), (137, 1, .iconst 0, 0, 0), (138, 2, .istore 9, 0, 0), (140, 2, .iload 9, 0, 0),
  (142, 2, .bipush 6, 6, 0), (144, 3, .if_icmp .ge 155, 0, 299), (147, 1, .iconst 0, 0, 0), (148, 2, .istore 10, 0, 0),
  (150, 2, .iload 6, 0, 0), (152, 1, .aload_n 3, 0, 0), (153, 2, .bipush 6, 6, 0), (155, 2, .iload 5, 0, 0),
  (157, 1, .imul, 0, 0), (158, 2, .iload 9, 0, 0), (160, 1, .iadd, 0, 0), (161, 1, .iaload, 0, 0),
  (162, 1, .imul, 0, 0), (163, 2, .iload 7, 0, 0), (165, 1, .irem, 0, 0), (166, 2, .istore 11, 0, 0),
  (168, 1, .iconst 0, 0, 0), (169, 2, .istore 12, 0, 0), (171, 2, .iload 12, 0, 0), (173, 2, .bipush 6, 6, 0),
  (175, 3, .if_icmp .ge 58, 0, 233), (178, 2, .iload 6, 0, 0), (180, 1, .aload_n 3, 0, 0), (181, 2, .bipush 6, 6, 0),
  (183, 2, .iload 5, 0, 0), (185, 1, .imul, 0, 0), (186, 2, .iload 12, 0, 0), (188, 1, .iadd, 0, 0),
  (189, 1, .iaload, 0, 0), (190, 1, .imul, 0, 0), (191, 2, .iload 7, 0, 0), (193, 1, .irem, 0, 0),
  (194, 2, .istore 13, 0, 0), (196, 2, .iload 10, 0, 0), (198, 2, .iload 13, 0, 0), (200, 2, .iload 11, 0, 0),
  (202, 3, .if_icmp .gt 17, 0, 219), (205, 2, .iload 13, 0, 0), (207, 2, .iload 11, 0, 0), (209, 3, .if_icmp .ne 14, 0, 223),
  (212, 2, .iload 12, 0, 0), (214, 2, .iload 9, 0, 0), (216, 3, .if_icmp .ge 7, 0, 223), (219, 1, .iconst 1, 1, 0),
  (220, 3, .goto 4, 0, 224), (223, 1, .iconst 0, 0, 0), (224, 1, .iadd, 0, 0), (225, 2, .istore 10, 0, 0),
  (227, 3, .iinc 12 1, 1, 0), (230, 3, .goto (-59), 0, 171), (233, 2, .aload 4, 0, 0), (235, 2, .bipush 6, 6, 0),
  (237, 2, .iload 5, 0, 0), (239, 1, .imul, 0, 0), (240, 2, .iload 9, 0, 0), (242, 1, .iadd, 0, 0),
  (243, 1, .dup2, 0, 0), (244, 1, .iaload, 0, 0), (245, 2, .iload 10, 0, 0), (247, 2, .iload 8, 0, 0),
  (249, 3, .if_icmp .ge 7, 0, 256), (252, 1, .iconst 1, 1, 0), (253, 3, .goto 4, 0, 257), (256, 1, .iconst 0, 0, 0),
  (257, 1, .iadd, 0, 0), (258, 1, .iastore, 0, 0), (259, 1, .aload_n 1, 0, 0), (260, 1, .iconst 5, 5, 0),
  (261, 2, .iload 9, 0, 0), (263, 1, .imul, 0, 0), (264, 1, .iconst 2, 2, 0), (265, 1, .iadd, 0, 0),
  (266, 1, .dup2, 0, 0), (267, 1, .iaload, 0, 0), (268, 2, .iload 9, 0, 0), (270, 1, .aload_n 0, 0, 0),
  (271, 1, .iconst 2, 2, 0), (272, 1, .iaload, 0, 0), (273, 3, .if_icmp .ge 17, 0, 290), (276, 2, .aload 4, 0, 0),
  (278, 2, .bipush 6, 6, 0), (280, 2, .iload 5, 0, 0), (282, 1, .imul, 0, 0), (283, 2, .iload 9, 0, 0),
  (285, 1, .iadd, 0, 0), (286, 1, .iaload, 0, 0), (287, 3, .goto 4, 0, 291), (290, 1, .iconst 0, 0, 0),
  (291, 1, .iadd, 0, 0), (292, 1, .iastore, 0, 0), (293, 3, .iinc 9 1, 1, 0), (296, 3, .goto (-156), 0, 140),
  (299, 1, .aload_n 2, 0, 0), (300, 2, .bipush 8, 8, 0), (302, 2, .iload 5, 0, 0), (304, 1, .imul, 0, 0),
  (305, 1, .iconst 4, 4, 0), (306, 1, .iadd, 0, 0), (307, 1, .iconst 2, 2, 0), (308, 1, .iastore, 0, 0),
  (309, 1, .aload_n 2, 0, 0), (310, 2, .bipush 8, 8, 0), (312, 2, .iload 5, 0, 0), (314, 1, .imul, 0, 0),
  (315, 2, .bipush 6, 6, 0), (317, 1, .iadd, 0, 0), (318, 1, .aload_n 0, 0, 0), (319, 1, .iconst 0, 0, 0),
  (320, 1, .iaload, 0, 0), (321, 1, .iastore, 0, 0), (322, 1, .aload_n 2, 0, 0), (323, 2, .bipush 8, 8, 0),
  (325, 2, .iload 5, 0, 0), (327, 1, .imul, 0, 0), (328, 2, .bipush 7, 7, 0), (330, 1, .iadd, 0, 0),
  (331, 2, .iload 6, 0, 0), (333, 1, .iastore, 0, 0), (334, 1, .aload_n 0, 0, 0), (335, 2, .bipush 6, 6, 0),
  (337, 1, .dup2, 0, 0), (338, 1, .iaload, 0, 0), (339, 2, .iload 6, 0, 0), (341, 1, .iadd, 0, 0),
  (342, 1, .iastore, 0, 0), (343, 1, .return_, 0, 0)]
def kL_pays_0 : List fw_Ent := [
  (0, 1, .aload_n 0, 0, 0), (1, 1, .iconst 0, 0, 0), (2, 1, .iaload, 0, 0), (3, 1, .aload_n 2, 0, 0),
  (4, 2, .bipush 8, 8, 0), (6, 2, .iload 5, 0, 0), (8, 1, .imul, 0, 0), (9, 1, .iconst 2, 2, 0),
  (10, 1, .iadd, 0, 0), (11, 1, .iaload, 0, 0), (12, 3, .if_icmp .gt 15, 0, 27), (15, 1, .aload_n 2, 0, 0),
  (16, 2, .bipush 8, 8, 0), (18, 2, .iload 5, 0, 0), (20, 1, .imul, 0, 0), (21, 1, .iconst 3, 3, 0),
  (22, 1, .iadd, 0, 0), (23, 1, .iaload, 0, 0), (24, 3, .goto 14, 0, 38), (27, 1, .aload_n 2, 0, 0),
  (28, 2, .bipush 8, 8, 0), (30, 2, .iload 5, 0, 0), (32, 1, .imul, 0, 0), (33, 1, .iconst 3, 3, 0),
  (34, 1, .iadd, 0, 0), (35, 1, .iaload, 0, 0), (36, 1, .iconst 2, 2, 0), (37, 1, .idiv, 0, 0),
  (38, 2, .istore 6, 0, 0), (40, 1, .iconst 0, 0, 0), (41, 2, .istore 7, 0, 0), (43, 2, .iload 6, 0, 0),
  (45, 2, .istore 8, 0, 0), (47, 1, .iconst 0, 0, 0), (48, 2, .istore 9, 0, 0), (50, 2, .iload 9, 0, 0),
  (52, 2, .bipush 6, 6, 0), (54, 3, .if_icmp .ge 24, 0, 78), (57, 2, .iload 7, 0, 0), (59, 1, .aload_n 3, 0, 0),
  (60, 2, .bipush 6, 6, 0), (62, 2, .iload 5, 0, 0), (64, 1, .imul, 0, 0), (65, 2, .iload 9, 0, 0),
  (67, 1, .iadd, 0, 0), (68, 1, .iaload, 0, 0), (69, 1, .iadd, 0, 0), (70, 2, .istore 7, 0, 0),
  (72, 3, .iinc 9 1, 1, 0), (75, 3, .goto (-25), 0, 50)]
set_option maxRecDepth 100000 in
theorem kL_pays_0_ok : kL_pays_0.all (fw_rowq cL_pays 14) = true := by decide +kernel
def kL_pays_1 : List fw_Ent := [
  (78, 1, .iconst 0, 0, 0), (79, 2, .istore 9, 0, 0), (81, 2, .iload 9, 0, 0), (83, 2, .bipush 6, 6, 0),
  (85, 3, .if_icmp .ge 52, 0, 137), (88, 2, .aload 4, 0, 0), (90, 2, .bipush 6, 6, 0), (92, 2, .iload 5, 0, 0),
  (94, 1, .imul, 0, 0), (95, 2, .iload 9, 0, 0), (97, 1, .iadd, 0, 0), (98, 2, .iload 6, 0, 0),
  (100, 1, .aload_n 3, 0, 0), (101, 2, .bipush 6, 6, 0), (103, 2, .iload 5, 0, 0), (105, 1, .imul, 0, 0),
  (106, 2, .iload 9, 0, 0), (108, 1, .iadd, 0, 0), (109, 1, .iaload, 0, 0), (110, 1, .imul, 0, 0),
  (111, 2, .iload 7, 0, 0), (113, 1, .idiv, 0, 0), (114, 1, .iastore, 0, 0), (115, 2, .iload 8, 0, 0),
  (117, 2, .aload 4, 0, 0), (119, 2, .bipush 6, 6, 0), (121, 2, .iload 5, 0, 0), (123, 1, .imul, 0, 0),
  (124, 2, .iload 9, 0, 0), (126, 1, .iadd, 0, 0), (127, 1, .iaload, 0, 0), (128, 1, .isub, 0, 0),
  (129, 2, .istore 8, 0, 0), (131, 3, .iinc 9 1, 1, 0), (134, 3, .goto (-53), 0, 81), (137, 1, .iconst 0, 0, 0),
  (138, 2, .istore 9, 0, 0), (140, 2, .iload 9, 0, 0), (142, 2, .bipush 6, 6, 0), (144, 3, .if_icmp .ge 155, 0, 299),
  (147, 1, .iconst 0, 0, 0), (148, 2, .istore 10, 0, 0), (150, 2, .iload 6, 0, 0), (152, 1, .aload_n 3, 0, 0),
  (153, 2, .bipush 6, 6, 0), (155, 2, .iload 5, 0, 0), (157, 1, .imul, 0, 0), (158, 2, .iload 9, 0, 0),
  (160, 1, .iadd, 0, 0), (161, 1, .iaload, 0, 0)]
set_option maxRecDepth 100000 in
theorem kL_pays_1_ok : kL_pays_1.all (fw_rowq cL_pays 14) = true := by decide +kernel
def kL_pays_2 : List fw_Ent := [
  (162, 1, .imul, 0, 0), (163, 2, .iload 7, 0, 0), (165, 1, .irem, 0, 0), (166, 2, .istore 11, 0, 0),
  (168, 1, .iconst 0, 0, 0), (169, 2, .istore 12, 0, 0), (171, 2, .iload 12, 0, 0), (173, 2, .bipush 6, 6, 0),
  (175, 3, .if_icmp .ge 58, 0, 233), (178, 2, .iload 6, 0, 0), (180, 1, .aload_n 3, 0, 0), (181, 2, .bipush 6, 6, 0),
  (183, 2, .iload 5, 0, 0), (185, 1, .imul, 0, 0), (186, 2, .iload 12, 0, 0), (188, 1, .iadd, 0, 0),
  (189, 1, .iaload, 0, 0), (190, 1, .imul, 0, 0), (191, 2, .iload 7, 0, 0), (193, 1, .irem, 0, 0),
  (194, 2, .istore 13, 0, 0), (196, 2, .iload 10, 0, 0), (198, 2, .iload 13, 0, 0), (200, 2, .iload 11, 0, 0),
  (202, 3, .if_icmp .gt 17, 0, 219), (205, 2, .iload 13, 0, 0), (207, 2, .iload 11, 0, 0), (209, 3, .if_icmp .ne 14, 0, 223),
  (212, 2, .iload 12, 0, 0), (214, 2, .iload 9, 0, 0), (216, 3, .if_icmp .ge 7, 0, 223), (219, 1, .iconst 1, 1, 0),
  (220, 3, .goto 4, 0, 224), (223, 1, .iconst 0, 0, 0), (224, 1, .iadd, 0, 0), (225, 2, .istore 10, 0, 0),
  (227, 3, .iinc 12 1, 1, 0), (230, 3, .goto (-59), 0, 171), (233, 2, .aload 4, 0, 0), (235, 2, .bipush 6, 6, 0),
  (237, 2, .iload 5, 0, 0), (239, 1, .imul, 0, 0), (240, 2, .iload 9, 0, 0), (242, 1, .iadd, 0, 0),
  (243, 1, .dup2, 0, 0), (244, 1, .iaload, 0, 0), (245, 2, .iload 10, 0, 0), (247, 2, .iload 8, 0, 0),
  (249, 3, .if_icmp .ge 7, 0, 256), (252, 1, .iconst 1, 1, 0)]
set_option maxRecDepth 100000 in
theorem kL_pays_2_ok : kL_pays_2.all (fw_rowq cL_pays 14) = true := by decide +kernel
def kL_pays_3 : List fw_Ent := [
  (253, 3, .goto 4, 0, 257), (256, 1, .iconst 0, 0, 0), (257, 1, .iadd, 0, 0), (258, 1, .iastore, 0, 0),
  (259, 1, .aload_n 1, 0, 0), (260, 1, .iconst 5, 5, 0), (261, 2, .iload 9, 0, 0), (263, 1, .imul, 0, 0),
  (264, 1, .iconst 2, 2, 0), (265, 1, .iadd, 0, 0), (266, 1, .dup2, 0, 0), (267, 1, .iaload, 0, 0),
  (268, 2, .iload 9, 0, 0), (270, 1, .aload_n 0, 0, 0), (271, 1, .iconst 2, 2, 0), (272, 1, .iaload, 0, 0),
  (273, 3, .if_icmp .ge 17, 0, 290), (276, 2, .aload 4, 0, 0), (278, 2, .bipush 6, 6, 0), (280, 2, .iload 5, 0, 0),
  (282, 1, .imul, 0, 0), (283, 2, .iload 9, 0, 0), (285, 1, .iadd, 0, 0), (286, 1, .iaload, 0, 0),
  (287, 3, .goto 4, 0, 291), (290, 1, .iconst 0, 0, 0), (291, 1, .iadd, 0, 0), (292, 1, .iastore, 0, 0),
  (293, 3, .iinc 9 1, 1, 0), (296, 3, .goto (-156), 0, 140), (299, 1, .aload_n 2, 0, 0), (300, 2, .bipush 8, 8, 0),
  (302, 2, .iload 5, 0, 0), (304, 1, .imul, 0, 0), (305, 1, .iconst 4, 4, 0), (306, 1, .iadd, 0, 0),
  (307, 1, .iconst 2, 2, 0), (308, 1, .iastore, 0, 0), (309, 1, .aload_n 2, 0, 0), (310, 2, .bipush 8, 8, 0),
  (312, 2, .iload 5, 0, 0), (314, 1, .imul, 0, 0), (315, 2, .bipush 6, 6, 0), (317, 1, .iadd, 0, 0),
  (318, 1, .aload_n 0, 0, 0), (319, 1, .iconst 0, 0, 0), (320, 1, .iaload, 0, 0), (321, 1, .iastore, 0, 0),
  (322, 1, .aload_n 2, 0, 0), (323, 2, .bipush 8, 8, 0)]
set_option maxRecDepth 100000 in
theorem kL_pays_3_ok : kL_pays_3.all (fw_rowq cL_pays 14) = true := by decide +kernel
def kL_pays_4 : List fw_Ent := [
  (325, 2, .iload 5, 0, 0), (327, 1, .imul, 0, 0), (328, 2, .bipush 7, 7, 0), (330, 1, .iadd, 0, 0),
  (331, 2, .iload 6, 0, 0), (333, 1, .iastore, 0, 0), (334, 1, .aload_n 0, 0, 0), (335, 2, .bipush 6, 6, 0),
  (337, 1, .dup2, 0, 0), (338, 1, .iaload, 0, 0), (339, 2, .iload 6, 0, 0), (341, 1, .iadd, 0, 0),
  (342, 1, .iastore, 0, 0), (343, 1, .return_, 0, 0)]
set_option maxRecDepth 100000 in
theorem kL_pays_4_ok : kL_pays_4.all (fw_rowq cL_pays 14) = true := by decide +kernel
set_option maxRecDepth 100000 in
theorem kL_pays_eq : kL_pays = kL_pays_0 ++ (kL_pays_1 ++ (kL_pays_2 ++ (kL_pays_3 ++ (kL_pays_4)))) := rfl
theorem kL_pays_all : kL_pays.all (fw_rowq cL_pays 14) = true := by
  rw [kL_pays_eq]
  simp only [List.all_append, Bool.and_eq_true]
  exact ⟨kL_pays_0_ok, ⟨kL_pays_1_ok, ⟨kL_pays_2_ok, ⟨kL_pays_3_ok, kL_pays_4_ok⟩⟩⟩⟩
set_option maxRecDepth 100000 in
theorem kL_pays_chain : fw_chain kL_pays = true := by decide +kernel
theorem kL_pays_ok : fw_chk cL_pays 14 kL_pays = true := by
  show (kL_pays.all (fw_rowq cL_pays 14) && fw_chain kL_pays) = true
  rw [kL_pays_all, kL_pays_chain]
  rfl
set_option maxRecDepth 100000 in
theorem kL_pays_cst : ∀ en ∈ kL_pays, fw_CstOK RL [] en := by
  have h : kL_pays.all (fw_cstq cp_L) = true := by decide +kernel
  exact fun en he => fw_cstX cp_L_ok (fun i v hq => nomatch hq) (List.all_eq_true.mp h en he)
def kL_free : List fw_Ent := [
  (0, 1, .aload_n 0, 0, 0), (1, 1, .iconst 5, 5, 0), (2, 1, .iload_n 1, 0, 0), (3, 1, .imul, 0, 0),
  (4, 1, .iconst 3, 3, 0), (5, 1, .iadd, 0, 0), (6, 1, .iconst 0, 0, 0), (7, 1, .iastore, 0, 0),
  (8, 1, .aload_n 0, 0, 0), (9, 1, .iconst 5, 5, 0), (10, 1, .iload_n 1, 0, 0), (11, 1, .imul, 0, 0),
  (12, 1, .iconst 4, 4, 0), (13, 1, .iadd, 0, 0), (14, 1, .iconst (-1), (-1), 0), (15, 1, .iastore, 0, 0),
  (16, 1, .return_, 0, 0)]
theorem kL_free_ok : fw_chk cL_free 2 kL_free = true := by decide +kernel
set_option maxRecDepth 100000 in
theorem kL_free_cst : ∀ en ∈ kL_free, fw_CstOK RL [] en := by
  have h : kL_free.all (fw_cstq cp_L) = true := by decide +kernel
  exact fun en he => fw_cstX cp_L_ok (fun i v hq => nomatch hq) (List.all_eq_true.mp h en he)
def kL_does : List fw_Ent := [
  (0, 1, .iconst 5, 5, 0), (1, 2, .iload 5, 0, 0), (3, 1, .imul, 0, 0), (4, 2, .istore 6, 0, 0),
  (6, 1, .aload_n 1, 0, 0), (7, 2, .iload 6, 0, 0), (9, 1, .iconst 4, 4, 0), (10, 1, .iadd, 0, 0),
  (11, 1, .iaload, 0, 0), (12, 2, .istore 7, 0, 0), (14, 1, .aload_n 1, 0, 0), (15, 2, .iload 6, 0, 0),
  (17, 1, .iconst 3, 3, 0), (18, 1, .iadd, 0, 0), (19, 1, .iaload, 0, 0), (20, 1, .iconst 2, 2, 0),
  (21, 3, .if_icmp .ne 131, 0, 152), (24, 1, .aload_n 1, 0, 0), (25, 2, .iload 6, 0, 0), (27, 1, .iconst 1, 1, 0),
  (28, 1, .iadd, 0, 0), (29, 1, .iaload, 0, 0), (30, 1, .aload_n 2, 0, 0), (31, 2, .bipush 8, 8, 0),
  (33, 2, .iload 7, 0, 0), (35, 1, .imul, 0, 0), (36, 1, .iconst 1, 1, 0), (37, 1, .iadd, 0, 0),
  (38, 1, .iaload, 0, 0), (39, 3, .invokestatic 15, 0, 0), (42, 2, .istore 8, 0, 0), (44, 1, .aload_n 1, 0, 0),
  (45, 2, .iload 6, 0, 0), (47, 1, .iaload, 0, 0), (48, 2, .iload 8, 0, 0), (50, 3, .invokestatic 9, 0, 0),
  (53, 3, .ifCond .ne 27, 0, 80), (56, 1, .aload_n 2, 0, 0), (57, 2, .bipush 8, 8, 0), (59, 2, .iload 7, 0, 0),
  (61, 1, .imul, 0, 0), (62, 1, .iconst 4, 4, 0), (63, 1, .iadd, 0, 0), (64, 1, .iconst 0, 0, 0),
  (65, 1, .iastore, 0, 0), (66, 1, .aload_n 0, 0, 0), (67, 1, .iconst 4, 4, 0), (68, 1, .dup2, 0, 0),
  (69, 1, .iaload, 0, 0), (70, 1, .iconst 1, 1, 0), (71, 1, .iadd, 0, 0), (72, 1, .iastore, 0, 0),
  (73, 1, .aload_n 1, 0, 0), (74, 2, .iload 5, 0, 0), (76, 3, .invokestatic 19, 0, 0), (79, 1, .return_, 0, 0),
  (80, 1, .aload_n 1, 0, 0), (81, 2, .iload 6, 0, 0), (83, 1, .iconst 1, 1, 0), (84, 1, .iadd, 0, 0),
  (85, 2, .iload 8, 0, 0), (87, 1, .iastore, 0, 0), (88, 1, .aload_n 2, 0, 0), (89, 2, .bipush 8, 8, 0),
  (91, 2, .iload 7, 0, 0), (93, 1, .imul, 0, 0), (94, 1, .iconst 5, 5, 0), (95, 1, .iadd, 0, 0),
  (96, 2, .iload 8, 0, 0), (98, 1, .iastore, 0, 0), (99, 1, .aload_n 3, 0, 0), (100, 2, .bipush 6, 6, 0),
  (102, 2, .iload 7, 0, 0), (104, 1, .imul, 0, 0), (105, 2, .iload 5, 0, 0), (107, 1, .iadd, 0, 0),
  (108, 1, .dup2, 0, 0), (109, 1, .iaload, 0, 0), (110, 1, .iconst 1, 1, 0), (111, 1, .iadd, 0, 0),
  (112, 1, .iastore, 0, 0), (113, 1, .aload_n 0, 0, 0), (114, 1, .iconst 5, 5, 0), (115, 1, .dup2, 0, 0),
  (116, 1, .iaload, 0, 0), (117, 1, .iconst 1, 1, 0), (118, 1, .iadd, 0, 0), (119, 1, .iastore, 0, 0),
  (120, 2, .iload 8, 0, 0), (122, 1, .aload_n 2, 0, 0), (123, 2, .bipush 8, 8, 0), (125, 2, .iload 7, 0, 0),
  (127, 1, .imul, 0, 0), (128, 1, .iconst 1, 1, 0), (129, 1, .iadd, 0, 0), (130, 1, .iaload, 0, 0),
  (131, 3, .if_icmp .ne 20, 0, 151), (134, 1, .aload_n 0, 0, 0), (135, 1, .aload_n 1, 0, 0), (136, 1, .aload_n 2, 0, 0),
  (137, 1, .aload_n 3, 0, 0), (138, 2, .aload 4, 0, 0), (140, 2, .iload 7, 0, 0), (142, 3, .invokestatic 23, 0, 0),
  (145, 1, .aload_n 1, 0, 0), (146, 2, .iload 5, 0, 0), (148, 3, .invokestatic 19, 0, 0), (151, 1, .return_, 0, 0),
  (152, 1, .aload_n 1, 0, 0), (153, 2, .iload 6, 0, 0), (155, 1, .iconst 3, 3, 0), (156, 1, .iadd, 0, 0),
  (157, 1, .iaload, 0, 0), (158, 1, .iconst 1, 1, 0), (159, 3, .if_icmp .ne 116, 0, 275), (162, 1, .aload_n 2, 0, 0),
  (163, 2, .bipush 8, 8, 0), (165, 2, .iload 7, 0, 0), (167, 1, .imul, 0, 0), (168, 1, .iconst 4, 4, 0),
  (169, 1, .iadd, 0, 0), (170, 1, .iaload, 0, 0), (171, 3, .ifCond .ne 104, 0, 275), (174, 1, .aload_n 1, 0, 0),
  (175, 2, .iload 6, 0, 0), (177, 1, .iconst 1, 1, 0), (178, 1, .iadd, 0, 0), (179, 1, .iaload, 0, 0),
  (180, 1, .aload_n 2, 0, 0), (181, 2, .bipush 8, 8, 0), (183, 2, .iload 7, 0, 0), (185, 1, .imul, 0, 0),
  (186, 1, .iconst 5, 5, 0), (187, 1, .iadd, 0, 0), (188, 1, .iaload, 0, 0), (189, 3, .if_icmp .ne 7, 0, 196),
  (192, 1, .iconst 1, 1, 0), (193, 3, .goto 4, 0, 197), (196, 1, .iconst 0, 0, 0), (197, 2, .istore 8, 0, 0),
  (199, 1, .aload_n 1, 0, 0), (200, 2, .iload 6, 0, 0), (202, 1, .iconst 3, 3, 0), (203, 1, .iadd, 0, 0),
  (204, 2, .iload 8, 0, 0), (206, 3, .ifCond .eq 7, 0, 213), (209, 1, .iconst 2, 2, 0), (210, 3, .goto 4, 0, 214),
  (213, 1, .iconst 1, 1, 0), (214, 1, .iastore, 0, 0), (215, 1, .aload_n 2, 0, 0), (216, 2, .bipush 8, 8, 0),
  (218, 2, .iload 7, 0, 0), (220, 1, .imul, 0, 0), (221, 1, .iconst 4, 4, 0), (222, 1, .iadd, 0, 0),
  (223, 2, .iload 8, 0, 0), (225, 3, .ifCond .eq 7, 0, 232), (228, 1, .iconst 1, 1, 0), (229, 3, .goto 4, 0, 233),
  (232, 1, .iconst 0, 0, 0), (233, 1, .iastore, 0, 0), (234, 1, .aload_n 0, 0, 0), (235, 1, .iconst 5, 5, 0),
  (236, 1, .dup2, 0, 0), (237, 1, .iaload, 0, 0), (238, 2, .iload 8, 0, 0), (240, 3, .ifCond .eq 7, 0, 247),
  (243, 1, .iconst 0, 0, 0), (244, 3, .goto 4, 0, 248), (247, 1, .iconst 1, 1, 0), (248, 1, .iadd, 0, 0),
  (249, 1, .iastore, 0, 0), (250, 1, .aload_n 1, 0, 0), (251, 2, .iload 6, 0, 0), (253, 1, .iconst 1, 1, 0),
  (254, 1, .iadd, 0, 0), (255, 1, .aload_n 1, 0, 0), (256, 2, .iload 6, 0, 0), (258, 1, .iconst 1, 1, 0),
  (259, 1, .iadd, 0, 0), (260, 1, .iaload, 0, 0), (261, 1, .aload_n 2, 0, 0), (262, 2, .bipush 8, 8, 0),
  (264, 2, .iload 7, 0, 0), (266, 1, .imul, 0, 0), (267, 1, .iconst 5, 5, 0), (268, 1, .iadd, 0, 0),
  (269, 1, .iaload, 0, 0), (270, 3, .invokestatic 15, 0, 0), (273, 1, .iastore, 0, 0), (274, 1, .return_, 0, 0),
  (275, 1, .iconst (-1), (-1), 0), (276, 2, .istore 8, 0, 0), (278, 1, .aload_n 0, 0, 0), (279, 1, .iconst 3, 3, 0),
  (280, 1, .iaload, 0, 0), (281, 1, .iconst 1, 1, 0), (282, 1, .isub, 0, 0), (283, 2, .istore 9, 0, 0),
  (285, 2, .iload 9, 0, 0), (287, 3, .ifCond .lt 141, 0, 428), (290, 1, .aload_n 2, 0, 0), (291, 2, .bipush 8, 8, 0),
  (293, 2, .iload 9, 0, 0), (295, 1, .imul, 0, 0), (296, 1, .iconst 4, 4, 0), (297, 1, .iadd, 0, 0),
  (298, 1, .iaload, 0, 0), (299, 3, .ifCond .ne 19, 0, 318), (302, 1, .aload_n 1, 0, 0), (303, 1, .aload_n 2, 0, 0),
  (304, 2, .iload 5, 0, 0), (306, 2, .iload 9, 0, 0), (308, 3, .invokestatic 27, 0, 0), (311, 3, .ifCond .eq 7, 0, 318),
  (314, 1, .iconst 1, 1, 0), (315, 3, .goto 4, 0, 319), (318, 1, .iconst 0, 0, 0), (319, 2, .istore 10, 0, 0),
  (321, 1, .iconst 0, 0, 0), (322, 2, .istore 11, 0, 0), (324, 2, .iload 11, 0, 0), (326, 1, .aload_n 0, 0, 0),
  (327, 1, .iconst 2, 2, 0), (328, 1, .iaload, 0, 0), (329, 3, .if_icmp .ge 53, 0, 382), (332, 2, .iload 10, 0, 0),
  (334, 3, .ifCond .eq 39, 0, 373), (337, 2, .iload 11, 0, 0), (339, 2, .iload 5, 0, 0), (341, 3, .if_icmp .eq 28, 0, 369),
  (344, 1, .aload_n 1, 0, 0), (345, 1, .iconst 5, 5, 0), (346, 2, .iload 11, 0, 0), (348, 1, .imul, 0, 0),
  (349, 1, .iconst 3, 3, 0), (350, 1, .iadd, 0, 0), (351, 1, .iaload, 0, 0), (352, 1, .iconst 1, 1, 0),
  (353, 3, .if_icmp .ne 16, 0, 369), (356, 1, .aload_n 1, 0, 0), (357, 1, .iconst 5, 5, 0), (358, 2, .iload 11, 0, 0),
  (360, 1, .imul, 0, 0), (361, 1, .iconst 4, 4, 0), (362, 1, .iadd, 0, 0), (363, 1, .iaload, 0, 0),
  (364, 2, .iload 9, 0, 0), (366, 3, .if_icmp .eq 7, 0, 373), (369, 1, .iconst 1, 1, 0), (370, 3, .goto 4, 0, 374),
  (373, 1, .iconst 0, 0, 0), (374, 2, .istore 10, 0, 0), (376, 3, .iinc 11 1, 1, 0), (379, 3, .goto (-55), 0, 324),
  (382, 2, .iload 10, 0, 0), (384, 3, .ifCond .eq 34, 0, 418), (387, 2, .iload 8, 0, 0), (389, 3, .ifCond .lt 24, 0, 413),
  (392, 1, .aload_n 2, 0, 0), (393, 2, .bipush 8, 8, 0), (395, 2, .iload 9, 0, 0), (397, 1, .imul, 0, 0),
  (398, 1, .iconst 2, 2, 0), (399, 1, .iadd, 0, 0), (400, 1, .iaload, 0, 0), (401, 1, .aload_n 2, 0, 0),
  (402, 2, .bipush 8, 8, 0), (404, 2, .iload 8, 0, 0), (406, 1, .imul, 0, 0), (407, 1, .iconst 2, 2, 0),
  (408, 1, .iadd, 0, 0), (409, 1, .iaload, 0, 0), (410, 3, .if_icmp .gt 8, 0, 418), (413, 2, .iload 9, 0, 0),
  (415, 3, .goto 5, 0, 420), (418, 2, .iload 8, 0, 0), (420, 2, .istore 8, 0, 0), (422, 3, .iinc 9 (-1), (-1), 0),
  (425, 3, .goto (-140), 0, 285), (428, 1, .aload_n 1, 0, 0), (429, 2, .iload 6, 0, 0), (431, 1, .iconst 3, 3, 0),
  (432, 1, .iadd, 0, 0), (433, 2, .iload 8, 0, 0), (435, 3, .ifCond .ge 7, 0, 442), (438, 1, .iconst 0, 0, 0),
  (439, 3, .goto 4, 0, 443), (442, 1, .iconst 1, 1, 0), (443, 1, .iastore, 0, 0), (444, 1, .aload_n 1, 0, 0),
  (445, 2, .iload 6, 0, 0), (447, 1, .iconst 4, 4, 0), (448, 1, .iadd, 0, 0), (449, 2, .iload 8, 0, 0),
  (451, 1, .iastore, 0, 0), (452, 1, .return_, 0, 0)]
def kL_does_0 : List fw_Ent := [
  (0, 1, .iconst 5, 5, 0), (1, 2, .iload 5, 0, 0), (3, 1, .imul, 0, 0), (4, 2, .istore 6, 0, 0),
  (6, 1, .aload_n 1, 0, 0), (7, 2, .iload 6, 0, 0), (9, 1, .iconst 4, 4, 0), (10, 1, .iadd, 0, 0),
  (11, 1, .iaload, 0, 0), (12, 2, .istore 7, 0, 0), (14, 1, .aload_n 1, 0, 0), (15, 2, .iload 6, 0, 0),
  (17, 1, .iconst 3, 3, 0), (18, 1, .iadd, 0, 0), (19, 1, .iaload, 0, 0), (20, 1, .iconst 2, 2, 0),
  (21, 3, .if_icmp .ne 131, 0, 152), (24, 1, .aload_n 1, 0, 0), (25, 2, .iload 6, 0, 0), (27, 1, .iconst 1, 1, 0),
  (28, 1, .iadd, 0, 0), (29, 1, .iaload, 0, 0), (30, 1, .aload_n 2, 0, 0), (31, 2, .bipush 8, 8, 0),
  (33, 2, .iload 7, 0, 0), (35, 1, .imul, 0, 0), (36, 1, .iconst 1, 1, 0), (37, 1, .iadd, 0, 0),
  (38, 1, .iaload, 0, 0), (39, 3, .invokestatic 15, 0, 0), (42, 2, .istore 8, 0, 0), (44, 1, .aload_n 1, 0, 0),
  (45, 2, .iload 6, 0, 0), (47, 1, .iaload, 0, 0), (48, 2, .iload 8, 0, 0), (50, 3, .invokestatic 9, 0, 0),
  (53, 3, .ifCond .ne 27, 0, 80), (56, 1, .aload_n 2, 0, 0), (57, 2, .bipush 8, 8, 0), (59, 2, .iload 7, 0, 0),
  (61, 1, .imul, 0, 0), (62, 1, .iconst 4, 4, 0), (63, 1, .iadd, 0, 0), (64, 1, .iconst 0, 0, 0),
  (65, 1, .iastore, 0, 0), (66, 1, .aload_n 0, 0, 0), (67, 1, .iconst 4, 4, 0), (68, 1, .dup2, 0, 0),
  (69, 1, .iaload, 0, 0), (70, 1, .iconst 1, 1, 0)]
set_option maxRecDepth 100000 in
theorem kL_does_0_ok : kL_does_0.all (fw_rowq cL_does 12) = true := by decide +kernel
def kL_does_1 : List fw_Ent := [
  (71, 1, .iadd, 0, 0), (72, 1, .iastore, 0, 0), (73, 1, .aload_n 1, 0, 0), (74, 2, .iload 5, 0, 0),
  (76, 3, .invokestatic 19, 0, 0), (79, 1, .return_, 0, 0), (80, 1, .aload_n 1, 0, 0), (81, 2, .iload 6, 0, 0),
  (83, 1, .iconst 1, 1, 0), (84, 1, .iadd, 0, 0), (85, 2, .iload 8, 0, 0), (87, 1, .iastore, 0, 0),
  (88, 1, .aload_n 2, 0, 0), (89, 2, .bipush 8, 8, 0), (91, 2, .iload 7, 0, 0), (93, 1, .imul, 0, 0),
  (94, 1, .iconst 5, 5, 0), (95, 1, .iadd, 0, 0), (96, 2, .iload 8, 0, 0), (98, 1, .iastore, 0, 0),
  (99, 1, .aload_n 3, 0, 0), (100, 2, .bipush 6, 6, 0), (102, 2, .iload 7, 0, 0), (104, 1, .imul, 0, 0),
  (105, 2, .iload 5, 0, 0), (107, 1, .iadd, 0, 0), (108, 1, .dup2, 0, 0), (109, 1, .iaload, 0, 0),
  (110, 1, .iconst 1, 1, 0), (111, 1, .iadd, 0, 0), (112, 1, .iastore, 0, 0), (113, 1, .aload_n 0, 0, 0),
  (114, 1, .iconst 5, 5, 0), (115, 1, .dup2, 0, 0), (116, 1, .iaload, 0, 0), (117, 1, .iconst 1, 1, 0),
  (118, 1, .iadd, 0, 0), (119, 1, .iastore, 0, 0), (120, 2, .iload 8, 0, 0), (122, 1, .aload_n 2, 0, 0),
  (123, 2, .bipush 8, 8, 0), (125, 2, .iload 7, 0, 0), (127, 1, .imul, 0, 0), (128, 1, .iconst 1, 1, 0),
  (129, 1, .iadd, 0, 0), (130, 1, .iaload, 0, 0), (131, 3, .if_icmp .ne 20, 0, 151), (134, 1, .aload_n 0, 0, 0),
  (135, 1, .aload_n 1, 0, 0), (136, 1, .aload_n 2, 0, 0)]
set_option maxRecDepth 100000 in
theorem kL_does_1_ok : kL_does_1.all (fw_rowq cL_does 12) = true := by decide +kernel
def kL_does_2 : List fw_Ent := [
  (137, 1, .aload_n 3, 0, 0), (138, 2, .aload 4, 0, 0), (140, 2, .iload 7, 0, 0), (142, 3, .invokestatic 23, 0, 0),
  (145, 1, .aload_n 1, 0, 0), (146, 2, .iload 5, 0, 0), (148, 3, .invokestatic 19, 0, 0), (151, 1, .return_, 0, 0),
  (152, 1, .aload_n 1, 0, 0), (153, 2, .iload 6, 0, 0), (155, 1, .iconst 3, 3, 0), (156, 1, .iadd, 0, 0),
  (157, 1, .iaload, 0, 0), (158, 1, .iconst 1, 1, 0), (159, 3, .if_icmp .ne 116, 0, 275), (162, 1, .aload_n 2, 0, 0),
  (163, 2, .bipush 8, 8, 0), (165, 2, .iload 7, 0, 0), (167, 1, .imul, 0, 0), (168, 1, .iconst 4, 4, 0),
  (169, 1, .iadd, 0, 0), (170, 1, .iaload, 0, 0), (171, 3, .ifCond .ne 104, 0, 275), (174, 1, .aload_n 1, 0, 0),
  (175, 2, .iload 6, 0, 0), (177, 1, .iconst 1, 1, 0), (178, 1, .iadd, 0, 0), (179, 1, .iaload, 0, 0),
  (180, 1, .aload_n 2, 0, 0), (181, 2, .bipush 8, 8, 0), (183, 2, .iload 7, 0, 0), (185, 1, .imul, 0, 0),
  (186, 1, .iconst 5, 5, 0), (187, 1, .iadd, 0, 0), (188, 1, .iaload, 0, 0), (189, 3, .if_icmp .ne 7, 0, 196),
  (192, 1, .iconst 1, 1, 0), (193, 3, .goto 4, 0, 197), (196, 1, .iconst 0, 0, 0), (197, 2, .istore 8, 0, 0),
  (199, 1, .aload_n 1, 0, 0), (200, 2, .iload 6, 0, 0), (202, 1, .iconst 3, 3, 0), (203, 1, .iadd, 0, 0),
  (204, 2, .iload 8, 0, 0), (206, 3, .ifCond .eq 7, 0, 213), (209, 1, .iconst 2, 2, 0), (210, 3, .goto 4, 0, 214),
  (213, 1, .iconst 1, 1, 0), (214, 1, .iastore, 0, 0)]
set_option maxRecDepth 100000 in
theorem kL_does_2_ok : kL_does_2.all (fw_rowq cL_does 12) = true := by decide +kernel
def kL_does_3 : List fw_Ent := [
  (215, 1, .aload_n 2, 0, 0), (216, 2, .bipush 8, 8, 0), (218, 2, .iload 7, 0, 0), (220, 1, .imul, 0, 0),
  (221, 1, .iconst 4, 4, 0), (222, 1, .iadd, 0, 0), (223, 2, .iload 8, 0, 0), (225, 3, .ifCond .eq 7, 0, 232),
  (228, 1, .iconst 1, 1, 0), (229, 3, .goto 4, 0, 233), (232, 1, .iconst 0, 0, 0), (233, 1, .iastore, 0, 0),
  (234, 1, .aload_n 0, 0, 0), (235, 1, .iconst 5, 5, 0), (236, 1, .dup2, 0, 0), (237, 1, .iaload, 0, 0),
  (238, 2, .iload 8, 0, 0), (240, 3, .ifCond .eq 7, 0, 247), (243, 1, .iconst 0, 0, 0), (244, 3, .goto 4, 0, 248),
  (247, 1, .iconst 1, 1, 0), (248, 1, .iadd, 0, 0), (249, 1, .iastore, 0, 0), (250, 1, .aload_n 1, 0, 0),
  (251, 2, .iload 6, 0, 0), (253, 1, .iconst 1, 1, 0), (254, 1, .iadd, 0, 0), (255, 1, .aload_n 1, 0, 0),
  (256, 2, .iload 6, 0, 0), (258, 1, .iconst 1, 1, 0), (259, 1, .iadd, 0, 0), (260, 1, .iaload, 0, 0),
  (261, 1, .aload_n 2, 0, 0), (262, 2, .bipush 8, 8, 0), (264, 2, .iload 7, 0, 0), (266, 1, .imul, 0, 0),
  (267, 1, .iconst 5, 5, 0), (268, 1, .iadd, 0, 0), (269, 1, .iaload, 0, 0), (270, 3, .invokestatic 15, 0, 0),
  (273, 1, .iastore, 0, 0), (274, 1, .return_, 0, 0), (275, 1, .iconst (-1), (-1), 0), (276, 2, .istore 8, 0, 0),
  (278, 1, .aload_n 0, 0, 0), (279, 1, .iconst 3, 3, 0), (280, 1, .iaload, 0, 0), (281, 1, .iconst 1, 1, 0),
  (282, 1, .isub, 0, 0), (283, 2, .istore 9, 0, 0)]
set_option maxRecDepth 100000 in
theorem kL_does_3_ok : kL_does_3.all (fw_rowq cL_does 12) = true := by decide +kernel
def kL_does_4 : List fw_Ent := [
  (285, 2, .iload 9, 0, 0), (287, 3, .ifCond .lt 141, 0, 428), (290, 1, .aload_n 2, 0, 0), (291, 2, .bipush 8, 8, 0),
  (293, 2, .iload 9, 0, 0), (295, 1, .imul, 0, 0), (296, 1, .iconst 4, 4, 0), (297, 1, .iadd, 0, 0),
  (298, 1, .iaload, 0, 0), (299, 3, .ifCond .ne 19, 0, 318), (302, 1, .aload_n 1, 0, 0), (303, 1, .aload_n 2, 0, 0),
  (304, 2, .iload 5, 0, 0), (306, 2, .iload 9, 0, 0), (308, 3, .invokestatic 27, 0, 0), (311, 3, .ifCond .eq 7, 0, 318),
  (314, 1, .iconst 1, 1, 0), (315, 3, .goto 4, 0, 319), (318, 1, .iconst 0, 0, 0), (319, 2, .istore 10, 0, 0),
  (321, 1, .iconst 0, 0, 0), (322, 2, .istore 11, 0, 0), (324, 2, .iload 11, 0, 0), (326, 1, .aload_n 0, 0, 0),
  (327, 1, .iconst 2, 2, 0), (328, 1, .iaload, 0, 0), (329, 3, .if_icmp .ge 53, 0, 382), (332, 2, .iload 10, 0, 0),
  (334, 3, .ifCond .eq 39, 0, 373), (337, 2, .iload 11, 0, 0), (339, 2, .iload 5, 0, 0), (341, 3, .if_icmp .eq 28, 0, 369),
  (344, 1, .aload_n 1, 0, 0), (345, 1, .iconst 5, 5, 0), (346, 2, .iload 11, 0, 0), (348, 1, .imul, 0, 0),
  (349, 1, .iconst 3, 3, 0), (350, 1, .iadd, 0, 0), (351, 1, .iaload, 0, 0), (352, 1, .iconst 1, 1, 0),
  (353, 3, .if_icmp .ne 16, 0, 369), (356, 1, .aload_n 1, 0, 0), (357, 1, .iconst 5, 5, 0), (358, 2, .iload 11, 0, 0),
  (360, 1, .imul, 0, 0), (361, 1, .iconst 4, 4, 0), (362, 1, .iadd, 0, 0), (363, 1, .iaload, 0, 0),
  (364, 2, .iload 9, 0, 0), (366, 3, .if_icmp .eq 7, 0, 373)]
set_option maxRecDepth 100000 in
theorem kL_does_4_ok : kL_does_4.all (fw_rowq cL_does 12) = true := by decide +kernel
def kL_does_5 : List fw_Ent := [
  (369, 1, .iconst 1, 1, 0), (370, 3, .goto 4, 0, 374), (373, 1, .iconst 0, 0, 0), (374, 2, .istore 10, 0, 0),
  (376, 3, .iinc 11 1, 1, 0), (379, 3, .goto (-55), 0, 324), (382, 2, .iload 10, 0, 0), (384, 3, .ifCond .eq 34, 0, 418),
  (387, 2, .iload 8, 0, 0), (389, 3, .ifCond .lt 24, 0, 413), (392, 1, .aload_n 2, 0, 0), (393, 2, .bipush 8, 8, 0),
  (395, 2, .iload 9, 0, 0), (397, 1, .imul, 0, 0), (398, 1, .iconst 2, 2, 0), (399, 1, .iadd, 0, 0),
  (400, 1, .iaload, 0, 0), (401, 1, .aload_n 2, 0, 0), (402, 2, .bipush 8, 8, 0), (404, 2, .iload 8, 0, 0),
  (406, 1, .imul, 0, 0), (407, 1, .iconst 2, 2, 0), (408, 1, .iadd, 0, 0), (409, 1, .iaload, 0, 0),
  (410, 3, .if_icmp .gt 8, 0, 418), (413, 2, .iload 9, 0, 0), (415, 3, .goto 5, 0, 420), (418, 2, .iload 8, 0, 0),
  (420, 2, .istore 8, 0, 0), (422, 3, .iinc 9 (-1), (-1), 0), (425, 3, .goto (-140), 0, 285), (428, 1, .aload_n 1, 0, 0),
  (429, 2, .iload 6, 0, 0), (431, 1, .iconst 3, 3, 0), (432, 1, .iadd, 0, 0), (433, 2, .iload 8, 0, 0),
  (435, 3, .ifCond .ge 7, 0, 442), (438, 1, .iconst 0, 0, 0), (439, 3, .goto 4, 0, 443), (442, 1, .iconst 1, 1, 0),
  (443, 1, .iastore, 0, 0), (444, 1, .aload_n 1, 0, 0), (445, 2, .iload 6, 0, 0), (447, 1, .iconst 4, 4, 0),
  (448, 1, .iadd, 0, 0), (449, 2, .iload 8, 0, 0), (451, 1, .iastore, 0, 0), (452, 1, .return_, 0, 0)]
set_option maxRecDepth 100000 in
theorem kL_does_5_ok : kL_does_5.all (fw_rowq cL_does 12) = true := by decide +kernel
set_option maxRecDepth 100000 in
theorem kL_does_eq : kL_does = kL_does_0 ++ (kL_does_1 ++ (kL_does_2 ++ (kL_does_3 ++ (kL_does_4 ++ (kL_does_5))))) := rfl
theorem kL_does_all : kL_does.all (fw_rowq cL_does 12) = true := by
  rw [kL_does_eq]
  simp only [List.all_append, Bool.and_eq_true]
  exact ⟨kL_does_0_ok, ⟨kL_does_1_ok, ⟨kL_does_2_ok, ⟨kL_does_3_ok, ⟨kL_does_4_ok, kL_does_5_ok⟩⟩⟩⟩⟩
set_option maxRecDepth 100000 in
theorem kL_does_chain : fw_chain kL_does = true := by decide +kernel
theorem kL_does_ok : fw_chk cL_does 12 kL_does = true := by
  show (kL_does.all (fw_rowq cL_does 12) && fw_chain kL_does) = true
  rw [kL_does_all, kL_does_chain]
  rfl
set_option maxRecDepth 100000 in
theorem kL_does_cst : ∀ en ∈ kL_does, fw_CstOK RL [] en := by
  have h : kL_does.all (fw_cstq cp_L) = true := by decide +kernel
  exact fun en he => fw_cstX cp_L_ok (fun i v hq => nomatch hq) (List.all_eq_true.mp h en he)
def kL_ticks : List fw_Ent := [
  (0, 1, .iconst 0, 0, 0), (1, 2, .istore 6, 0, 0), (3, 2, .iload 6, 0, 0), (5, 2, .iload 5, 0, 0),
  (7, 3, .if_icmp .ge 168, 0, 175), (10, 1, .aload_n 0, 0, 0), (11, 1, .iconst 0, 0, 0), (12, 1, .dup2, 0, 0),
  (13, 1, .iaload, 0, 0), (14, 1, .iconst 1, 1, 0), (15, 1, .iadd, 0, 0), (16, 1, .iastore, 0, 0),
  (17, 1, .iconst 0, 0, 0), (18, 2, .istore 7, 0, 0), (20, 2, .iload 7, 0, 0), (22, 1, .aload_n 0, 0, 0),
  (23, 1, .iconst 2, 2, 0), (24, 1, .iaload, 0, 0), (25, 3, .if_icmp .ge 20, 0, 45), (28, 1, .aload_n 0, 0, 0),
  (29, 1, .aload_n 1, 0, 0), (30, 1, .aload_n 2, 0, 0), (31, 1, .aload_n 3, 0, 0), (32, 2, .aload 4, 0, 0),
  (34, 2, .iload 7, 0, 0), (36, 3, .invokestatic 31, 0, 0), (39, 3, .iinc 7 1, 1, 0), (42, 3, .goto (-22), 0, 20),
  (45, 1, .iconst 0, 0, 0), (46, 2, .istore 7, 0, 0), (48, 2, .iload 7, 0, 0), (50, 1, .aload_n 0, 0, 0),
  (51, 1, .iconst 3, 3, 0), (52, 1, .iaload, 0, 0), (53, 3, .if_icmp .ge 116, 0, 169), (56, 1, .aload_n 2, 0, 0),
  (57, 2, .bipush 8, 8, 0), (59, 2, .iload 7, 0, 0), (61, 1, .imul, 0, 0), (62, 1, .iconst 4, 4, 0),
  (63, 1, .iadd, 0, 0), (64, 1, .iaload, 0, 0), (65, 1, .iconst 2, 2, 0), (66, 3, .if_icmp .ge 26, 0, 92),
  (69, 1, .aload_n 2, 0, 0), (70, 2, .bipush 8, 8, 0), (72, 2, .iload 7, 0, 0), (74, 1, .imul, 0, 0),
  (75, 1, .iconst 2, 2, 0), (76, 1, .iadd, 0, 0), (77, 1, .iaload, 0, 0), (78, 1, .aload_n 0, 0, 0),
  (79, 1, .iconst 1, 1, 0), (80, 1, .iaload, 0, 0), (81, 1, .iadd, 0, 0), (82, 1, .aload_n 0, 0, 0),
  (83, 1, .iconst 0, 0, 0), (84, 1, .iaload, 0, 0), (85, 3, .if_icmp .ge 7, 0, 92), (88, 1, .iconst 1, 1, 0),
  (89, 3, .goto 4, 0, 93), (92, 1, .iconst 0, 0, 0), (93, 2, .istore 8, 0, 0), (95, 1, .aload_n 2, 0, 0),
  (96, 2, .bipush 8, 8, 0), (98, 2, .iload 7, 0, 0), (100, 1, .imul, 0, 0), (101, 1, .iconst 4, 4, 0),
  (102, 1, .iadd, 0, 0), (103, 2, .iload 8, 0, 0), (105, 3, .ifCond .eq 7, 0, 112), (108, 1, .iconst 3, 3, 0),
  (109, 3, .goto 12, 0, 121), (112, 1, .aload_n 2, 0, 0), (113, 2, .bipush 8, 8, 0), (115, 2, .iload 7, 0, 0),
  (117, 1, .imul, 0, 0), (118, 1, .iconst 4, 4, 0), (119, 1, .iadd, 0, 0), (120, 1, .iaload, 0, 0),
  (121, 1, .iastore, 0, 0), (122, 1, .iconst 0, 0, 0), (123, 2, .istore 9, 0, 0), (125, 2, .iload 9, 0, 0),
  (127, 1, .aload_n 0, 0, 0), (128, 1, .iconst 2, 2, 0), (129, 1, .iaload, 0, 0), (130, 3, .if_icmp .ge 33, 0, 163),
  (133, 2, .iload 8, 0, 0), (135, 3, .ifCond .eq 22, 0, 157), (138, 1, .aload_n 1, 0, 0), (139, 1, .iconst 5, 5, 0),
  (140, 2, .iload 9, 0, 0), (142, 1, .imul, 0, 0), (143, 1, .iconst 4, 4, 0), (144, 1, .iadd, 0, 0),
  (145, 1, .iaload, 0, 0), (146, 2, .iload 7, 0, 0), (148, 3, .if_icmp .ne 9, 0, 157), (151, 1, .aload_n 1, 0, 0),
  (152, 2, .iload 9, 0, 0), (154, 3, .invokestatic 19, 0, 0), (157, 3, .iinc 9 1, 1, 0), (160, 3, .goto (-35), 0, 125),
  (163, 3, .iinc 7 1, 1, 0), (166, 3, .goto (-118), 0, 48), (169, 3, .iinc 6 1, 1, 0), (172, 3, .goto (-169), 0, 3),
  (175, 1, .return_, 0, 0)]
def kL_ticks_0 : List fw_Ent := [
  (0, 1, .iconst 0, 0, 0), (1, 2, .istore 6, 0, 0), (3, 2, .iload 6, 0, 0), (5, 2, .iload 5, 0, 0),
  (7, 3, .if_icmp .ge 168, 0, 175), (10, 1, .aload_n 0, 0, 0), (11, 1, .iconst 0, 0, 0), (12, 1, .dup2, 0, 0),
  (13, 1, .iaload, 0, 0), (14, 1, .iconst 1, 1, 0), (15, 1, .iadd, 0, 0), (16, 1, .iastore, 0, 0),
  (17, 1, .iconst 0, 0, 0), (18, 2, .istore 7, 0, 0), (20, 2, .iload 7, 0, 0), (22, 1, .aload_n 0, 0, 0),
  (23, 1, .iconst 2, 2, 0), (24, 1, .iaload, 0, 0), (25, 3, .if_icmp .ge 20, 0, 45), (28, 1, .aload_n 0, 0, 0),
  (29, 1, .aload_n 1, 0, 0), (30, 1, .aload_n 2, 0, 0), (31, 1, .aload_n 3, 0, 0), (32, 2, .aload 4, 0, 0),
  (34, 2, .iload 7, 0, 0), (36, 3, .invokestatic 31, 0, 0), (39, 3, .iinc 7 1, 1, 0), (42, 3, .goto (-22), 0, 20),
  (45, 1, .iconst 0, 0, 0), (46, 2, .istore 7, 0, 0), (48, 2, .iload 7, 0, 0), (50, 1, .aload_n 0, 0, 0),
  (51, 1, .iconst 3, 3, 0), (52, 1, .iaload, 0, 0), (53, 3, .if_icmp .ge 116, 0, 169), (56, 1, .aload_n 2, 0, 0),
  (57, 2, .bipush 8, 8, 0), (59, 2, .iload 7, 0, 0), (61, 1, .imul, 0, 0), (62, 1, .iconst 4, 4, 0),
  (63, 1, .iadd, 0, 0), (64, 1, .iaload, 0, 0), (65, 1, .iconst 2, 2, 0), (66, 3, .if_icmp .ge 26, 0, 92),
  (69, 1, .aload_n 2, 0, 0), (70, 2, .bipush 8, 8, 0), (72, 2, .iload 7, 0, 0), (74, 1, .imul, 0, 0),
  (75, 1, .iconst 2, 2, 0), (76, 1, .iadd, 0, 0)]
set_option maxRecDepth 100000 in
theorem kL_ticks_0_ok : kL_ticks_0.all (fw_rowq cL_ticks 10) = true := by decide +kernel
def kL_ticks_1 : List fw_Ent := [
  (77, 1, .iaload, 0, 0), (78, 1, .aload_n 0, 0, 0), (79, 1, .iconst 1, 1, 0), (80, 1, .iaload, 0, 0),
  (81, 1, .iadd, 0, 0), (82, 1, .aload_n 0, 0, 0), (83, 1, .iconst 0, 0, 0), (84, 1, .iaload, 0, 0),
  (85, 3, .if_icmp .ge 7, 0, 92), (88, 1, .iconst 1, 1, 0), (89, 3, .goto 4, 0, 93), (92, 1, .iconst 0, 0, 0),
  (93, 2, .istore 8, 0, 0), (95, 1, .aload_n 2, 0, 0), (96, 2, .bipush 8, 8, 0), (98, 2, .iload 7, 0, 0),
  (100, 1, .imul, 0, 0), (101, 1, .iconst 4, 4, 0), (102, 1, .iadd, 0, 0), (103, 2, .iload 8, 0, 0),
  (105, 3, .ifCond .eq 7, 0, 112), (108, 1, .iconst 3, 3, 0), (109, 3, .goto 12, 0, 121), (112, 1, .aload_n 2, 0, 0),
  (113, 2, .bipush 8, 8, 0), (115, 2, .iload 7, 0, 0), (117, 1, .imul, 0, 0), (118, 1, .iconst 4, 4, 0),
  (119, 1, .iadd, 0, 0), (120, 1, .iaload, 0, 0), (121, 1, .iastore, 0, 0), (122, 1, .iconst 0, 0, 0),
  (123, 2, .istore 9, 0, 0), (125, 2, .iload 9, 0, 0), (127, 1, .aload_n 0, 0, 0), (128, 1, .iconst 2, 2, 0),
  (129, 1, .iaload, 0, 0), (130, 3, .if_icmp .ge 33, 0, 163), (133, 2, .iload 8, 0, 0), (135, 3, .ifCond .eq 22, 0, 157),
  (138, 1, .aload_n 1, 0, 0), (139, 1, .iconst 5, 5, 0), (140, 2, .iload 9, 0, 0), (142, 1, .imul, 0, 0),
  (143, 1, .iconst 4, 4, 0), (144, 1, .iadd, 0, 0), (145, 1, .iaload, 0, 0), (146, 2, .iload 7, 0, 0),
  (148, 3, .if_icmp .ne 9, 0, 157), (151, 1, .aload_n 1, 0, 0)]
set_option maxRecDepth 100000 in
theorem kL_ticks_1_ok : kL_ticks_1.all (fw_rowq cL_ticks 10) = true := by decide +kernel
def kL_ticks_2 : List fw_Ent := [
  (152, 2, .iload 9, 0, 0), (154, 3, .invokestatic 19, 0, 0), (157, 3, .iinc 9 1, 1, 0), (160, 3, .goto (-35), 0, 125),
  (163, 3, .iinc 7 1, 1, 0), (166, 3, .goto (-118), 0, 48), (169, 3, .iinc 6 1, 1, 0), (172, 3, .goto (-169), 0, 3),
  (175, 1, .return_, 0, 0)]
set_option maxRecDepth 100000 in
theorem kL_ticks_2_ok : kL_ticks_2.all (fw_rowq cL_ticks 10) = true := by decide +kernel
set_option maxRecDepth 100000 in
theorem kL_ticks_eq : kL_ticks = kL_ticks_0 ++ (kL_ticks_1 ++ (kL_ticks_2)) := rfl
theorem kL_ticks_all : kL_ticks.all (fw_rowq cL_ticks 10) = true := by
  rw [kL_ticks_eq]
  simp only [List.all_append, Bool.and_eq_true]
  exact ⟨kL_ticks_0_ok, ⟨kL_ticks_1_ok, kL_ticks_2_ok⟩⟩
set_option maxRecDepth 100000 in
theorem kL_ticks_chain : fw_chain kL_ticks = true := by decide +kernel
theorem kL_ticks_ok : fw_chk cL_ticks 10 kL_ticks = true := by
  show (kL_ticks.all (fw_rowq cL_ticks 10) && fw_chain kL_ticks) = true
  rw [kL_ticks_all, kL_ticks_chain]
  rfl
set_option maxRecDepth 100000 in
theorem kL_ticks_cst : ∀ en ∈ kL_ticks, fw_CstOK RL [] en := by
  have h : kL_ticks.all (fw_cstq cp_L) = true := by decide +kernel
  exact fun en he => fw_cstX cp_L_ok (fun i v hq => nomatch hq) (List.all_eq_true.mp h en he)
def kL_drops : List fw_Ent := [
  (0, 1, .aload_n 0, 0, 0), (1, 1, .iconst 5, 5, 0), (2, 1, .iload_n 2, 0, 0), (3, 1, .imul, 0, 0),
  (4, 1, .iconst 4, 4, 0), (5, 1, .iadd, 0, 0), (6, 1, .iaload, 0, 0), (7, 1, .istore_n 3, 0, 0),
  (8, 1, .aload_n 0, 0, 0), (9, 1, .iconst 5, 5, 0), (10, 1, .iload_n 2, 0, 0), (11, 1, .imul, 0, 0),
  (12, 1, .iconst 3, 3, 0), (13, 1, .iadd, 0, 0), (14, 1, .iaload, 0, 0), (15, 1, .iconst 2, 2, 0),
  (16, 3, .if_icmp .ne 12, 0, 28), (19, 1, .aload_n 1, 0, 0), (20, 2, .bipush 8, 8, 0), (22, 1, .iload_n 3, 0, 0),
  (23, 1, .imul, 0, 0), (24, 1, .iconst 4, 4, 0), (25, 1, .iadd, 0, 0), (26, 1, .iconst 0, 0, 0),
  (27, 1, .iastore, 0, 0), (28, 1, .aload_n 0, 0, 0), (29, 1, .iload_n 2, 0, 0), (30, 3, .invokestatic 19, 0, 0),
  (33, 1, .iload_n 3, 0, 0), (34, 1, .ireturn, 0, 0)]
theorem kL_drops_ok : fw_chk cL_drops 4 kL_drops = true := by decide +kernel
set_option maxRecDepth 100000 in
theorem kL_drops_cst : ∀ en ∈ kL_drops, fw_CstOK RL [] en := by
  have h : kL_drops.all (fw_cstq cp_L) = true := by decide +kernel
  exact fun en he => fw_cstX cp_L_ok (fun i v hq => nomatch hq) (List.all_eq_true.mp h en he)
def kL_delivered : List fw_Ent := [
  (0, 1, .iconst 0, 0, 0), (1, 1, .istore_n 2, 0, 0), (2, 1, .iconst 0, 0, 0), (3, 1, .istore_n 3, 0, 0),
  (4, 1, .iload_n 3, 0, 0), (5, 1, .aload_n 0, 0, 0), (6, 1, .iconst 3, 3, 0), (7, 1, .iaload, 0, 0),
  (8, 3, .if_icmp .ge 29, 0, 37), (11, 1, .iload_n 2, 0, 0), (12, 1, .aload_n 1, 0, 0), (13, 2, .bipush 8, 8, 0),
  (15, 1, .iload_n 3, 0, 0), (16, 1, .imul, 0, 0), (17, 1, .iconst 4, 4, 0), (18, 1, .iadd, 0, 0),
  (19, 1, .iaload, 0, 0), (20, 1, .iconst 2, 2, 0), (21, 3, .if_icmp .ne 7, 0, 28), (24, 1, .iconst 1, 1, 0),
  (25, 3, .goto 4, 0, 29), (28, 1, .iconst 0, 0, 0), (29, 1, .iadd, 0, 0), (30, 1, .istore_n 2, 0, 0),
  (31, 3, .iinc 3 1, 1, 0), (34, 3, .goto (-30), 0, 4), (37, 1, .iload_n 2, 0, 0), (38, 1, .ireturn, 0, 0)]
theorem kL_delivered_ok : fw_chk cL_delivered 4 kL_delivered = true := by decide +kernel
set_option maxRecDepth 100000 in
theorem kL_delivered_cst : ∀ en ∈ kL_delivered, fw_CstOK RL [] en := by
  have h : kL_delivered.all (fw_cstq cp_L) = true := by decide +kernel
  exact fun en he => fw_cstX cp_L_ok (fun i v hq => nomatch hq) (List.all_eq_true.mp h en he)
def kL_area : List fw_Ent := [
  (0, 2, .bipush 15, 15, 0), (2, 1, .iconst 4, 4, 0), (3, 1, .iload_n 0, 0, 0), (4, 1, .iconst 4, 4, 0),
  (5, 1, .irem, 0, 0), (6, 1, .imul, 0, 0), (7, 1, .ishl, 0, 0), (8, 2, .bipush 15, 15, 0),
  (10, 1, .iconst 4, 4, 0), (11, 1, .iload_n 0, 0, 0), (12, 1, .iconst 4, 4, 0), (13, 1, .idiv, 0, 0),
  (14, 1, .iconst 4, 4, 0), (15, 1, .irem, 0, 0), (16, 1, .imul, 0, 0), (17, 1, .ishl, 0, 0),
  (18, 1, .ior, 0, 0), (19, 1, .istore_n 1, 0, 0), (20, 3, .sipush 4369, 4369, 0), (23, 1, .iload_n 0, 0, 0),
  (24, 1, .iconst 4, 4, 0), (25, 1, .irem, 0, 0), (26, 1, .ishl, 0, 0), (27, 3, .sipush 4369, 4369, 0),
  (30, 1, .iload_n 0, 0, 0), (31, 1, .iconst 4, 4, 0), (32, 1, .idiv, 0, 0), (33, 1, .iconst 4, 4, 0),
  (34, 1, .irem, 0, 0), (35, 1, .ishl, 0, 0), (36, 1, .ior, 0, 0), (37, 1, .istore_n 2, 0, 0),
  (38, 1, .iload_n 0, 0, 0), (39, 1, .iconst 5, 5, 0), (40, 1, .irem, 0, 0), (41, 3, .ifCond .ne 13, 0, 54),
  (44, 1, .iload_n 0, 0, 0), (45, 2, .bipush 7, 7, 0), (47, 1, .imul, 0, 0), (48, 2, .ldc 34, 65535, 0),
  (50, 1, .iand, 0, 0), (51, 3, .goto 29, 0, 80), (54, 1, .iload_n 0, 0, 0), (55, 1, .iconst 5, 5, 0),
  (56, 1, .irem, 0, 0), (57, 1, .iconst 1, 1, 0), (58, 3, .if_icmp .ne 8, 0, 66), (61, 2, .ldc 34, 65535, 0),
  (63, 3, .goto 17, 0, 80), (66, 1, .iload_n 0, 0, 0), (67, 1, .iconst 5, 5, 0), (68, 1, .irem, 0, 0),
  (69, 1, .iconst 4, 4, 0), (70, 3, .if_icmp .ge 9, 0, 79), (73, 1, .iload_n 1, 0, 0), (74, 1, .iload_n 2, 0, 0),
  (75, 1, .ior, 0, 0), (76, 3, .goto 4, 0, 80), (79, 1, .iload_n 2, 0, 0), (80, 1, .ireturn, 0, 0)]
theorem kL_area_ok : fw_chk cL_area 3 kL_area = true := by decide +kernel
set_option maxRecDepth 100000 in
theorem kL_area_cst : ∀ en ∈ kL_area, fw_CstOK RL [] en := by
  have h : kL_area.all (fw_cstq cp_L) = true := by decide +kernel
  exact fun en he => fw_cstX cp_L_ok (fun i v hq => nomatch hq) (List.all_eq_true.mp h en he)
def kL_acts : List fw_Ent := [
  (0, 2, .iload 6, 0, 0), (2, 1, .iconst 4, 4, 0), (3, 1, .ishr, 0, 0), (4, 2, .ldc 35, 100000, 0),
  (6, 3, .invokestatic 36, 0, 0), (9, 2, .istore 7, 0, 0), (11, 1, .aload_n 1, 0, 0), (12, 1, .iconst 2, 2, 0),
  (13, 1, .iaload, 0, 0), (14, 3, .ifCond .ne 7, 0, 21), (17, 1, .iconst 0, 0, 0), (18, 3, .goto 9, 0, 27),
  (21, 2, .iload 7, 0, 0), (23, 1, .aload_n 1, 0, 0), (24, 1, .iconst 2, 2, 0), (25, 1, .iaload, 0, 0),
  (26, 1, .irem, 0, 0), (27, 2, .istore 8, 0, 0), (29, 2, .iload 6, 0, 0), (31, 2, .bipush 16, 16, 0),
  (33, 3, .invokestatic 36, 0, 0), (36, 56, .tableswitch 567 0 9 #[56, 56, 167, 237, 237, 237, 237, 490, 521, 521], 0, 0), (92, 1, .aload_n 1, 0, 0), (93, 1, .iconst 2, 2, 0),
  (94, 1, .iaload, 0, 0), (95, 2, .bipush 6, 6, 0), (97, 3, .if_icmp .ne 28, 0, 125), (100, 1, .aload_n 0, 0, 0),
  (101, 2, .iload 7, 0, 0), (103, 3, .invokestatic 39, 0, 0), (106, 2, .iload 7, 0, 0), (108, 2, .bipush 16, 16, 0),
  (110, 1, .irem, 0, 0), (111, 3, .invokestatic 43, 0, 0), (114, 2, .ldc 47, (-100003), 0), (116, 3, .if_icmp .ne 7, 0, 123),
  (119, 1, .iconst 1, 1, 0), (120, 3, .goto 4, 0, 124), (123, 1, .iconst 0, 0, 0), (124, 1, .ireturn, 0, 0),
  (125, 1, .aload_n 2, 0, 0), (126, 1, .iconst 5, 5, 0), (127, 1, .aload_n 1, 0, 0), (128, 1, .iconst 2, 2, 0),
  (129, 1, .iaload, 0, 0), (130, 1, .imul, 0, 0), (131, 2, .iload 7, 0, 0), (133, 3, .invokestatic 39, 0, 0),
  (136, 1, .iastore, 0, 0), (137, 1, .aload_n 2, 0, 0), (138, 1, .iconst 5, 5, 0), (139, 1, .aload_n 1, 0, 0),
  (140, 1, .iconst 2, 2, 0), (141, 1, .iaload, 0, 0), (142, 1, .imul, 0, 0), (143, 1, .iconst 1, 1, 0),
  (144, 1, .iadd, 0, 0), (145, 2, .iload 7, 0, 0), (147, 2, .bipush 16, 16, 0), (149, 1, .irem, 0, 0),
  (150, 1, .iastore, 0, 0), (151, 1, .aload_n 2, 0, 0), (152, 1, .iconst 5, 5, 0), (153, 1, .aload_n 1, 0, 0),
  (154, 1, .iconst 2, 2, 0), (155, 1, .iaload, 0, 0), (156, 1, .imul, 0, 0), (157, 1, .iconst 2, 2, 0),
  (158, 1, .iadd, 0, 0), (159, 1, .iconst 0, 0, 0), (160, 1, .iastore, 0, 0), (161, 1, .aload_n 2, 0, 0),
  (162, 1, .aload_n 1, 0, 0), (163, 1, .iconst 2, 2, 0), (164, 1, .iaload, 0, 0), (165, 3, .invokestatic 19, 0, 0),
  (168, 1, .aload_n 1, 0, 0), (169, 1, .iconst 2, 2, 0), (170, 1, .dup2, 0, 0), (171, 1, .iaload, 0, 0),
  (172, 1, .iconst 1, 1, 0), (173, 1, .iadd, 0, 0), (174, 1, .iastore, 0, 0), (175, 1, .aload_n 0, 0, 0),
  (176, 2, .iload 7, 0, 0), (178, 3, .invokestatic 39, 0, 0), (181, 2, .iload 7, 0, 0), (183, 2, .bipush 16, 16, 0),
  (185, 1, .irem, 0, 0), (186, 3, .invokestatic 43, 0, 0), (189, 1, .aload_n 1, 0, 0), (190, 1, .iconst 2, 2, 0),
  (191, 1, .iaload, 0, 0), (192, 1, .iconst 1, 1, 0), (193, 1, .isub, 0, 0), (194, 3, .if_icmp .ne 7, 0, 201),
  (197, 1, .iconst 1, 1, 0), (198, 3, .goto 4, 0, 202), (201, 1, .iconst 0, 0, 0), (202, 1, .ireturn, 0, 0),
  (203, 1, .aload_n 1, 0, 0), (204, 1, .iconst 2, 2, 0), (205, 1, .iaload, 0, 0), (206, 3, .ifCond .ne 20, 0, 226),
  (209, 1, .aload_n 0, 0, 0), (210, 1, .iconst 0, 0, 0), (211, 1, .iconst 0, 0, 0), (212, 3, .invokestatic 48, 0, 0),
  (215, 2, .ldc 51, (-100001), 0), (217, 3, .if_icmp .ne 7, 0, 224), (220, 1, .iconst 1, 1, 0), (221, 3, .goto 4, 0, 225),
  (224, 1, .iconst 0, 0, 0), (225, 1, .ireturn, 0, 0), (226, 1, .aload_n 2, 0, 0), (227, 1, .iconst 5, 5, 0),
  (228, 2, .iload 8, 0, 0), (230, 1, .imul, 0, 0), (231, 1, .iaload, 0, 0), (232, 2, .istore 9, 0, 0),
  (234, 1, .aload_n 2, 0, 0), (235, 1, .iconst 5, 5, 0), (236, 2, .iload 8, 0, 0), (238, 1, .imul, 0, 0),
  (239, 2, .iload 7, 0, 0), (241, 2, .bipush 6, 6, 0), (243, 1, .idiv, 0, 0), (244, 3, .invokestatic 39, 0, 0),
  (247, 1, .iastore, 0, 0), (248, 1, .aload_n 0, 0, 0), (249, 2, .iload 8, 0, 0), (251, 2, .iload 7, 0, 0),
  (253, 2, .bipush 6, 6, 0), (255, 1, .idiv, 0, 0), (256, 3, .invokestatic 39, 0, 0), (259, 3, .invokestatic 48, 0, 0),
  (262, 2, .iload 9, 0, 0), (264, 3, .if_icmp .ne 7, 0, 271), (267, 1, .iconst 1, 1, 0), (268, 3, .goto 4, 0, 272),
  (271, 1, .iconst 0, 0, 0), (272, 1, .ireturn, 0, 0), (273, 2, .iload 7, 0, 0), (275, 2, .bipush 16, 16, 0),
  (277, 1, .irem, 0, 0), (278, 2, .istore 10, 0, 0), (280, 2, .iload 7, 0, 0), (282, 2, .bipush 16, 16, 0),
  (284, 1, .idiv, 0, 0), (285, 2, .bipush 16, 16, 0), (287, 1, .irem, 0, 0), (288, 2, .istore 11, 0, 0),
  (290, 1, .iconst 1, 1, 0), (291, 2, .iload 7, 0, 0), (293, 3, .sipush 256, 256, 0), (296, 1, .idiv, 0, 0),
  (297, 2, .iload 7, 0, 0), (299, 1, .iconst 3, 3, 0), (300, 1, .irem, 0, 0), (301, 3, .ifCond .ne 9, 0, 310),
  (304, 3, .sipush 390, 390, 0), (307, 3, .goto 5, 0, 312), (310, 2, .bipush 25, 25, 0), (312, 1, .irem, 0, 0),
  (313, 1, .iadd, 0, 0), (314, 2, .iload 7, 0, 0), (316, 1, .iconst 2, 2, 0), (317, 1, .irem, 0, 0),
  (318, 3, .ifCond .ne 9, 0, 327), (321, 1, .aload_n 1, 0, 0), (322, 1, .iconst 0, 0, 0), (323, 1, .iaload, 0, 0),
  (324, 3, .goto 4, 0, 328), (327, 1, .iconst 0, 0, 0), (328, 1, .iadd, 0, 0), (329, 2, .istore 12, 0, 0),
  (331, 2, .iload 12, 0, 0), (333, 3, .sipush 999, 999, 0), (336, 3, .if_icmp .le 9, 0, 345), (339, 3, .sipush 999, 999, 0),
  (342, 3, .goto 5, 0, 347), (345, 2, .iload 12, 0, 0), (347, 2, .istore 12, 0, 0), (349, 2, .iload 10, 0, 0),
  (351, 2, .iload 11, 0, 0), (353, 3, .if_icmp .eq 11, 0, 364), (356, 1, .aload_n 1, 0, 0), (357, 1, .iconst 3, 3, 0),
  (358, 1, .iaload, 0, 0), (359, 2, .bipush 8, 8, 0), (361, 3, .if_icmp .ne 25, 0, 386), (364, 1, .aload_n 0, 0, 0),
  (365, 2, .iload 10, 0, 0), (367, 2, .iload 10, 0, 0), (369, 2, .iload 12, 0, 0), (371, 1, .iconst 1, 1, 0),
  (372, 3, .invokestatic 52, 0, 0), (375, 2, .ldc 56, (-100002), 0), (377, 3, .if_icmp .ne 7, 0, 384), (380, 1, .iconst 1, 1, 0),
  (381, 3, .goto 4, 0, 385), (384, 1, .iconst 0, 0, 0), (385, 1, .ireturn, 0, 0), (386, 1, .aload_n 3, 0, 0),
  (387, 2, .bipush 8, 8, 0), (389, 1, .aload_n 1, 0, 0), (390, 1, .iconst 3, 3, 0), (391, 1, .iaload, 0, 0),
  (392, 1, .imul, 0, 0), (393, 2, .iload 10, 0, 0), (395, 1, .iastore, 0, 0), (396, 1, .aload_n 3, 0, 0),
  (397, 2, .bipush 8, 8, 0), (399, 1, .aload_n 1, 0, 0), (400, 1, .iconst 3, 3, 0), (401, 1, .iaload, 0, 0),
  (402, 1, .imul, 0, 0), (403, 1, .iconst 1, 1, 0), (404, 1, .iadd, 0, 0), (405, 2, .iload 11, 0, 0),
  (407, 1, .iastore, 0, 0), (408, 1, .aload_n 3, 0, 0), (409, 2, .bipush 8, 8, 0), (411, 1, .aload_n 1, 0, 0),
  (412, 1, .iconst 3, 3, 0), (413, 1, .iaload, 0, 0), (414, 1, .imul, 0, 0), (415, 1, .iconst 2, 2, 0),
  (416, 1, .iadd, 0, 0), (417, 2, .iload 12, 0, 0), (419, 1, .iastore, 0, 0), (420, 1, .aload_n 3, 0, 0),
  (421, 2, .bipush 8, 8, 0), (423, 1, .aload_n 1, 0, 0), (424, 1, .iconst 3, 3, 0), (425, 1, .iaload, 0, 0),
  (426, 1, .imul, 0, 0), (427, 1, .iconst 3, 3, 0), (428, 1, .iadd, 0, 0), (429, 2, .iload 7, 0, 0),
  (431, 2, .bipush 7, 7, 0), (433, 1, .idiv, 0, 0), (434, 3, .sipush 1001, 1001, 0), (437, 1, .irem, 0, 0),
  (438, 1, .iastore, 0, 0), (439, 1, .aload_n 3, 0, 0), (440, 2, .bipush 8, 8, 0), (442, 1, .aload_n 1, 0, 0),
  (443, 1, .iconst 3, 3, 0), (444, 1, .iaload, 0, 0), (445, 1, .imul, 0, 0), (446, 1, .iconst 4, 4, 0),
  (447, 1, .iadd, 0, 0), (448, 1, .iconst 0, 0, 0), (449, 1, .iastore, 0, 0), (450, 1, .aload_n 3, 0, 0),
  (451, 2, .bipush 8, 8, 0), (453, 1, .aload_n 1, 0, 0), (454, 1, .iconst 3, 3, 0), (455, 1, .iaload, 0, 0),
  (456, 1, .imul, 0, 0), (457, 1, .iconst 5, 5, 0), (458, 1, .iadd, 0, 0), (459, 2, .iload 10, 0, 0),
  (461, 1, .iastore, 0, 0), (462, 1, .aload_n 3, 0, 0), (463, 2, .bipush 8, 8, 0), (465, 1, .aload_n 1, 0, 0),
  (466, 1, .iconst 3, 3, 0), (467, 1, .iaload, 0, 0), (468, 1, .imul, 0, 0), (469, 2, .bipush 6, 6, 0),
  (471, 1, .iadd, 0, 0), (472, 1, .iconst (-1), (-1), 0), (473, 1, .iastore, 0, 0), (474, 1, .aload_n 3, 0, 0),
  (475, 2, .bipush 8, 8, 0), (477, 1, .aload_n 1, 0, 0), (478, 1, .iconst 3, 3, 0), (479, 1, .iaload, 0, 0),
  (480, 1, .imul, 0, 0), (481, 2, .bipush 7, 7, 0), (483, 1, .iadd, 0, 0), (484, 1, .iconst 0, 0, 0),
  (485, 1, .iastore, 0, 0), (486, 1, .aload_n 1, 0, 0), (487, 1, .iconst 3, 3, 0), (488, 1, .dup2, 0, 0),
  (489, 1, .iaload, 0, 0), (490, 1, .iconst 1, 1, 0), (491, 1, .iadd, 0, 0), (492, 1, .iastore, 0, 0),
  (493, 1, .aload_n 0, 0, 0), (494, 2, .iload 10, 0, 0), (496, 2, .iload 11, 0, 0), (498, 2, .iload 12, 0, 0),
  (500, 2, .iload 7, 0, 0), (502, 2, .bipush 7, 7, 0), (504, 1, .idiv, 0, 0), (505, 3, .sipush 1001, 1001, 0),
  (508, 1, .irem, 0, 0), (509, 3, .invokestatic 52, 0, 0), (512, 1, .aload_n 1, 0, 0), (513, 1, .iconst 3, 3, 0),
  (514, 1, .iaload, 0, 0), (515, 1, .iconst 1, 1, 0), (516, 1, .isub, 0, 0), (517, 3, .if_icmp .ne 7, 0, 524),
  (520, 1, .iconst 1, 1, 0), (521, 3, .goto 4, 0, 525), (524, 1, .iconst 0, 0, 0), (525, 1, .ireturn, 0, 0),
  (526, 1, .aload_n 1, 0, 0), (527, 1, .iconst 1, 1, 0), (528, 1, .iaload, 0, 0), (529, 2, .istore 13, 0, 0),
  (531, 1, .aload_n 1, 0, 0), (532, 1, .iconst 1, 1, 0), (533, 2, .iload 7, 0, 0), (535, 2, .bipush 101, 101, 0),
  (537, 1, .irem, 0, 0), (538, 1, .iastore, 0, 0), (539, 1, .aload_n 0, 0, 0), (540, 1, .aload_n 1, 0, 0),
  (541, 1, .iconst 1, 1, 0), (542, 1, .iaload, 0, 0), (543, 3, .invokestatic 57, 0, 0), (546, 2, .iload 13, 0, 0),
  (548, 3, .if_icmp .ne 7, 0, 555), (551, 1, .iconst 1, 1, 0), (552, 3, .goto 4, 0, 556), (555, 1, .iconst 0, 0, 0),
  (556, 1, .ireturn, 0, 0), (557, 1, .aload_n 1, 0, 0), (558, 1, .iconst 2, 2, 0), (559, 1, .iaload, 0, 0),
  (560, 3, .ifCond .ne 21, 0, 581), (563, 1, .aload_n 0, 0, 0), (564, 1, .iconst 0, 0, 0), (565, 3, .invokestatic 61, 0, 0),
  (568, 2, .ldc 51, (-100001), 0), (570, 3, .if_icmp .ne 7, 0, 577), (573, 1, .iconst 1, 1, 0), (574, 3, .goto 28, 0, 602),
  (577, 1, .iconst 0, 0, 0), (578, 3, .goto 24, 0, 602), (581, 1, .aload_n 0, 0, 0), (582, 2, .iload 8, 0, 0),
  (584, 3, .invokestatic 61, 0, 0), (587, 1, .aload_n 2, 0, 0), (588, 1, .aload_n 3, 0, 0), (589, 2, .iload 8, 0, 0),
  (591, 3, .invokestatic 64, 0, 0), (594, 3, .if_icmp .ne 7, 0, 601), (597, 1, .iconst 1, 1, 0), (598, 3, .goto 4, 0, 602),
  (601, 1, .iconst 0, 0, 0), (602, 1, .ireturn, 0, 0), (603, 2, .iload 7, 0, 0), (605, 2, .bipush 9, 9, 0),
  (607, 1, .irem, 0, 0), (608, 3, .ifCond .ne 11, 0, 619), (611, 2, .iload 7, 0, 0), (613, 2, .bipush 60, 60, 0),
  (615, 1, .irem, 0, 0), (616, 3, .goto 8, 0, 624), (619, 2, .iload 7, 0, 0), (621, 2, .bipush 6, 6, 0),
  (623, 1, .irem, 0, 0), (624, 2, .istore 14, 0, 0), (626, 1, .aload_n 1, 0, 0), (627, 1, .iconst 0, 0, 0),
  (628, 1, .iaload, 0, 0), (629, 2, .iload 14, 0, 0), (631, 1, .iadd, 0, 0), (632, 3, .sipush 2000, 2000, 0),
  (635, 3, .if_icmp .le 20, 0, 655), (638, 1, .aload_n 0, 0, 0), (639, 2, .iload 14, 0, 0), (641, 3, .invokestatic 68, 0, 0),
  (644, 2, .ldc 47, (-100003), 0), (646, 3, .if_icmp .ne 7, 0, 653), (649, 1, .iconst 1, 1, 0), (650, 3, .goto 4, 0, 654),
  (653, 1, .iconst 0, 0, 0), (654, 1, .ireturn, 0, 0), (655, 1, .aload_n 1, 0, 0), (656, 1, .aload_n 3, 0, 0),
  (657, 3, .invokestatic 71, 0, 0), (660, 2, .istore 15, 0, 0), (662, 1, .aload_n 1, 0, 0), (663, 1, .aload_n 2, 0, 0),
  (664, 1, .aload_n 3, 0, 0), (665, 2, .aload 4, 0, 0), (667, 2, .aload 5, 0, 0), (669, 2, .iload 14, 0, 0),
  (671, 3, .invokestatic 75, 0, 0), (674, 1, .aload_n 0, 0, 0), (675, 2, .iload 14, 0, 0), (677, 3, .invokestatic 68, 0, 0),
  (680, 1, .aload_n 1, 0, 0), (681, 1, .aload_n 3, 0, 0), (682, 3, .invokestatic 71, 0, 0), (685, 2, .iload 15, 0, 0),
  (687, 1, .isub, 0, 0), (688, 3, .if_icmp .ne 7, 0, 695), (691, 1, .iconst 1, 1, 0), (692, 3, .goto 4, 0, 696),
  (695, 1, .iconst 0, 0, 0), (696, 1, .ireturn, 0, 0)]
def kL_acts_0 : List fw_Ent := [
  (0, 2, .iload 6, 0, 0), (2, 1, .iconst 4, 4, 0), (3, 1, .ishr, 0, 0), (4, 2, .ldc 35, 100000, 0),
  (6, 3, .invokestatic 36, 0, 0), (9, 2, .istore 7, 0, 0), (11, 1, .aload_n 1, 0, 0), (12, 1, .iconst 2, 2, 0),
  (13, 1, .iaload, 0, 0), (14, 3, .ifCond .ne 7, 0, 21), (17, 1, .iconst 0, 0, 0), (18, 3, .goto 9, 0, 27),
  (21, 2, .iload 7, 0, 0), (23, 1, .aload_n 1, 0, 0), (24, 1, .iconst 2, 2, 0), (25, 1, .iaload, 0, 0),
  (26, 1, .irem, 0, 0), (27, 2, .istore 8, 0, 0), (29, 2, .iload 6, 0, 0), (31, 2, .bipush 16, 16, 0),
  (33, 3, .invokestatic 36, 0, 0), (36, 56, .tableswitch 567 0 9 #[56, 56, 167, 237, 237, 237, 237, 490, 521, 521], 0, 0), (92, 1, .aload_n 1, 0, 0), (93, 1, .iconst 2, 2, 0),
  (94, 1, .iaload, 0, 0), (95, 2, .bipush 6, 6, 0), (97, 3, .if_icmp .ne 28, 0, 125), (100, 1, .aload_n 0, 0, 0),
  (101, 2, .iload 7, 0, 0), (103, 3, .invokestatic 39, 0, 0), (106, 2, .iload 7, 0, 0), (108, 2, .bipush 16, 16, 0),
  (110, 1, .irem, 0, 0), (111, 3, .invokestatic 43, 0, 0), (114, 2, .ldc 47, (-100003), 0), (116, 3, .if_icmp .ne 7, 0, 123),
  (119, 1, .iconst 1, 1, 0), (120, 3, .goto 4, 0, 124), (123, 1, .iconst 0, 0, 0), (124, 1, .ireturn, 0, 0),
  (125, 1, .aload_n 2, 0, 0), (126, 1, .iconst 5, 5, 0), (127, 1, .aload_n 1, 0, 0), (128, 1, .iconst 2, 2, 0),
  (129, 1, .iaload, 0, 0), (130, 1, .imul, 0, 0), (131, 2, .iload 7, 0, 0), (133, 3, .invokestatic 39, 0, 0),
  (136, 1, .iastore, 0, 0), (137, 1, .aload_n 2, 0, 0)]
set_option maxRecDepth 100000 in
theorem kL_acts_0_ok : kL_acts_0.all (fw_rowq cL_acts 16) = true := by decide +kernel
def kL_acts_1 : List fw_Ent := [
  (138, 1, .iconst 5, 5, 0), (139, 1, .aload_n 1, 0, 0), (140, 1, .iconst 2, 2, 0), (141, 1, .iaload, 0, 0),
  (142, 1, .imul, 0, 0), (143, 1, .iconst 1, 1, 0), (144, 1, .iadd, 0, 0), (145, 2, .iload 7, 0, 0),
  (147, 2, .bipush 16, 16, 0), (149, 1, .irem, 0, 0), (150, 1, .iastore, 0, 0), (151, 1, .aload_n 2, 0, 0),
  (152, 1, .iconst 5, 5, 0), (153, 1, .aload_n 1, 0, 0), (154, 1, .iconst 2, 2, 0), (155, 1, .iaload, 0, 0),
  (156, 1, .imul, 0, 0), (157, 1, .iconst 2, 2, 0), (158, 1, .iadd, 0, 0), (159, 1, .iconst 0, 0, 0),
  (160, 1, .iastore, 0, 0), (161, 1, .aload_n 2, 0, 0), (162, 1, .aload_n 1, 0, 0), (163, 1, .iconst 2, 2, 0),
  (164, 1, .iaload, 0, 0), (165, 3, .invokestatic 19, 0, 0), (168, 1, .aload_n 1, 0, 0), (169, 1, .iconst 2, 2, 0),
  (170, 1, .dup2, 0, 0), (171, 1, .iaload, 0, 0), (172, 1, .iconst 1, 1, 0), (173, 1, .iadd, 0, 0),
  (174, 1, .iastore, 0, 0), (175, 1, .aload_n 0, 0, 0), (176, 2, .iload 7, 0, 0), (178, 3, .invokestatic 39, 0, 0),
  (181, 2, .iload 7, 0, 0), (183, 2, .bipush 16, 16, 0), (185, 1, .irem, 0, 0), (186, 3, .invokestatic 43, 0, 0),
  (189, 1, .aload_n 1, 0, 0), (190, 1, .iconst 2, 2, 0), (191, 1, .iaload, 0, 0), (192, 1, .iconst 1, 1, 0),
  (193, 1, .isub, 0, 0), (194, 3, .if_icmp .ne 7, 0, 201), (197, 1, .iconst 1, 1, 0), (198, 3, .goto 4, 0, 202),
  (201, 1, .iconst 0, 0, 0), (202, 1, .ireturn, 0, 0)]
set_option maxRecDepth 100000 in
theorem kL_acts_1_ok : kL_acts_1.all (fw_rowq cL_acts 16) = true := by decide +kernel
def kL_acts_2 : List fw_Ent := [
  (203, 1, .aload_n 1, 0, 0), (204, 1, .iconst 2, 2, 0), (205, 1, .iaload, 0, 0), (206, 3, .ifCond .ne 20, 0, 226),
  (209, 1, .aload_n 0, 0, 0), (210, 1, .iconst 0, 0, 0), (211, 1, .iconst 0, 0, 0), (212, 3, .invokestatic 48, 0, 0),
  (215, 2, .ldc 51, (-100001), 0), (217, 3, .if_icmp .ne 7, 0, 224), (220, 1, .iconst 1, 1, 0), (221, 3, .goto 4, 0, 225),
  (224, 1, .iconst 0, 0, 0), (225, 1, .ireturn, 0, 0), (226, 1, .aload_n 2, 0, 0), (227, 1, .iconst 5, 5, 0),
  (228, 2, .iload 8, 0, 0), (230, 1, .imul, 0, 0), (231, 1, .iaload, 0, 0), (232, 2, .istore 9, 0, 0),
  (234, 1, .aload_n 2, 0, 0), (235, 1, .iconst 5, 5, 0), (236, 2, .iload 8, 0, 0), (238, 1, .imul, 0, 0),
  (239, 2, .iload 7, 0, 0), (241, 2, .bipush 6, 6, 0), (243, 1, .idiv, 0, 0), (244, 3, .invokestatic 39, 0, 0),
  (247, 1, .iastore, 0, 0), (248, 1, .aload_n 0, 0, 0), (249, 2, .iload 8, 0, 0), (251, 2, .iload 7, 0, 0),
  (253, 2, .bipush 6, 6, 0), (255, 1, .idiv, 0, 0), (256, 3, .invokestatic 39, 0, 0), (259, 3, .invokestatic 48, 0, 0),
  (262, 2, .iload 9, 0, 0), (264, 3, .if_icmp .ne 7, 0, 271), (267, 1, .iconst 1, 1, 0), (268, 3, .goto 4, 0, 272),
  (271, 1, .iconst 0, 0, 0), (272, 1, .ireturn, 0, 0), (273, 2, .iload 7, 0, 0), (275, 2, .bipush 16, 16, 0),
  (277, 1, .irem, 0, 0), (278, 2, .istore 10, 0, 0), (280, 2, .iload 7, 0, 0), (282, 2, .bipush 16, 16, 0),
  (284, 1, .idiv, 0, 0), (285, 2, .bipush 16, 16, 0)]
set_option maxRecDepth 100000 in
theorem kL_acts_2_ok : kL_acts_2.all (fw_rowq cL_acts 16) = true := by decide +kernel
def kL_acts_3 : List fw_Ent := [
  (287, 1, .irem, 0, 0), (288, 2, .istore 11, 0, 0), (290, 1, .iconst 1, 1, 0), (291, 2, .iload 7, 0, 0),
  (293, 3, .sipush 256, 256, 0), (296, 1, .idiv, 0, 0), (297, 2, .iload 7, 0, 0), (299, 1, .iconst 3, 3, 0),
  (300, 1, .irem, 0, 0), (301, 3, .ifCond .ne 9, 0, 310), (304, 3, .sipush 390, 390, 0), (307, 3, .goto 5, 0, 312),
  (310, 2, .bipush 25, 25, 0), (312, 1, .irem, 0, 0), (313, 1, .iadd, 0, 0), (314, 2, .iload 7, 0, 0),
  (316, 1, .iconst 2, 2, 0), (317, 1, .irem, 0, 0), (318, 3, .ifCond .ne 9, 0, 327), (321, 1, .aload_n 1, 0, 0),
  (322, 1, .iconst 0, 0, 0), (323, 1, .iaload, 0, 0), (324, 3, .goto 4, 0, 328), (327, 1, .iconst 0, 0, 0),
  (328, 1, .iadd, 0, 0), (329, 2, .istore 12, 0, 0), (331, 2, .iload 12, 0, 0), (333, 3, .sipush 999, 999, 0),
  (336, 3, .if_icmp .le 9, 0, 345), (339, 3, .sipush 999, 999, 0), (342, 3, .goto 5, 0, 347), (345, 2, .iload 12, 0, 0),
  (347, 2, .istore 12, 0, 0), (349, 2, .iload 10, 0, 0), (351, 2, .iload 11, 0, 0), (353, 3, .if_icmp .eq 11, 0, 364),
  (356, 1, .aload_n 1, 0, 0), (357, 1, .iconst 3, 3, 0), (358, 1, .iaload, 0, 0), (359, 2, .bipush 8, 8, 0),
  (361, 3, .if_icmp .ne 25, 0, 386), (364, 1, .aload_n 0, 0, 0), (365, 2, .iload 10, 0, 0), (367, 2, .iload 10, 0, 0),
  (369, 2, .iload 12, 0, 0), (371, 1, .iconst 1, 1, 0), (372, 3, .invokestatic 52, 0, 0), (375, 2, .ldc 56, (-100002), 0),
  (377, 3, .if_icmp .ne 7, 0, 384), (380, 1, .iconst 1, 1, 0)]
set_option maxRecDepth 100000 in
theorem kL_acts_3_ok : kL_acts_3.all (fw_rowq cL_acts 16) = true := by decide +kernel
def kL_acts_4 : List fw_Ent := [
  (381, 3, .goto 4, 0, 385), (384, 1, .iconst 0, 0, 0), (385, 1, .ireturn, 0, 0), (386, 1, .aload_n 3, 0, 0),
  (387, 2, .bipush 8, 8, 0), (389, 1, .aload_n 1, 0, 0), (390, 1, .iconst 3, 3, 0), (391, 1, .iaload, 0, 0),
  (392, 1, .imul, 0, 0), (393, 2, .iload 10, 0, 0), (395, 1, .iastore, 0, 0), (396, 1, .aload_n 3, 0, 0),
  (397, 2, .bipush 8, 8, 0), (399, 1, .aload_n 1, 0, 0), (400, 1, .iconst 3, 3, 0), (401, 1, .iaload, 0, 0),
  (402, 1, .imul, 0, 0), (403, 1, .iconst 1, 1, 0), (404, 1, .iadd, 0, 0), (405, 2, .iload 11, 0, 0),
  (407, 1, .iastore, 0, 0), (408, 1, .aload_n 3, 0, 0), (409, 2, .bipush 8, 8, 0), (411, 1, .aload_n 1, 0, 0),
  (412, 1, .iconst 3, 3, 0), (413, 1, .iaload, 0, 0), (414, 1, .imul, 0, 0), (415, 1, .iconst 2, 2, 0),
  (416, 1, .iadd, 0, 0), (417, 2, .iload 12, 0, 0), (419, 1, .iastore, 0, 0), (420, 1, .aload_n 3, 0, 0),
  (421, 2, .bipush 8, 8, 0), (423, 1, .aload_n 1, 0, 0), (424, 1, .iconst 3, 3, 0), (425, 1, .iaload, 0, 0),
  (426, 1, .imul, 0, 0), (427, 1, .iconst 3, 3, 0), (428, 1, .iadd, 0, 0), (429, 2, .iload 7, 0, 0),
  (431, 2, .bipush 7, 7, 0), (433, 1, .idiv, 0, 0), (434, 3, .sipush 1001, 1001, 0), (437, 1, .irem, 0, 0),
  (438, 1, .iastore, 0, 0), (439, 1, .aload_n 3, 0, 0), (440, 2, .bipush 8, 8, 0), (442, 1, .aload_n 1, 0, 0),
  (443, 1, .iconst 3, 3, 0), (444, 1, .iaload, 0, 0)]
set_option maxRecDepth 100000 in
theorem kL_acts_4_ok : kL_acts_4.all (fw_rowq cL_acts 16) = true := by decide +kernel
def kL_acts_5 : List fw_Ent := [
  (445, 1, .imul, 0, 0), (446, 1, .iconst 4, 4, 0), (447, 1, .iadd, 0, 0), (448, 1, .iconst 0, 0, 0),
  (449, 1, .iastore, 0, 0), (450, 1, .aload_n 3, 0, 0), (451, 2, .bipush 8, 8, 0), (453, 1, .aload_n 1, 0, 0),
  (454, 1, .iconst 3, 3, 0), (455, 1, .iaload, 0, 0), (456, 1, .imul, 0, 0), (457, 1, .iconst 5, 5, 0),
  (458, 1, .iadd, 0, 0), (459, 2, .iload 10, 0, 0), (461, 1, .iastore, 0, 0), (462, 1, .aload_n 3, 0, 0),
  (463, 2, .bipush 8, 8, 0), (465, 1, .aload_n 1, 0, 0), (466, 1, .iconst 3, 3, 0), (467, 1, .iaload, 0, 0),
  (468, 1, .imul, 0, 0), (469, 2, .bipush 6, 6, 0), (471, 1, .iadd, 0, 0), (472, 1, .iconst (-1), (-1), 0),
  (473, 1, .iastore, 0, 0), (474, 1, .aload_n 3, 0, 0), (475, 2, .bipush 8, 8, 0), (477, 1, .aload_n 1, 0, 0),
  (478, 1, .iconst 3, 3, 0), (479, 1, .iaload, 0, 0), (480, 1, .imul, 0, 0), (481, 2, .bipush 7, 7, 0),
  (483, 1, .iadd, 0, 0), (484, 1, .iconst 0, 0, 0), (485, 1, .iastore, 0, 0), (486, 1, .aload_n 1, 0, 0),
  (487, 1, .iconst 3, 3, 0), (488, 1, .dup2, 0, 0), (489, 1, .iaload, 0, 0), (490, 1, .iconst 1, 1, 0),
  (491, 1, .iadd, 0, 0), (492, 1, .iastore, 0, 0), (493, 1, .aload_n 0, 0, 0), (494, 2, .iload 10, 0, 0),
  (496, 2, .iload 11, 0, 0), (498, 2, .iload 12, 0, 0), (500, 2, .iload 7, 0, 0), (502, 2, .bipush 7, 7, 0),
  (504, 1, .idiv, 0, 0), (505, 3, .sipush 1001, 1001, 0)]
set_option maxRecDepth 100000 in
theorem kL_acts_5_ok : kL_acts_5.all (fw_rowq cL_acts 16) = true := by decide +kernel
def kL_acts_6 : List fw_Ent := [
  (508, 1, .irem, 0, 0), (509, 3, .invokestatic 52, 0, 0), (512, 1, .aload_n 1, 0, 0), (513, 1, .iconst 3, 3, 0),
  (514, 1, .iaload, 0, 0), (515, 1, .iconst 1, 1, 0), (516, 1, .isub, 0, 0), (517, 3, .if_icmp .ne 7, 0, 524),
  (520, 1, .iconst 1, 1, 0), (521, 3, .goto 4, 0, 525), (524, 1, .iconst 0, 0, 0), (525, 1, .ireturn, 0, 0),
  (526, 1, .aload_n 1, 0, 0), (527, 1, .iconst 1, 1, 0), (528, 1, .iaload, 0, 0), (529, 2, .istore 13, 0, 0),
  (531, 1, .aload_n 1, 0, 0), (532, 1, .iconst 1, 1, 0), (533, 2, .iload 7, 0, 0), (535, 2, .bipush 101, 101, 0),
  (537, 1, .irem, 0, 0), (538, 1, .iastore, 0, 0), (539, 1, .aload_n 0, 0, 0), (540, 1, .aload_n 1, 0, 0),
  (541, 1, .iconst 1, 1, 0), (542, 1, .iaload, 0, 0), (543, 3, .invokestatic 57, 0, 0), (546, 2, .iload 13, 0, 0),
  (548, 3, .if_icmp .ne 7, 0, 555), (551, 1, .iconst 1, 1, 0), (552, 3, .goto 4, 0, 556), (555, 1, .iconst 0, 0, 0),
  (556, 1, .ireturn, 0, 0), (557, 1, .aload_n 1, 0, 0), (558, 1, .iconst 2, 2, 0), (559, 1, .iaload, 0, 0),
  (560, 3, .ifCond .ne 21, 0, 581), (563, 1, .aload_n 0, 0, 0), (564, 1, .iconst 0, 0, 0), (565, 3, .invokestatic 61, 0, 0),
  (568, 2, .ldc 51, (-100001), 0), (570, 3, .if_icmp .ne 7, 0, 577), (573, 1, .iconst 1, 1, 0), (574, 3, .goto 28, 0, 602),
  (577, 1, .iconst 0, 0, 0), (578, 3, .goto 24, 0, 602), (581, 1, .aload_n 0, 0, 0), (582, 2, .iload 8, 0, 0),
  (584, 3, .invokestatic 61, 0, 0), (587, 1, .aload_n 2, 0, 0)]
set_option maxRecDepth 100000 in
theorem kL_acts_6_ok : kL_acts_6.all (fw_rowq cL_acts 16) = true := by decide +kernel
def kL_acts_7 : List fw_Ent := [
  (588, 1, .aload_n 3, 0, 0), (589, 2, .iload 8, 0, 0), (591, 3, .invokestatic 64, 0, 0), (594, 3, .if_icmp .ne 7, 0, 601),
  (597, 1, .iconst 1, 1, 0), (598, 3, .goto 4, 0, 602), (601, 1, .iconst 0, 0, 0), (602, 1, .ireturn, 0, 0),
  (603, 2, .iload 7, 0, 0), (605, 2, .bipush 9, 9, 0), (607, 1, .irem, 0, 0), (608, 3, .ifCond .ne 11, 0, 619),
  (611, 2, .iload 7, 0, 0), (613, 2, .bipush 60, 60, 0), (615, 1, .irem, 0, 0), (616, 3, .goto 8, 0, 624),
  (619, 2, .iload 7, 0, 0), (621, 2, .bipush 6, 6, 0), (623, 1, .irem, 0, 0), (624, 2, .istore 14, 0, 0),
  (626, 1, .aload_n 1, 0, 0), (627, 1, .iconst 0, 0, 0), (628, 1, .iaload, 0, 0), (629, 2, .iload 14, 0, 0),
  (631, 1, .iadd, 0, 0), (632, 3, .sipush 2000, 2000, 0), (635, 3, .if_icmp .le 20, 0, 655), (638, 1, .aload_n 0, 0, 0),
  (639, 2, .iload 14, 0, 0), (641, 3, .invokestatic 68, 0, 0), (644, 2, .ldc 47, (-100003), 0), (646, 3, .if_icmp .ne 7, 0, 653),
  (649, 1, .iconst 1, 1, 0), (650, 3, .goto 4, 0, 654), (653, 1, .iconst 0, 0, 0), (654, 1, .ireturn, 0, 0),
  (655, 1, .aload_n 1, 0, 0), (656, 1, .aload_n 3, 0, 0), (657, 3, .invokestatic 71, 0, 0), (660, 2, .istore 15, 0, 0),
  (662, 1, .aload_n 1, 0, 0), (663, 1, .aload_n 2, 0, 0), (664, 1, .aload_n 3, 0, 0), (665, 2, .aload 4, 0, 0),
  (667, 2, .aload 5, 0, 0), (669, 2, .iload 14, 0, 0), (671, 3, .invokestatic 75, 0, 0), (674, 1, .aload_n 0, 0, 0),
  (675, 2, .iload 14, 0, 0), (677, 3, .invokestatic 68, 0, 0)]
set_option maxRecDepth 100000 in
theorem kL_acts_7_ok : kL_acts_7.all (fw_rowq cL_acts 16) = true := by decide +kernel
def kL_acts_8 : List fw_Ent := [
  (680, 1, .aload_n 1, 0, 0), (681, 1, .aload_n 3, 0, 0), (682, 3, .invokestatic 71, 0, 0), (685, 2, .iload 15, 0, 0),
  (687, 1, .isub, 0, 0), (688, 3, .if_icmp .ne 7, 0, 695), (691, 1, .iconst 1, 1, 0), (692, 3, .goto 4, 0, 696),
  (695, 1, .iconst 0, 0, 0), (696, 1, .ireturn, 0, 0)]
set_option maxRecDepth 100000 in
theorem kL_acts_8_ok : kL_acts_8.all (fw_rowq cL_acts 16) = true := by decide +kernel
set_option maxRecDepth 100000 in
theorem kL_acts_eq : kL_acts = kL_acts_0 ++ (kL_acts_1 ++ (kL_acts_2 ++ (kL_acts_3 ++ (kL_acts_4 ++ (kL_acts_5 ++ (kL_acts_6 ++ (kL_acts_7 ++ (kL_acts_8)))))))) := rfl
theorem kL_acts_all : kL_acts.all (fw_rowq cL_acts 16) = true := by
  rw [kL_acts_eq]
  simp only [List.all_append, Bool.and_eq_true]
  exact ⟨kL_acts_0_ok, ⟨kL_acts_1_ok, ⟨kL_acts_2_ok, ⟨kL_acts_3_ok, ⟨kL_acts_4_ok, ⟨kL_acts_5_ok, ⟨kL_acts_6_ok, ⟨kL_acts_7_ok, kL_acts_8_ok⟩⟩⟩⟩⟩⟩⟩⟩
set_option maxRecDepth 100000 in
theorem kL_acts_chain : fw_chain kL_acts = true := by decide +kernel
theorem kL_acts_ok : fw_chk cL_acts 16 kL_acts = true := by
  show (kL_acts.all (fw_rowq cL_acts 16) && fw_chain kL_acts) = true
  rw [kL_acts_all, kL_acts_chain]
  rfl
set_option maxRecDepth 100000 in
theorem kL_acts_cst : ∀ en ∈ kL_acts, fw_CstOK RL [] en := by
  have h : kL_acts.all (fw_cstq cp_L) = true := by decide +kernel
  exact fun en he => fw_cstX cp_L_ok (fun i v hq => nomatch hq) (List.all_eq_true.mp h en he)
def kL_adds : List fw_Ent := [
  (0, 1, .aload_n 0, 0, 0), (1, 1, .iload_n 1, 0, 0), (2, 1, .iload_n 2, 0, 0), (3, 3, .invokevirtual 78, 0, 0),
  (6, 1, .ireturn, 0, 0), (7, 1, .astore_n 3, 0, 0), (8, 2, .ldc 56, (-100002), 0), (10, 1, .ireturn, 0, 0),
  (11, 1, .astore_n 3, 0, 0), (12, 2, .ldc 47, (-100003), 0), (14, 1, .ireturn, 0, 0)]
theorem kL_adds_ok : fw_chk cL_adds 4 kL_adds = true := by decide +kernel
set_option maxRecDepth 100000 in
theorem kL_adds_cst : ∀ en ∈ kL_adds, fw_CstOK RL [] en := by
  have h : kL_adds.all (fw_cstq cp_L) = true := by decide +kernel
  exact fun en he => fw_cstX cp_L_ok (fun i v hq => nomatch hq) (List.all_eq_true.mp h en he)
abbrev hL_adds : List (Nat × Nat × Nat × Nat) := [(0, 6, 7, 83), (0, 6, 11, 85)]
theorem wc_L_adds : Cond.codeWith yL_adds cL_adds 4 (some .int) hL_adds ∈ fw_LW := fw_t1 206 (by decide +kernel) (by decide +kernel)
def kL_areas : List fw_Ent := [
  (0, 1, .aload_n 0, 0, 0), (1, 1, .iload_n 1, 0, 0), (2, 1, .iload_n 2, 0, 0), (3, 3, .invokevirtual 87, 0, 0),
  (6, 1, .ireturn, 0, 0), (7, 1, .astore_n 3, 0, 0), (8, 2, .ldc 51, (-100001), 0), (10, 1, .ireturn, 0, 0),
  (11, 1, .astore_n 3, 0, 0), (12, 2, .ldc 56, (-100002), 0), (14, 1, .ireturn, 0, 0)]
theorem kL_areas_ok : fw_chk cL_areas 4 kL_areas = true := by decide +kernel
set_option maxRecDepth 100000 in
theorem kL_areas_cst : ∀ en ∈ kL_areas, fw_CstOK RL [] en := by
  have h : kL_areas.all (fw_cstq cp_L) = true := by decide +kernel
  exact fun en he => fw_cstX cp_L_ok (fun i v hq => nomatch hq) (List.all_eq_true.mp h en he)
abbrev hL_areas : List (Nat × Nat × Nat × Nat) := [(0, 6, 7, 90), (0, 6, 11, 83)]
theorem wc_L_areas : Cond.codeWith yL_areas cL_areas 4 (some .int) hL_areas ∈ fw_LW := fw_t2 114 (by decide +kernel) (by decide +kernel)
def kL_gives : List fw_Ent := [
  (0, 1, .aload_n 0, 0, 0), (1, 1, .iload_n 1, 0, 0), (2, 1, .iload_n 2, 0, 0), (3, 1, .iload_n 3, 0, 0),
  (4, 2, .iload 4, 0, 0), (6, 3, .invokevirtual 92, 0, 0), (9, 1, .ireturn, 0, 0), (10, 2, .astore 5, 0, 0),
  (12, 2, .ldc 56, (-100002), 0), (14, 1, .ireturn, 0, 0), (15, 2, .astore 5, 0, 0), (17, 2, .ldc 47, (-100003), 0),
  (19, 1, .ireturn, 0, 0)]
theorem kL_gives_ok : fw_chk cL_gives 6 kL_gives = true := by decide +kernel
set_option maxRecDepth 100000 in
theorem kL_gives_cst : ∀ en ∈ kL_gives, fw_CstOK RL [] en := by
  have h : kL_gives.all (fw_cstq cp_L) = true := by decide +kernel
  exact fun en he => fw_cstX cp_L_ok (fun i v hq => nomatch hq) (List.all_eq_true.mp h en he)
abbrev hL_gives : List (Nat × Nat × Nat × Nat) := [(0, 9, 10, 83), (0, 9, 15, 85)]
theorem wc_L_gives : Cond.codeWith yL_gives cL_gives 6 (some .int) hL_gives ∈ fw_LW := fw_t2 139 (by decide +kernel) (by decide +kernel)
def kL_graces : List fw_Ent := [
  (0, 1, .aload_n 0, 0, 0), (1, 1, .iload_n 1, 0, 0), (2, 3, .invokevirtual 96, 0, 0), (5, 1, .ireturn, 0, 0),
  (6, 1, .astore_n 2, 0, 0), (7, 2, .ldc 56, (-100002), 0), (9, 1, .ireturn, 0, 0)]
theorem kL_graces_ok : fw_chk cL_graces 3 kL_graces = true := by decide +kernel
set_option maxRecDepth 100000 in
theorem kL_graces_cst : ∀ en ∈ kL_graces, fw_CstOK RL [] en := by
  have h : kL_graces.all (fw_cstq cp_L) = true := by decide +kernel
  exact fun en he => fw_cstX cp_L_ok (fun i v hq => nomatch hq) (List.all_eq_true.mp h en he)
abbrev hL_graces : List (Nat × Nat × Nat × Nat) := [(0, 5, 6, 83)]
theorem wc_L_graces : Cond.codeWith yL_graces cL_graces 3 (some .int) hL_graces ∈ fw_LW := fw_t2 160 (by decide +kernel) (by decide +kernel)
def kL_dropsOf : List fw_Ent := [
  (0, 1, .aload_n 0, 0, 0), (1, 1, .iload_n 1, 0, 0), (2, 3, .invokevirtual 99, 0, 0), (5, 1, .ireturn, 0, 0),
  (6, 1, .astore_n 2, 0, 0), (7, 2, .ldc 51, (-100001), 0), (9, 1, .ireturn, 0, 0)]
theorem kL_dropsOf_ok : fw_chk cL_dropsOf 3 kL_dropsOf = true := by decide +kernel
set_option maxRecDepth 100000 in
theorem kL_dropsOf_cst : ∀ en ∈ kL_dropsOf, fw_CstOK RL [] en := by
  have h : kL_dropsOf.all (fw_cstq cp_L) = true := by decide +kernel
  exact fun en he => fw_cstX cp_L_ok (fun i v hq => nomatch hq) (List.all_eq_true.mp h en he)
abbrev hL_dropsOf : List (Nat × Nat × Nat × Nat) := [(0, 5, 6, 90)]
theorem wc_L_dropsOf : Cond.codeWith yL_dropsOf cL_dropsOf 3 (some .int) hL_dropsOf ∈ fw_LW := fw_t2 167 (by decide +kernel) (by decide +kernel)
def kL_runs : List fw_Ent := [
  (0, 1, .aload_n 0, 0, 0), (1, 1, .iload_n 1, 0, 0), (2, 3, .invokevirtual 102, 0, 0), (5, 1, .ireturn, 0, 0),
  (6, 1, .astore_n 2, 0, 0), (7, 2, .ldc 56, (-100002), 0), (9, 1, .ireturn, 0, 0), (10, 1, .astore_n 2, 0, 0),
  (11, 2, .ldc 47, (-100003), 0), (13, 1, .ireturn, 0, 0)]
theorem kL_runs_ok : fw_chk cL_runs 3 kL_runs = true := by decide +kernel
set_option maxRecDepth 100000 in
theorem kL_runs_cst : ∀ en ∈ kL_runs, fw_CstOK RL [] en := by
  have h : kL_runs.all (fw_cstq cp_L) = true := by decide +kernel
  exact fun en he => fw_cstX cp_L_ok (fun i v hq => nomatch hq) (List.all_eq_true.mp h en he)
abbrev hL_runs : List (Nat × Nat × Nat × Nat) := [(0, 5, 6, 83), (0, 5, 10, 85)]
theorem wc_L_runs : Cond.codeWith yL_runs cL_runs 3 (some .int) hL_runs ∈ fw_LW := fw_t2 182 (by decide +kernel) (by decide +kernel)
def kL_valueOf : List fw_Ent := [
  (0, 1, .aload_n 0, 0, 0), (1, 1, .iload_n 1, 0, 0), (2, 3, .invokevirtual 105, 0, 0), (5, 1, .ireturn, 0, 0),
  (6, 1, .astore_n 2, 0, 0), (7, 2, .ldc 56, (-100002), 0), (9, 1, .ireturn, 0, 0)]
theorem kL_valueOf_ok : fw_chk cL_valueOf 3 kL_valueOf = true := by decide +kernel
set_option maxRecDepth 100000 in
theorem kL_valueOf_cst : ∀ en ∈ kL_valueOf, fw_CstOK RL [] en := by
  have h : kL_valueOf.all (fw_cstq cp_L) = true := by decide +kernel
  exact fun en he => fw_cstX cp_L_ok (fun i v hq => nomatch hq) (List.all_eq_true.mp h en he)
abbrev hL_valueOf : List (Nat × Nat × Nat × Nat) := [(0, 5, 6, 83)]
theorem wc_L_valueOf : Cond.codeWith yL_valueOf cL_valueOf 3 (some .int) hL_valueOf ∈ fw_LW := fw_t3 51 (by decide +kernel) (by decide +kernel)
def kL_courierOf : List fw_Ent := [
  (0, 1, .aload_n 0, 0, 0), (1, 1, .iload_n 1, 0, 0), (2, 1, .iload_n 2, 0, 0), (3, 3, .invokevirtual 108, 0, 0),
  (6, 1, .ireturn, 0, 0), (7, 1, .astore_n 3, 0, 0), (8, 2, .ldc 51, (-100001), 0), (10, 1, .ireturn, 0, 0),
  (11, 1, .astore_n 3, 0, 0), (12, 2, .ldc 56, (-100002), 0), (14, 1, .ireturn, 0, 0)]
theorem kL_courierOf_ok : fw_chk cL_courierOf 4 kL_courierOf = true := by decide +kernel
set_option maxRecDepth 100000 in
theorem kL_courierOf_cst : ∀ en ∈ kL_courierOf, fw_CstOK RL [] en := by
  have h : kL_courierOf.all (fw_cstq cp_L) = true := by decide +kernel
  exact fun en he => fw_cstX cp_L_ok (fun i v hq => nomatch hq) (List.all_eq_true.mp h en he)
abbrev hL_courierOf : List (Nat × Nat × Nat × Nat) := [(0, 6, 7, 90), (0, 6, 11, 83)]
theorem wc_L_courierOf : Cond.codeWith yL_courierOf cL_courierOf 4 (some .int) hL_courierOf ∈ fw_LW := fw_t3 63 (by decide +kernel) (by decide +kernel)
def kL_parcelOf : List fw_Ent := [
  (0, 1, .aload_n 0, 0, 0), (1, 1, .iload_n 1, 0, 0), (2, 1, .iload_n 2, 0, 0), (3, 3, .invokevirtual 111, 0, 0),
  (6, 1, .ireturn, 0, 0), (7, 1, .astore_n 3, 0, 0), (8, 2, .ldc 51, (-100001), 0), (10, 1, .ireturn, 0, 0),
  (11, 1, .astore_n 3, 0, 0), (12, 2, .ldc 56, (-100002), 0), (14, 1, .ireturn, 0, 0)]
theorem kL_parcelOf_ok : fw_chk cL_parcelOf 4 kL_parcelOf = true := by decide +kernel
set_option maxRecDepth 100000 in
theorem kL_parcelOf_cst : ∀ en ∈ kL_parcelOf, fw_CstOK RL [] en := by
  have h : kL_parcelOf.all (fw_cstq cp_L) = true := by decide +kernel
  exact fun en he => fw_cstX cp_L_ok (fun i v hq => nomatch hq) (List.all_eq_true.mp h en he)
abbrev hL_parcelOf : List (Nat × Nat × Nat × Nat) := [(0, 6, 7, 90), (0, 6, 11, 83)]
theorem wc_L_parcelOf : Cond.codeWith yL_parcelOf cL_parcelOf 4 (some .int) hL_parcelOf ∈ fw_LW := fw_t3 82 (by decide +kernel) (by decide +kernel)
def kL_legsOf : List fw_Ent := [
  (0, 1, .aload_n 0, 0, 0), (1, 1, .iload_n 1, 0, 0), (2, 1, .iload_n 2, 0, 0), (3, 1, .iload_n 3, 0, 0),
  (4, 3, .invokevirtual 114, 0, 0), (7, 1, .ireturn, 0, 0), (8, 2, .astore 4, 0, 0), (10, 2, .ldc 51, (-100001), 0),
  (12, 1, .ireturn, 0, 0)]
theorem kL_legsOf_ok : fw_chk cL_legsOf 5 kL_legsOf = true := by decide +kernel
set_option maxRecDepth 100000 in
theorem kL_legsOf_cst : ∀ en ∈ kL_legsOf, fw_CstOK RL [] en := by
  have h : kL_legsOf.all (fw_cstq cp_L) = true := by decide +kernel
  exact fun en he => fw_cstX cp_L_ok (fun i v hq => nomatch hq) (List.all_eq_true.mp h en he)
abbrev hL_legsOf : List (Nat × Nat × Nat × Nat) := [(0, 7, 8, 90)]
theorem wc_L_legsOf : Cond.codeWith yL_legsOf cL_legsOf 5 (some .int) hL_legsOf ∈ fw_LW := fw_t3 97 (by decide +kernel) (by decide +kernel)
def kL_farOf : List fw_Ent := [
  (0, 1, .aload_n 0, 0, 0), (1, 1, .iload_n 1, 0, 0), (2, 1, .iload_n 2, 0, 0), (3, 3, .invokevirtual 118, 0, 0),
  (6, 1, .ireturn, 0, 0), (7, 1, .astore_n 3, 0, 0), (8, 2, .ldc 51, (-100001), 0), (10, 1, .ireturn, 0, 0)]
theorem kL_farOf_ok : fw_chk cL_farOf 4 kL_farOf = true := by decide +kernel
set_option maxRecDepth 100000 in
theorem kL_farOf_cst : ∀ en ∈ kL_farOf, fw_CstOK RL [] en := by
  have h : kL_farOf.all (fw_cstq cp_L) = true := by decide +kernel
  exact fun en he => fw_cstX cp_L_ok (fun i v hq => nomatch hq) (List.all_eq_true.mp h en he)
abbrev hL_farOf : List (Nat × Nat × Nat × Nat) := [(0, 6, 7, 90)]
theorem wc_L_farOf : Cond.codeWith yL_farOf cL_farOf 4 (some .int) hL_farOf ∈ fw_LW := fw_t3 106 (by decide +kernel) (by decide +kernel)
def kL_isSo : List fw_Ent := [
  (5, 1, .iconst 0, 0, 0), (6, 2, .istore 7, 0, 0), (8, 1, .iconst 0, 0, 0), (9, 2, .istore 8, 0, 0),
  (11, 1, .iconst 0, 0, 0), (12, 2, .istore 9, 0, 0), (14, 1, .iconst 0, 0, 0), (15, 2, .istore 10, 0, 0),
  (17, 1, .aload_n 0, 0, 0), (18, 1, .iconst 0, 0, 0), (19, 3, .invokestatic 121, 0, 0), (22, 1, .aload_n 1, 0, 0),
  (23, 1, .iconst 0, 0, 0), (24, 1, .iaload, 0, 0), (25, 3, .if_icmp .ne 77, 0, 102), (28, 1, .aload_n 0, 0, 0),
  (29, 1, .iconst 1, 1, 0), (30, 3, .invokestatic 121, 0, 0), (33, 1, .aload_n 1, 0, 0), (34, 1, .iconst 2, 2, 0),
  (35, 1, .iaload, 0, 0), (36, 3, .if_icmp .ne 66, 0, 102), (39, 1, .aload_n 0, 0, 0), (40, 1, .iconst 2, 2, 0),
  (41, 3, .invokestatic 121, 0, 0), (44, 1, .aload_n 1, 0, 0), (45, 1, .iconst 3, 3, 0), (46, 1, .iaload, 0, 0),
  (47, 3, .if_icmp .ne 55, 0, 102), (50, 1, .aload_n 0, 0, 0), (51, 1, .iconst 3, 3, 0), (52, 3, .invokestatic 121, 0, 0),
  (55, 1, .aload_n 1, 0, 0), (56, 1, .iconst 1, 1, 0), (57, 1, .iaload, 0, 0), (58, 3, .if_icmp .ne 44, 0, 102),
  (61, 1, .aload_n 0, 0, 0), (62, 2, .bipush 8, 8, 0), (64, 3, .invokestatic 121, 0, 0), (67, 1, .aload_n 1, 0, 0),
  (68, 2, .bipush 6, 6, 0), (70, 1, .iaload, 0, 0), (71, 3, .if_icmp .ne 31, 0, 102), (74, 1, .aload_n 0, 0, 0),
  (75, 2, .bipush 9, 9, 0), (77, 3, .invokestatic 121, 0, 0), (80, 1, .aload_n 1, 0, 0), (81, 1, .iconst 4, 4, 0),
  (82, 1, .iaload, 0, 0), (83, 3, .if_icmp .ne 19, 0, 102), (86, 1, .aload_n 0, 0, 0), (87, 2, .bipush 10, 10, 0),
  (89, 3, .invokestatic 121, 0, 0), (92, 1, .aload_n 1, 0, 0), (93, 1, .iconst 5, 5, 0), (94, 1, .iaload, 0, 0),
  (95, 3, .if_icmp .ne 7, 0, 102), (98, 1, .iconst 1, 1, 0), (99, 3, .goto 4, 0, 103), (102, 1, .iconst 0, 0, 0),
  (103, 2, .istore 11, 0, 0), (105, 1, .iconst 0, 0, 0), (106, 2, .istore 12, 0, 0), (108, 2, .iload 12, 0, 0),
  (110, 1, .aload_n 1, 0, 0), (111, 1, .iconst 2, 2, 0), (112, 1, .iaload, 0, 0), (113, 3, .if_icmp .ge 216, 0, 329),
  (116, 2, .iload 11, 0, 0), (118, 3, .ifCond .eq 211, 0, 329), (121, 1, .iconst 0, 0, 0), (122, 2, .istore 13, 0, 0),
  (124, 1, .iconst 0, 0, 0), (125, 2, .istore 14, 0, 0), (127, 2, .iload 14, 0, 0), (129, 1, .aload_n 1, 0, 0),
  (130, 1, .iconst 3, 3, 0), (131, 1, .iaload, 0, 0), (132, 3, .if_icmp .ge 25, 0, 157), (135, 2, .iload 13, 0, 0),
  (137, 2, .aload 4, 0, 0), (139, 2, .bipush 6, 6, 0), (141, 2, .iload 14, 0, 0), (143, 1, .imul, 0, 0),
  (144, 2, .iload 12, 0, 0), (146, 1, .iadd, 0, 0), (147, 1, .iaload, 0, 0), (148, 1, .iadd, 0, 0),
  (149, 2, .istore 13, 0, 0), (151, 3, .iinc 14 1, 1, 0), (154, 3, .goto (-27), 0, 127), (157, 2, .iload 7, 0, 0),
  (159, 1, .aload_n 2, 0, 0), (160, 1, .iconst 5, 5, 0), (161, 2, .iload 12, 0, 0), (163, 1, .imul, 0, 0),
  (164, 1, .iconst 2, 2, 0), (165, 1, .iadd, 0, 0), (166, 1, .iaload, 0, 0), (167, 1, .iadd, 0, 0),
  (168, 2, .istore 7, 0, 0), (170, 2, .iload 9, 0, 0), (172, 2, .iload 13, 0, 0), (174, 1, .iadd, 0, 0),
  (175, 2, .istore 9, 0, 0), (177, 2, .iload 10, 0, 0), (179, 1, .aload_n 2, 0, 0), (180, 1, .iconst 5, 5, 0),
  (181, 2, .iload 12, 0, 0), (183, 1, .imul, 0, 0), (184, 1, .iconst 3, 3, 0), (185, 1, .iadd, 0, 0),
  (186, 1, .iaload, 0, 0), (187, 1, .iconst 2, 2, 0), (188, 3, .if_icmp .ne 7, 0, 195), (191, 1, .iconst 1, 1, 0),
  (192, 3, .goto 4, 0, 196), (195, 1, .iconst 0, 0, 0), (196, 1, .iadd, 0, 0), (197, 2, .istore 10, 0, 0),
  (199, 1, .iconst 0, 0, 0), (200, 2, .istore 14, 0, 0), (202, 2, .iload 14, 0, 0), (204, 1, .iconst 5, 5, 0),
  (205, 3, .if_icmp .ge 41, 0, 246), (208, 2, .iload 11, 0, 0), (210, 3, .ifCond .eq 27, 0, 237), (213, 1, .aload_n 0, 0, 0),
  (214, 2, .iload 12, 0, 0), (216, 2, .iload 14, 0, 0), (218, 3, .invokestatic 124, 0, 0), (221, 1, .aload_n 2, 0, 0),
  (222, 1, .iconst 5, 5, 0), (223, 2, .iload 12, 0, 0), (225, 1, .imul, 0, 0), (226, 2, .iload 14, 0, 0),
  (228, 1, .iadd, 0, 0), (229, 1, .iaload, 0, 0), (230, 3, .if_icmp .ne 7, 0, 237), (233, 1, .iconst 1, 1, 0),
  (234, 3, .goto 4, 0, 238), (237, 1, .iconst 0, 0, 0), (238, 2, .istore 11, 0, 0), (240, 3, .iinc 14 1, 1, 0),
  (243, 3, .goto (-41), 0, 202), (246, 2, .iload 11, 0, 0), (248, 3, .ifCond .eq 72, 0, 320), (251, 1, .aload_n 0, 0, 0),
  (252, 2, .iload 12, 0, 0), (254, 1, .iconst 5, 5, 0), (255, 3, .invokestatic 124, 0, 0), (258, 2, .iload 13, 0, 0),
  (260, 3, .if_icmp .ne 60, 0, 320), (263, 1, .aload_n 2, 0, 0), (264, 1, .iconst 5, 5, 0), (265, 2, .iload 12, 0, 0),
  (267, 1, .imul, 0, 0), (268, 1, .iconst 3, 3, 0), (269, 1, .iadd, 0, 0), (270, 1, .iaload, 0, 0),
  (271, 1, .iconst 2, 2, 0), (272, 3, .if_icmp .lt 44, 0, 316), (275, 1, .aload_n 0, 0, 0), (276, 1, .aload_n 2, 0, 0),
  (277, 1, .iconst 5, 5, 0), (278, 2, .iload 12, 0, 0), (280, 1, .imul, 0, 0), (281, 1, .iconst 4, 4, 0),
  (282, 1, .iadd, 0, 0), (283, 1, .iaload, 0, 0), (284, 1, .iconst 5, 5, 0), (285, 3, .invokestatic 127, 0, 0),
  (288, 1, .aload_n 2, 0, 0), (289, 1, .iconst 5, 5, 0), (290, 2, .iload 12, 0, 0), (292, 1, .imul, 0, 0),
  (293, 1, .iconst 1, 1, 0), (294, 1, .iadd, 0, 0), (295, 1, .iaload, 0, 0), (296, 3, .if_icmp .ne 24, 0, 320),
  (299, 1, .aload_n 0, 0, 0), (300, 1, .aload_n 2, 0, 0), (301, 1, .iconst 5, 5, 0), (302, 2, .iload 12, 0, 0),
  (304, 1, .imul, 0, 0), (305, 1, .iconst 4, 4, 0), (306, 1, .iadd, 0, 0), (307, 1, .iaload, 0, 0),
  (308, 1, .iconst 4, 4, 0), (309, 3, .invokestatic 127, 0, 0), (312, 1, .iconst 1, 1, 0), (313, 3, .if_icmp .ne 7, 0, 320),
  (316, 1, .iconst 1, 1, 0), (317, 3, .goto 4, 0, 321), (320, 1, .iconst 0, 0, 0), (321, 2, .istore 11, 0, 0),
  (323, 3, .iinc 12 1, 1, 0), (326, 3, .goto (-218), 0, 108), (329, 1, .iconst 0, 0, 0), (330, 2, .istore 12, 0, 0),
  (332, 2, .iload 12, 0, 0), (334, 1, .aload_n 1, 0, 0), (335, 1, .iconst 3, 3, 0), (336, 1, .iaload, 0, 0),
  (337, 3, .if_icmp .ge 272, 0, 609), (340, 2, .iload 11, 0, 0), (342, 3, .ifCond .eq 267, 0, 609), (345, 1, .iconst 0, 0, 0),
  (346, 2, .istore 13, 0, 0), (348, 1, .iconst 0, 0, 0), (349, 2, .istore 14, 0, 0), (351, 2, .aload 6, 0, 0),
  (353, 1, .aload_n 3, 0, 0), (354, 2, .bipush 8, 8, 0), (356, 2, .iload 12, 0, 0), (358, 1, .imul, 0, 0),
  (359, 1, .iconst 4, 4, 0), (360, 1, .iadd, 0, 0), (361, 1, .iaload, 0, 0), (362, 1, .dup2, 0, 0),
  (363, 1, .iaload, 0, 0), (364, 1, .iconst 1, 1, 0), (365, 1, .iadd, 0, 0), (366, 1, .iastore, 0, 0),
  (367, 2, .iload 8, 0, 0), (369, 1, .aload_n 3, 0, 0), (370, 2, .bipush 8, 8, 0), (372, 2, .iload 12, 0, 0),
  (374, 1, .imul, 0, 0), (375, 2, .bipush 7, 7, 0), (377, 1, .iadd, 0, 0), (378, 1, .iaload, 0, 0),
  (379, 1, .iadd, 0, 0), (380, 2, .istore 8, 0, 0), (382, 1, .iconst 0, 0, 0), (383, 2, .istore 15, 0, 0),
  (385, 2, .iload 15, 0, 0), (387, 2, .bipush 8, 8, 0), (389, 3, .if_icmp .ge 42, 0, 431), (392, 2, .iload 11, 0, 0),
  (394, 3, .ifCond .eq 28, 0, 422), (397, 1, .aload_n 0, 0, 0), (398, 2, .iload 12, 0, 0), (400, 2, .iload 15, 0, 0),
  (402, 3, .invokestatic 127, 0, 0), (405, 1, .aload_n 3, 0, 0), (406, 2, .bipush 8, 8, 0), (408, 2, .iload 12, 0, 0),
  (410, 1, .imul, 0, 0), (411, 2, .iload 15, 0, 0), (413, 1, .iadd, 0, 0), (414, 1, .iaload, 0, 0),
  (415, 3, .if_icmp .ne 7, 0, 422), (418, 1, .iconst 1, 1, 0), (419, 3, .goto 4, 0, 423), (422, 1, .iconst 0, 0, 0),
  (423, 2, .istore 11, 0, 0), (425, 3, .iinc 15 1, 1, 0), (428, 3, .goto (-43), 0, 385), (431, 1, .iconst 0, 0, 0),
  (432, 2, .istore 15, 0, 0), (434, 2, .iload 15, 0, 0), (436, 1, .aload_n 1, 0, 0), (437, 1, .iconst 2, 2, 0),
  (438, 1, .iaload, 0, 0), (439, 3, .if_icmp .ge 99, 0, 538), (442, 2, .iload 13, 0, 0), (444, 2, .aload 4, 0, 0),
  (446, 2, .bipush 6, 6, 0), (448, 2, .iload 12, 0, 0), (450, 1, .imul, 0, 0), (451, 2, .iload 15, 0, 0),
  (453, 1, .iadd, 0, 0), (454, 1, .iaload, 0, 0), (455, 1, .iadd, 0, 0), (456, 2, .istore 13, 0, 0),
  (458, 2, .iload 14, 0, 0), (460, 2, .aload 5, 0, 0), (462, 2, .bipush 6, 6, 0), (464, 2, .iload 12, 0, 0),
  (466, 1, .imul, 0, 0), (467, 2, .iload 15, 0, 0), (469, 1, .iadd, 0, 0), (470, 1, .iaload, 0, 0),
  (471, 1, .iadd, 0, 0), (472, 2, .istore 14, 0, 0), (474, 2, .iload 11, 0, 0), (476, 3, .ifCond .eq 53, 0, 529),
  (479, 1, .aload_n 0, 0, 0), (480, 2, .iload 12, 0, 0), (482, 2, .iload 15, 0, 0), (484, 1, .iconst 0, 0, 0),
  (485, 3, .invokestatic 130, 0, 0), (488, 2, .aload 4, 0, 0), (490, 2, .bipush 6, 6, 0), (492, 2, .iload 12, 0, 0),
  (494, 1, .imul, 0, 0), (495, 2, .iload 15, 0, 0), (497, 1, .iadd, 0, 0), (498, 1, .iaload, 0, 0),
  (499, 3, .if_icmp .ne 30, 0, 529), (502, 1, .aload_n 0, 0, 0), (503, 2, .iload 12, 0, 0), (505, 2, .iload 15, 0, 0),
  (507, 1, .iconst 1, 1, 0), (508, 3, .invokestatic 130, 0, 0), (511, 2, .aload 5, 0, 0), (513, 2, .bipush 6, 6, 0),
  (515, 2, .iload 12, 0, 0), (517, 1, .imul, 0, 0), (518, 2, .iload 15, 0, 0), (520, 1, .iadd, 0, 0),
  (521, 1, .iaload, 0, 0), (522, 3, .if_icmp .ne 7, 0, 529), (525, 1, .iconst 1, 1, 0), (526, 3, .goto 4, 0, 530),
  (529, 1, .iconst 0, 0, 0), (530, 2, .istore 11, 0, 0), (532, 3, .iinc 15 1, 1, 0), (535, 3, .goto (-101), 0, 434),
  (538, 2, .iload 11, 0, 0), (540, 3, .ifCond .eq 60, 0, 600), (543, 1, .aload_n 0, 0, 0), (544, 2, .iload 12, 0, 0),
  (546, 2, .bipush 8, 8, 0), (548, 3, .invokestatic 127, 0, 0), (551, 2, .iload 13, 0, 0), (553, 3, .if_icmp .ne 47, 0, 600),
  (556, 2, .iload 13, 0, 0), (558, 1, .aload_n 0, 0, 0), (559, 1, .aload_n 3, 0, 0), (560, 2, .bipush 8, 8, 0),
  (562, 2, .iload 12, 0, 0), (564, 1, .imul, 0, 0), (565, 1, .iaload, 0, 0), (566, 1, .aload_n 3, 0, 0),
  (567, 2, .bipush 8, 8, 0), (569, 2, .iload 12, 0, 0), (571, 1, .imul, 0, 0), (572, 1, .iconst 5, 5, 0),
  (573, 1, .iadd, 0, 0), (574, 1, .iaload, 0, 0), (575, 3, .invokestatic 134, 0, 0), (578, 3, .if_icmp .ne 22, 0, 600),
  (581, 2, .iload 14, 0, 0), (583, 1, .aload_n 3, 0, 0), (584, 2, .bipush 8, 8, 0), (586, 2, .iload 12, 0, 0),
  (588, 1, .imul, 0, 0), (589, 2, .bipush 7, 7, 0), (591, 1, .iadd, 0, 0), (592, 1, .iaload, 0, 0),
  (593, 3, .if_icmp .ne 7, 0, 600), (596, 1, .iconst 1, 1, 0), (597, 3, .goto 4, 0, 601), (600, 1, .iconst 0, 0, 0),
  (601, 2, .istore 11, 0, 0), (603, 3, .iinc 12 1, 1, 0), (606, 3, .goto (-274), 0, 332), (609, 2, .iload 11, 0, 0),
  (611, 3, .ifCond .eq 92, 0, 703), (614, 1, .aload_n 0, 0, 0), (615, 1, .iconst 4, 4, 0), (616, 3, .invokestatic 121, 0, 0),
  (619, 2, .aload 6, 0, 0), (621, 1, .iconst 0, 0, 0), (622, 1, .iaload, 0, 0), (623, 3, .if_icmp .ne 80, 0, 703),
  (626, 1, .aload_n 0, 0, 0), (627, 1, .iconst 5, 5, 0), (628, 3, .invokestatic 121, 0, 0), (631, 2, .aload 6, 0, 0),
  (633, 1, .iconst 1, 1, 0), (634, 1, .iaload, 0, 0), (635, 3, .if_icmp .ne 68, 0, 703), (638, 1, .aload_n 0, 0, 0),
  (639, 2, .bipush 6, 6, 0), (641, 3, .invokestatic 121, 0, 0), (644, 2, .aload 6, 0, 0), (646, 1, .iconst 2, 2, 0),
  (647, 1, .iaload, 0, 0), (648, 3, .if_icmp .ne 55, 0, 703), (651, 1, .aload_n 0, 0, 0), (652, 2, .bipush 7, 7, 0),
  (654, 3, .invokestatic 121, 0, 0), (657, 2, .aload 6, 0, 0), (659, 1, .iconst 3, 3, 0), (660, 1, .iaload, 0, 0),
  (661, 3, .if_icmp .ne 42, 0, 703), (664, 2, .iload 10, 0, 0), (666, 2, .aload 6, 0, 0), (668, 1, .iconst 1, 1, 0),
  (669, 1, .iaload, 0, 0), (670, 3, .if_icmp .ne 33, 0, 703), (673, 2, .iload 7, 0, 0), (675, 1, .aload_n 1, 0, 0),
  (676, 2, .bipush 6, 6, 0), (678, 1, .iaload, 0, 0), (679, 3, .if_icmp .ne 24, 0, 703), (682, 2, .iload 8, 0, 0),
  (684, 1, .aload_n 1, 0, 0), (685, 2, .bipush 6, 6, 0), (687, 1, .iaload, 0, 0), (688, 3, .if_icmp .ne 15, 0, 703),
  (691, 2, .iload 9, 0, 0), (693, 1, .aload_n 1, 0, 0), (694, 1, .iconst 5, 5, 0), (695, 1, .iaload, 0, 0),
  (696, 3, .if_icmp .gt 7, 0, 703), (699, 1, .iconst 1, 1, 0), (700, 3, .goto 4, 0, 704), (703, 1, .iconst 0, 0, 0),
  (704, 1, .ireturn, 0, 0)]
def kL_isSo_0 : List fw_Ent := [
  (5, 1, .iconst 0, 0, 0), (6, 2, .istore 7, 0, 0), (8, 1, .iconst 0, 0, 0), (9, 2, .istore 8, 0, 0),
  (11, 1, .iconst 0, 0, 0), (12, 2, .istore 9, 0, 0), (14, 1, .iconst 0, 0, 0), (15, 2, .istore 10, 0, 0),
  (17, 1, .aload_n 0, 0, 0), (18, 1, .iconst 0, 0, 0), (19, 3, .invokestatic 121, 0, 0), (22, 1, .aload_n 1, 0, 0),
  (23, 1, .iconst 0, 0, 0), (24, 1, .iaload, 0, 0), (25, 3, .if_icmp .ne 77, 0, 102), (28, 1, .aload_n 0, 0, 0),
  (29, 1, .iconst 1, 1, 0), (30, 3, .invokestatic 121, 0, 0), (33, 1, .aload_n 1, 0, 0), (34, 1, .iconst 2, 2, 0),
  (35, 1, .iaload, 0, 0), (36, 3, .if_icmp .ne 66, 0, 102), (39, 1, .aload_n 0, 0, 0), (40, 1, .iconst 2, 2, 0),
  (41, 3, .invokestatic 121, 0, 0), (44, 1, .aload_n 1, 0, 0), (45, 1, .iconst 3, 3, 0), (46, 1, .iaload, 0, 0),
  (47, 3, .if_icmp .ne 55, 0, 102), (50, 1, .aload_n 0, 0, 0), (51, 1, .iconst 3, 3, 0), (52, 3, .invokestatic 121, 0, 0),
  (55, 1, .aload_n 1, 0, 0), (56, 1, .iconst 1, 1, 0), (57, 1, .iaload, 0, 0), (58, 3, .if_icmp .ne 44, 0, 102),
  (61, 1, .aload_n 0, 0, 0), (62, 2, .bipush 8, 8, 0), (64, 3, .invokestatic 121, 0, 0), (67, 1, .aload_n 1, 0, 0),
  (68, 2, .bipush 6, 6, 0), (70, 1, .iaload, 0, 0), (71, 3, .if_icmp .ne 31, 0, 102), (74, 1, .aload_n 0, 0, 0),
  (75, 2, .bipush 9, 9, 0), (77, 3, .invokestatic 121, 0, 0), (80, 1, .aload_n 1, 0, 0), (81, 1, .iconst 4, 4, 0),
  (82, 1, .iaload, 0, 0), (83, 3, .if_icmp .ne 19, 0, 102)]
set_option maxRecDepth 100000 in
theorem kL_isSo_0_ok : kL_isSo_0.all (fw_rowq cL_isSo 16) = true := by decide +kernel
def kL_isSo_1 : List fw_Ent := [
  (86, 1, .aload_n 0, 0, 0), (87, 2, .bipush 10, 10, 0), (89, 3, .invokestatic 121, 0, 0), (92, 1, .aload_n 1, 0, 0),
  (93, 1, .iconst 5, 5, 0), (94, 1, .iaload, 0, 0), (95, 3, .if_icmp .ne 7, 0, 102), (98, 1, .iconst 1, 1, 0),
  (99, 3, .goto 4, 0, 103), (102, 1, .iconst 0, 0, 0), (103, 2, .istore 11, 0, 0), (105, 1, .iconst 0, 0, 0),
  (106, 2, .istore 12, 0, 0), (108, 2, .iload 12, 0, 0), (110, 1, .aload_n 1, 0, 0), (111, 1, .iconst 2, 2, 0),
  (112, 1, .iaload, 0, 0), (113, 3, .if_icmp .ge 216, 0, 329), (116, 2, .iload 11, 0, 0), (118, 3, .ifCond .eq 211, 0, 329),
  (121, 1, .iconst 0, 0, 0), (122, 2, .istore 13, 0, 0), (124, 1, .iconst 0, 0, 0), (125, 2, .istore 14, 0, 0),
  (127, 2, .iload 14, 0, 0), (129, 1, .aload_n 1, 0, 0), (130, 1, .iconst 3, 3, 0), (131, 1, .iaload, 0, 0),
  (132, 3, .if_icmp .ge 25, 0, 157), (135, 2, .iload 13, 0, 0), (137, 2, .aload 4, 0, 0), (139, 2, .bipush 6, 6, 0),
  (141, 2, .iload 14, 0, 0), (143, 1, .imul, 0, 0), (144, 2, .iload 12, 0, 0), (146, 1, .iadd, 0, 0),
  (147, 1, .iaload, 0, 0), (148, 1, .iadd, 0, 0), (149, 2, .istore 13, 0, 0), (151, 3, .iinc 14 1, 1, 0),
  (154, 3, .goto (-27), 0, 127), (157, 2, .iload 7, 0, 0), (159, 1, .aload_n 2, 0, 0), (160, 1, .iconst 5, 5, 0),
  (161, 2, .iload 12, 0, 0), (163, 1, .imul, 0, 0), (164, 1, .iconst 2, 2, 0), (165, 1, .iadd, 0, 0),
  (166, 1, .iaload, 0, 0), (167, 1, .iadd, 0, 0)]
set_option maxRecDepth 100000 in
theorem kL_isSo_1_ok : kL_isSo_1.all (fw_rowq cL_isSo 16) = true := by decide +kernel
def kL_isSo_2 : List fw_Ent := [
  (168, 2, .istore 7, 0, 0), (170, 2, .iload 9, 0, 0), (172, 2, .iload 13, 0, 0), (174, 1, .iadd, 0, 0),
  (175, 2, .istore 9, 0, 0), (177, 2, .iload 10, 0, 0), (179, 1, .aload_n 2, 0, 0), (180, 1, .iconst 5, 5, 0),
  (181, 2, .iload 12, 0, 0), (183, 1, .imul, 0, 0), (184, 1, .iconst 3, 3, 0), (185, 1, .iadd, 0, 0),
  (186, 1, .iaload, 0, 0), (187, 1, .iconst 2, 2, 0), (188, 3, .if_icmp .ne 7, 0, 195), (191, 1, .iconst 1, 1, 0),
  (192, 3, .goto 4, 0, 196), (195, 1, .iconst 0, 0, 0), (196, 1, .iadd, 0, 0), (197, 2, .istore 10, 0, 0),
  (199, 1, .iconst 0, 0, 0), (200, 2, .istore 14, 0, 0), (202, 2, .iload 14, 0, 0), (204, 1, .iconst 5, 5, 0),
  (205, 3, .if_icmp .ge 41, 0, 246), (208, 2, .iload 11, 0, 0), (210, 3, .ifCond .eq 27, 0, 237), (213, 1, .aload_n 0, 0, 0),
  (214, 2, .iload 12, 0, 0), (216, 2, .iload 14, 0, 0), (218, 3, .invokestatic 124, 0, 0), (221, 1, .aload_n 2, 0, 0),
  (222, 1, .iconst 5, 5, 0), (223, 2, .iload 12, 0, 0), (225, 1, .imul, 0, 0), (226, 2, .iload 14, 0, 0),
  (228, 1, .iadd, 0, 0), (229, 1, .iaload, 0, 0), (230, 3, .if_icmp .ne 7, 0, 237), (233, 1, .iconst 1, 1, 0),
  (234, 3, .goto 4, 0, 238), (237, 1, .iconst 0, 0, 0), (238, 2, .istore 11, 0, 0), (240, 3, .iinc 14 1, 1, 0),
  (243, 3, .goto (-41), 0, 202), (246, 2, .iload 11, 0, 0), (248, 3, .ifCond .eq 72, 0, 320), (251, 1, .aload_n 0, 0, 0),
  (252, 2, .iload 12, 0, 0), (254, 1, .iconst 5, 5, 0)]
set_option maxRecDepth 100000 in
theorem kL_isSo_2_ok : kL_isSo_2.all (fw_rowq cL_isSo 16) = true := by decide +kernel
def kL_isSo_3 : List fw_Ent := [
  (255, 3, .invokestatic 124, 0, 0), (258, 2, .iload 13, 0, 0), (260, 3, .if_icmp .ne 60, 0, 320), (263, 1, .aload_n 2, 0, 0),
  (264, 1, .iconst 5, 5, 0), (265, 2, .iload 12, 0, 0), (267, 1, .imul, 0, 0), (268, 1, .iconst 3, 3, 0),
  (269, 1, .iadd, 0, 0), (270, 1, .iaload, 0, 0), (271, 1, .iconst 2, 2, 0), (272, 3, .if_icmp .lt 44, 0, 316),
  (275, 1, .aload_n 0, 0, 0), (276, 1, .aload_n 2, 0, 0), (277, 1, .iconst 5, 5, 0), (278, 2, .iload 12, 0, 0),
  (280, 1, .imul, 0, 0), (281, 1, .iconst 4, 4, 0), (282, 1, .iadd, 0, 0), (283, 1, .iaload, 0, 0),
  (284, 1, .iconst 5, 5, 0), (285, 3, .invokestatic 127, 0, 0), (288, 1, .aload_n 2, 0, 0), (289, 1, .iconst 5, 5, 0),
  (290, 2, .iload 12, 0, 0), (292, 1, .imul, 0, 0), (293, 1, .iconst 1, 1, 0), (294, 1, .iadd, 0, 0),
  (295, 1, .iaload, 0, 0), (296, 3, .if_icmp .ne 24, 0, 320), (299, 1, .aload_n 0, 0, 0), (300, 1, .aload_n 2, 0, 0),
  (301, 1, .iconst 5, 5, 0), (302, 2, .iload 12, 0, 0), (304, 1, .imul, 0, 0), (305, 1, .iconst 4, 4, 0),
  (306, 1, .iadd, 0, 0), (307, 1, .iaload, 0, 0), (308, 1, .iconst 4, 4, 0), (309, 3, .invokestatic 127, 0, 0),
  (312, 1, .iconst 1, 1, 0), (313, 3, .if_icmp .ne 7, 0, 320), (316, 1, .iconst 1, 1, 0), (317, 3, .goto 4, 0, 321),
  (320, 1, .iconst 0, 0, 0), (321, 2, .istore 11, 0, 0), (323, 3, .iinc 12 1, 1, 0), (326, 3, .goto (-218), 0, 108),
  (329, 1, .iconst 0, 0, 0), (330, 2, .istore 12, 0, 0)]
set_option maxRecDepth 100000 in
theorem kL_isSo_3_ok : kL_isSo_3.all (fw_rowq cL_isSo 16) = true := by decide +kernel
def kL_isSo_4 : List fw_Ent := [
  (332, 2, .iload 12, 0, 0), (334, 1, .aload_n 1, 0, 0), (335, 1, .iconst 3, 3, 0), (336, 1, .iaload, 0, 0),
  (337, 3, .if_icmp .ge 272, 0, 609), (340, 2, .iload 11, 0, 0), (342, 3, .ifCond .eq 267, 0, 609), (345, 1, .iconst 0, 0, 0),
  (346, 2, .istore 13, 0, 0), (348, 1, .iconst 0, 0, 0), (349, 2, .istore 14, 0, 0), (351, 2, .aload 6, 0, 0),
  (353, 1, .aload_n 3, 0, 0), (354, 2, .bipush 8, 8, 0), (356, 2, .iload 12, 0, 0), (358, 1, .imul, 0, 0),
  (359, 1, .iconst 4, 4, 0), (360, 1, .iadd, 0, 0), (361, 1, .iaload, 0, 0), (362, 1, .dup2, 0, 0),
  (363, 1, .iaload, 0, 0), (364, 1, .iconst 1, 1, 0), (365, 1, .iadd, 0, 0), (366, 1, .iastore, 0, 0),
  (367, 2, .iload 8, 0, 0), (369, 1, .aload_n 3, 0, 0), (370, 2, .bipush 8, 8, 0), (372, 2, .iload 12, 0, 0),
  (374, 1, .imul, 0, 0), (375, 2, .bipush 7, 7, 0), (377, 1, .iadd, 0, 0), (378, 1, .iaload, 0, 0),
  (379, 1, .iadd, 0, 0), (380, 2, .istore 8, 0, 0), (382, 1, .iconst 0, 0, 0), (383, 2, .istore 15, 0, 0),
  (385, 2, .iload 15, 0, 0), (387, 2, .bipush 8, 8, 0), (389, 3, .if_icmp .ge 42, 0, 431), (392, 2, .iload 11, 0, 0),
  (394, 3, .ifCond .eq 28, 0, 422), (397, 1, .aload_n 0, 0, 0), (398, 2, .iload 12, 0, 0), (400, 2, .iload 15, 0, 0),
  (402, 3, .invokestatic 127, 0, 0), (405, 1, .aload_n 3, 0, 0), (406, 2, .bipush 8, 8, 0), (408, 2, .iload 12, 0, 0),
  (410, 1, .imul, 0, 0), (411, 2, .iload 15, 0, 0)]
set_option maxRecDepth 100000 in
theorem kL_isSo_4_ok : kL_isSo_4.all (fw_rowq cL_isSo 16) = true := by decide +kernel
def kL_isSo_5 : List fw_Ent := [
  (413, 1, .iadd, 0, 0), (414, 1, .iaload, 0, 0), (415, 3, .if_icmp .ne 7, 0, 422), (418, 1, .iconst 1, 1, 0),
  (419, 3, .goto 4, 0, 423), (422, 1, .iconst 0, 0, 0), (423, 2, .istore 11, 0, 0), (425, 3, .iinc 15 1, 1, 0),
  (428, 3, .goto (-43), 0, 385), (431, 1, .iconst 0, 0, 0), (432, 2, .istore 15, 0, 0), (434, 2, .iload 15, 0, 0),
  (436, 1, .aload_n 1, 0, 0), (437, 1, .iconst 2, 2, 0), (438, 1, .iaload, 0, 0), (439, 3, .if_icmp .ge 99, 0, 538),
  (442, 2, .iload 13, 0, 0), (444, 2, .aload 4, 0, 0), (446, 2, .bipush 6, 6, 0), (448, 2, .iload 12, 0, 0),
  (450, 1, .imul, 0, 0), (451, 2, .iload 15, 0, 0), (453, 1, .iadd, 0, 0), (454, 1, .iaload, 0, 0),
  (455, 1, .iadd, 0, 0), (456, 2, .istore 13, 0, 0), (458, 2, .iload 14, 0, 0), (460, 2, .aload 5, 0, 0),
  (462, 2, .bipush 6, 6, 0), (464, 2, .iload 12, 0, 0), (466, 1, .imul, 0, 0), (467, 2, .iload 15, 0, 0),
  (469, 1, .iadd, 0, 0), (470, 1, .iaload, 0, 0), (471, 1, .iadd, 0, 0), (472, 2, .istore 14, 0, 0),
  (474, 2, .iload 11, 0, 0), (476, 3, .ifCond .eq 53, 0, 529), (479, 1, .aload_n 0, 0, 0), (480, 2, .iload 12, 0, 0),
  (482, 2, .iload 15, 0, 0), (484, 1, .iconst 0, 0, 0), (485, 3, .invokestatic 130, 0, 0), (488, 2, .aload 4, 0, 0),
  (490, 2, .bipush 6, 6, 0), (492, 2, .iload 12, 0, 0), (494, 1, .imul, 0, 0), (495, 2, .iload 15, 0, 0),
  (497, 1, .iadd, 0, 0), (498, 1, .iaload, 0, 0)]
set_option maxRecDepth 100000 in
theorem kL_isSo_5_ok : kL_isSo_5.all (fw_rowq cL_isSo 16) = true := by decide +kernel
def kL_isSo_6 : List fw_Ent := [
  (499, 3, .if_icmp .ne 30, 0, 529), (502, 1, .aload_n 0, 0, 0), (503, 2, .iload 12, 0, 0), (505, 2, .iload 15, 0, 0),
  (507, 1, .iconst 1, 1, 0), (508, 3, .invokestatic 130, 0, 0), (511, 2, .aload 5, 0, 0), (513, 2, .bipush 6, 6, 0),
  (515, 2, .iload 12, 0, 0), (517, 1, .imul, 0, 0), (518, 2, .iload 15, 0, 0), (520, 1, .iadd, 0, 0),
  (521, 1, .iaload, 0, 0), (522, 3, .if_icmp .ne 7, 0, 529), (525, 1, .iconst 1, 1, 0), (526, 3, .goto 4, 0, 530),
  (529, 1, .iconst 0, 0, 0), (530, 2, .istore 11, 0, 0), (532, 3, .iinc 15 1, 1, 0), (535, 3, .goto (-101), 0, 434),
  (538, 2, .iload 11, 0, 0), (540, 3, .ifCond .eq 60, 0, 600), (543, 1, .aload_n 0, 0, 0), (544, 2, .iload 12, 0, 0),
  (546, 2, .bipush 8, 8, 0), (548, 3, .invokestatic 127, 0, 0), (551, 2, .iload 13, 0, 0), (553, 3, .if_icmp .ne 47, 0, 600),
  (556, 2, .iload 13, 0, 0), (558, 1, .aload_n 0, 0, 0), (559, 1, .aload_n 3, 0, 0), (560, 2, .bipush 8, 8, 0),
  (562, 2, .iload 12, 0, 0), (564, 1, .imul, 0, 0), (565, 1, .iaload, 0, 0), (566, 1, .aload_n 3, 0, 0),
  (567, 2, .bipush 8, 8, 0), (569, 2, .iload 12, 0, 0), (571, 1, .imul, 0, 0), (572, 1, .iconst 5, 5, 0),
  (573, 1, .iadd, 0, 0), (574, 1, .iaload, 0, 0), (575, 3, .invokestatic 134, 0, 0), (578, 3, .if_icmp .ne 22, 0, 600),
  (581, 2, .iload 14, 0, 0), (583, 1, .aload_n 3, 0, 0), (584, 2, .bipush 8, 8, 0), (586, 2, .iload 12, 0, 0),
  (588, 1, .imul, 0, 0), (589, 2, .bipush 7, 7, 0)]
set_option maxRecDepth 100000 in
theorem kL_isSo_6_ok : kL_isSo_6.all (fw_rowq cL_isSo 16) = true := by decide +kernel
def kL_isSo_7 : List fw_Ent := [
  (591, 1, .iadd, 0, 0), (592, 1, .iaload, 0, 0), (593, 3, .if_icmp .ne 7, 0, 600), (596, 1, .iconst 1, 1, 0),
  (597, 3, .goto 4, 0, 601), (600, 1, .iconst 0, 0, 0), (601, 2, .istore 11, 0, 0), (603, 3, .iinc 12 1, 1, 0),
  (606, 3, .goto (-274), 0, 332), (609, 2, .iload 11, 0, 0), (611, 3, .ifCond .eq 92, 0, 703), (614, 1, .aload_n 0, 0, 0),
  (615, 1, .iconst 4, 4, 0), (616, 3, .invokestatic 121, 0, 0), (619, 2, .aload 6, 0, 0), (621, 1, .iconst 0, 0, 0),
  (622, 1, .iaload, 0, 0), (623, 3, .if_icmp .ne 80, 0, 703), (626, 1, .aload_n 0, 0, 0), (627, 1, .iconst 5, 5, 0),
  (628, 3, .invokestatic 121, 0, 0), (631, 2, .aload 6, 0, 0), (633, 1, .iconst 1, 1, 0), (634, 1, .iaload, 0, 0),
  (635, 3, .if_icmp .ne 68, 0, 703), (638, 1, .aload_n 0, 0, 0), (639, 2, .bipush 6, 6, 0), (641, 3, .invokestatic 121, 0, 0),
  (644, 2, .aload 6, 0, 0), (646, 1, .iconst 2, 2, 0), (647, 1, .iaload, 0, 0), (648, 3, .if_icmp .ne 55, 0, 703),
  (651, 1, .aload_n 0, 0, 0), (652, 2, .bipush 7, 7, 0), (654, 3, .invokestatic 121, 0, 0), (657, 2, .aload 6, 0, 0),
  (659, 1, .iconst 3, 3, 0), (660, 1, .iaload, 0, 0), (661, 3, .if_icmp .ne 42, 0, 703), (664, 2, .iload 10, 0, 0),
  (666, 2, .aload 6, 0, 0), (668, 1, .iconst 1, 1, 0), (669, 1, .iaload, 0, 0), (670, 3, .if_icmp .ne 33, 0, 703),
  (673, 2, .iload 7, 0, 0), (675, 1, .aload_n 1, 0, 0), (676, 2, .bipush 6, 6, 0), (678, 1, .iaload, 0, 0),
  (679, 3, .if_icmp .ne 24, 0, 703), (682, 2, .iload 8, 0, 0)]
set_option maxRecDepth 100000 in
theorem kL_isSo_7_ok : kL_isSo_7.all (fw_rowq cL_isSo 16) = true := by decide +kernel
def kL_isSo_8 : List fw_Ent := [
  (684, 1, .aload_n 1, 0, 0), (685, 2, .bipush 6, 6, 0), (687, 1, .iaload, 0, 0), (688, 3, .if_icmp .ne 15, 0, 703),
  (691, 2, .iload 9, 0, 0), (693, 1, .aload_n 1, 0, 0), (694, 1, .iconst 5, 5, 0), (695, 1, .iaload, 0, 0),
  (696, 3, .if_icmp .gt 7, 0, 703), (699, 1, .iconst 1, 1, 0), (700, 3, .goto 4, 0, 704), (703, 1, .iconst 0, 0, 0),
  (704, 1, .ireturn, 0, 0)]
set_option maxRecDepth 100000 in
theorem kL_isSo_8_ok : kL_isSo_8.all (fw_rowq cL_isSo 16) = true := by decide +kernel
set_option maxRecDepth 100000 in
theorem kL_isSo_eq : kL_isSo = kL_isSo_0 ++ (kL_isSo_1 ++ (kL_isSo_2 ++ (kL_isSo_3 ++ (kL_isSo_4 ++ (kL_isSo_5 ++ (kL_isSo_6 ++ (kL_isSo_7 ++ (kL_isSo_8)))))))) := rfl
theorem kL_isSo_all : kL_isSo.all (fw_rowq cL_isSo 16) = true := by
  rw [kL_isSo_eq]
  simp only [List.all_append, Bool.and_eq_true]
  exact ⟨kL_isSo_0_ok, ⟨kL_isSo_1_ok, ⟨kL_isSo_2_ok, ⟨kL_isSo_3_ok, ⟨kL_isSo_4_ok, ⟨kL_isSo_5_ok, ⟨kL_isSo_6_ok, ⟨kL_isSo_7_ok, kL_isSo_8_ok⟩⟩⟩⟩⟩⟩⟩⟩
set_option maxRecDepth 100000 in
theorem kL_isSo_chain : fw_chain kL_isSo = true := by decide +kernel
theorem kL_isSo_ok : fw_chk cL_isSo 16 kL_isSo = true := by
  show (kL_isSo.all (fw_rowq cL_isSo 16) && fw_chain kL_isSo) = true
  rw [kL_isSo_all, kL_isSo_chain]
  rfl
set_option maxRecDepth 100000 in
theorem kL_isSo_cst : ∀ en ∈ kL_isSo, fw_CstOK RL [] en := by
  have h : kL_isSo.all (fw_cstq cp_L) = true := by decide +kernel
  exact fun en he => fw_cstX cp_L_ok (fun i v hq => nomatch hq) (List.all_eq_true.mp h en he)
def kL_law : List fw_Ent := [
  (36, 1, .aload_n 2, 0, 0), (37, 1, .iconst 1, 1, 0), (38, 2, .bipush 10, 10, 0), (40, 1, .iastore, 0, 0),
  (41, 1, .aload_n 1, 0, 0), (42, 1, .aload_n 2, 0, 0), (43, 1, .aload_n 3, 0, 0), (44, 2, .aload 4, 0, 0),
  (46, 2, .aload 5, 0, 0), (48, 2, .aload 6, 0, 0), (50, 3, .invokestatic 138, 0, 0), (53, 2, .istore 7, 0, 0),
  (55, 2, .bipush 10, 10, 0), (57, 1, .aload_n 0, 0, 0), (58, 1, .iconst 0, 0, 0), (59, 3, .invokestatic 142, 0, 0),
  (62, 2, .bipush 60, 60, 0), (64, 3, .invokestatic 36, 0, 0), (67, 1, .iadd, 0, 0), (68, 2, .istore 8, 0, 0),
  (70, 1, .iconst 0, 0, 0), (71, 2, .istore 9, 0, 0), (73, 2, .iload 9, 0, 0), (75, 2, .iload 8, 0, 0),
  (77, 3, .if_icmp .ge 66, 0, 143), (80, 2, .iload 7, 0, 0), (82, 3, .ifCond .eq 61, 0, 143), (85, 1, .aload_n 1, 0, 0),
  (86, 1, .aload_n 2, 0, 0), (87, 1, .aload_n 3, 0, 0), (88, 2, .aload 4, 0, 0), (90, 2, .aload 5, 0, 0),
  (92, 2, .aload 6, 0, 0), (94, 1, .aload_n 0, 0, 0), (95, 1, .iconst 1, 1, 0), (96, 2, .iload 9, 0, 0),
  (98, 1, .iadd, 0, 0), (99, 3, .invokestatic 142, 0, 0), (102, 3, .sipush 7919, 7919, 0), (105, 2, .iload 9, 0, 0),
  (107, 1, .imul, 0, 0), (108, 1, .ixor, 0, 0), (109, 3, .invokestatic 146, 0, 0), (112, 3, .ifCond .eq 22, 0, 134),
  (115, 1, .aload_n 1, 0, 0), (116, 1, .aload_n 2, 0, 0), (117, 1, .aload_n 3, 0, 0), (118, 2, .aload 4, 0, 0),
  (120, 2, .aload 5, 0, 0), (122, 2, .aload 6, 0, 0), (124, 3, .invokestatic 138, 0, 0), (127, 3, .ifCond .eq 7, 0, 134),
  (130, 1, .iconst 1, 1, 0), (131, 3, .goto 4, 0, 135), (134, 1, .iconst 0, 0, 0), (135, 2, .istore 7, 0, 0),
  (137, 3, .iinc 9 1, 1, 0), (140, 3, .goto (-67), 0, 73), (143, 2, .iload 7, 0, 0), (145, 3, .ifCond .eq 44, 0, 189),
  (148, 1, .aload_n 1, 0, 0), (149, 1, .aload_n 2, 0, 0), (150, 1, .iconst 2, 2, 0), (151, 1, .iaload, 0, 0),
  (152, 1, .iconst 0, 0, 0), (153, 3, .invokestatic 124, 0, 0), (156, 2, .ldc 51, (-100001), 0), (158, 3, .if_icmp .ne 31, 0, 189),
  (161, 1, .aload_n 1, 0, 0), (162, 1, .aload_n 2, 0, 0), (163, 1, .iconst 3, 3, 0), (164, 1, .iaload, 0, 0),
  (165, 1, .iconst 0, 0, 0), (166, 3, .invokestatic 127, 0, 0), (169, 2, .ldc 51, (-100001), 0), (171, 3, .if_icmp .ne 18, 0, 189),
  (174, 1, .aload_n 1, 0, 0), (175, 2, .bipush 11, 11, 0), (177, 3, .invokestatic 121, 0, 0), (180, 2, .ldc 56, (-100002), 0),
  (182, 3, .if_icmp .ne 7, 0, 189), (185, 1, .iconst 1, 1, 0), (186, 3, .goto 4, 0, 190), (189, 1, .iconst 0, 0, 0),
  (190, 1, .ireturn, 0, 0)]
def kL_law_0 : List fw_Ent := [
  (36, 1, .aload_n 2, 0, 0), (37, 1, .iconst 1, 1, 0), (38, 2, .bipush 10, 10, 0), (40, 1, .iastore, 0, 0),
  (41, 1, .aload_n 1, 0, 0), (42, 1, .aload_n 2, 0, 0), (43, 1, .aload_n 3, 0, 0), (44, 2, .aload 4, 0, 0),
  (46, 2, .aload 5, 0, 0), (48, 2, .aload 6, 0, 0), (50, 3, .invokestatic 138, 0, 0), (53, 2, .istore 7, 0, 0),
  (55, 2, .bipush 10, 10, 0), (57, 1, .aload_n 0, 0, 0), (58, 1, .iconst 0, 0, 0), (59, 3, .invokestatic 142, 0, 0),
  (62, 2, .bipush 60, 60, 0), (64, 3, .invokestatic 36, 0, 0), (67, 1, .iadd, 0, 0), (68, 2, .istore 8, 0, 0),
  (70, 1, .iconst 0, 0, 0), (71, 2, .istore 9, 0, 0), (73, 2, .iload 9, 0, 0), (75, 2, .iload 8, 0, 0),
  (77, 3, .if_icmp .ge 66, 0, 143), (80, 2, .iload 7, 0, 0), (82, 3, .ifCond .eq 61, 0, 143), (85, 1, .aload_n 1, 0, 0),
  (86, 1, .aload_n 2, 0, 0), (87, 1, .aload_n 3, 0, 0), (88, 2, .aload 4, 0, 0), (90, 2, .aload 5, 0, 0),
  (92, 2, .aload 6, 0, 0), (94, 1, .aload_n 0, 0, 0), (95, 1, .iconst 1, 1, 0), (96, 2, .iload 9, 0, 0),
  (98, 1, .iadd, 0, 0), (99, 3, .invokestatic 142, 0, 0), (102, 3, .sipush 7919, 7919, 0), (105, 2, .iload 9, 0, 0),
  (107, 1, .imul, 0, 0), (108, 1, .ixor, 0, 0), (109, 3, .invokestatic 146, 0, 0), (112, 3, .ifCond .eq 22, 0, 134),
  (115, 1, .aload_n 1, 0, 0), (116, 1, .aload_n 2, 0, 0), (117, 1, .aload_n 3, 0, 0), (118, 2, .aload 4, 0, 0),
  (120, 2, .aload 5, 0, 0), (122, 2, .aload 6, 0, 0)]
set_option maxRecDepth 100000 in
theorem kL_law_0_ok : kL_law_0.all (fw_rowq cL_law 10) = true := by decide +kernel
def kL_law_1 : List fw_Ent := [
  (124, 3, .invokestatic 138, 0, 0), (127, 3, .ifCond .eq 7, 0, 134), (130, 1, .iconst 1, 1, 0), (131, 3, .goto 4, 0, 135),
  (134, 1, .iconst 0, 0, 0), (135, 2, .istore 7, 0, 0), (137, 3, .iinc 9 1, 1, 0), (140, 3, .goto (-67), 0, 73),
  (143, 2, .iload 7, 0, 0), (145, 3, .ifCond .eq 44, 0, 189), (148, 1, .aload_n 1, 0, 0), (149, 1, .aload_n 2, 0, 0),
  (150, 1, .iconst 2, 2, 0), (151, 1, .iaload, 0, 0), (152, 1, .iconst 0, 0, 0), (153, 3, .invokestatic 124, 0, 0),
  (156, 2, .ldc 51, (-100001), 0), (158, 3, .if_icmp .ne 31, 0, 189), (161, 1, .aload_n 1, 0, 0), (162, 1, .aload_n 2, 0, 0),
  (163, 1, .iconst 3, 3, 0), (164, 1, .iaload, 0, 0), (165, 1, .iconst 0, 0, 0), (166, 3, .invokestatic 127, 0, 0),
  (169, 2, .ldc 51, (-100001), 0), (171, 3, .if_icmp .ne 18, 0, 189), (174, 1, .aload_n 1, 0, 0), (175, 2, .bipush 11, 11, 0),
  (177, 3, .invokestatic 121, 0, 0), (180, 2, .ldc 56, (-100002), 0), (182, 3, .if_icmp .ne 7, 0, 189), (185, 1, .iconst 1, 1, 0),
  (186, 3, .goto 4, 0, 190), (189, 1, .iconst 0, 0, 0), (190, 1, .ireturn, 0, 0)]
set_option maxRecDepth 100000 in
theorem kL_law_1_ok : kL_law_1.all (fw_rowq cL_law 10) = true := by decide +kernel
set_option maxRecDepth 100000 in
theorem kL_law_eq : kL_law = kL_law_0 ++ (kL_law_1) := rfl
theorem kL_law_all : kL_law.all (fw_rowq cL_law 10) = true := by
  rw [kL_law_eq]
  simp only [List.all_append, Bool.and_eq_true]
  exact ⟨kL_law_0_ok, kL_law_1_ok⟩
set_option maxRecDepth 100000 in
theorem kL_law_chain : fw_chain kL_law = true := by decide +kernel
theorem kL_law_ok : fw_chk cL_law 10 kL_law = true := by
  show (kL_law.all (fw_rowq cL_law 10) && fw_chain kL_law) = true
  rw [kL_law_all, kL_law_chain]
  rfl
set_option maxRecDepth 100000 in
theorem kL_law_cst : ∀ en ∈ kL_law, fw_CstOK RL [] en := by
  have h : kL_law.all (fw_cstq cp_L) = true := by decide +kernel
  exact fun en he => fw_cstX cp_L_ok (fun i v hq => nomatch hq) (List.all_eq_true.mp h en he)
end
section
/-! THE LAW'S ROWS: time and counts, couriers, parcels, legs, shares, as the words of a state -/
section LR
def RW (B : Nat) (M : fw_M) (S : Sx) : Prop := (∀ k, k < 7 → M.1 (B + 492) k = S k) ∧ (∀ c w, c < 6 → w < 5 → M.1 (B + 493) (5 * c + w) = sC S c w) ∧ (∀ m w, m < 8 → w < 8 → M.1 (B + 494) (8 * m + w) = sP S m w) ∧ (∀ m k, m < 8 → k < 6 → M.1 (B + 495) (6 * m + k) = sP S m (8 + k)) ∧ (∀ m k, m < 8 → k < 6 → M.1 (B + 496) (6 * m + k) = sP S m (14 + k))
/-- nothing but the law's rows has changed -/
def FL (B : Nat) (M M' : fw_M) : Prop := (∀ b, b < B + 492 ∨ B + 497 ≤ b → M'.1 b = M.1 b) ∧ M'.2 = M.2
theorem FL_id {B : Nat} {M : fw_M} : FL B M M := ⟨fun _ _ => rfl, rfl⟩
theorem FL_tr {B : Nat} {M M1 M2 : fw_M} (h1 : FL B M M1) (h2 : FL B M1 M2) : FL B M M2 := ⟨fun b hb => (h2.1 b hb).trans (h1.1 b hb), h2.2.trans h1.2⟩
theorem FL_s {B r k : Nat} {M M1 : fw_M} {v : Int32} (h : FL B M M1) (h1 : 492 ≤ r := by decide) (h2 : r < 497 := by decide) : FL B M (fw_st M1 (B + r) k v) := FL_tr h ⟨fun b hb => fw_up_ne (by omega), rfl⟩
def toW (B : Nat) (M : fw_M) (S' : Sx) (Q : fw_M → Prop) : Prop := ∀ M', RW B M' S' → FL B M M' → Q M'
theorem RW_g {B k : Nat} {M : fw_M} {S : Sx} {v : Int32} (h : RW B M S) (hk : k < 7) : RW B (fw_st M (B + 492) k v) (upd S k v) := by
  obtain ⟨h1, h2, h3, h4, h5⟩ := h
  refine ⟨fun j hj => ?_, fun c w hc hw => ?_, fun m w hm hw => ?_, fun m w hm hw => ?_, fun m w hm hw => ?_⟩
  · by_cases e : j = k
    · subst e; rw [st_s, upd_s]
    · rw [st_n e, upd_n e]; exact h1 j hj
  · rw [st_o (by omega), gCu hk]; exact h2 c w hc hw
  · rw [st_o (by omega), gPu (by omega)]; exact h3 m w hm hw
  · rw [st_o (by omega), gPu (by omega)]; exact h4 m w hm hw
  · rw [st_o (by omega), gPu (by omega)]; exact h5 m w hm hw
theorem RW_c {B c w : Nat} {M : fw_M} {S : Sx} {v : Int32} (h : RW B M S) (hc : c < 6) (hw : w < 5) : RW B (fw_st M (B + 493) (5 * c + w) v) (uC S c w v) := by
  obtain ⟨h1, h2, h3, h4, h5⟩ := h
  refine ⟨fun j hj => ?_, fun d x hd hx => ?_, fun m x hm hx => ?_, fun m x hm hx => ?_, fun m x hm hx => ?_⟩
  · rw [st_o (by omega), uC_lo hj]; exact h1 j hj
  · rw [gCC hx hw]
    by_cases e : d = c ∧ x = w
    · rw [if_pos e, e.1, e.2, st_s]
    · rw [if_neg e, st_n (by omega)]; exact h2 d x hd hx
  · rw [st_o (by omega), gPC hc hw]; exact h3 m x hm hx
  · rw [st_o (by omega), gPC hc hw]; exact h4 m x hm hx
  · rw [st_o (by omega), gPC hc hw]; exact h5 m x hm hx
theorem RW_p {B m w : Nat} {M : fw_M} {S : Sx} {v : Int32} (h : RW B M S) (hm : m < 8) (hw : w < 8) : RW B (fw_st M (B + 494) (8 * m + w) v) (uP S m w v) := by
  obtain ⟨h1, h2, h3, h4, h5⟩ := h
  refine ⟨fun j hj => ?_, fun d x hd hx => ?_, fun q x hq hx => ?_, fun q x hq hx => ?_, fun q x hq hx => ?_⟩
  · rw [st_o (by omega), uP_lo (by omega)]; exact h1 j hj
  · rw [st_o (by omega), gCP hd hx]; exact h2 d x hd hx
  · rw [gPP (by omega) (by omega)]
    by_cases e : q = m ∧ x = w
    · rw [if_pos e, e.1, e.2, st_s]
    · rw [if_neg e, st_n (by omega)]; exact h3 q x hq hx
  · rw [st_o (by omega), gPP (by omega) (by omega), if_neg (by omega)]; exact h4 q x hq hx
  · rw [st_o (by omega), gPP (by omega) (by omega), if_neg (by omega)]; exact h5 q x hq hx
theorem RW_l {B m w : Nat} {M : fw_M} {S : Sx} {v : Int32} (h : RW B M S) (hm : m < 8) (hw : w < 6) : RW B (fw_st M (B + 495) (6 * m + w) v) (uP S m (8 + w) v) := by
  obtain ⟨h1, h2, h3, h4, h5⟩ := h
  refine ⟨fun j hj => ?_, fun d x hd hx => ?_, fun q x hq hx => ?_, fun q x hq hx => ?_, fun q x hq hx => ?_⟩
  · rw [st_o (by omega), uP_lo (by omega)]; exact h1 j hj
  · rw [st_o (by omega), gCP hd hx]; exact h2 d x hd hx
  · rw [st_o (by omega), gPP (by omega) (by omega), if_neg (by omega)]; exact h3 q x hq hx
  · rw [gPP (by omega) (by omega)]
    by_cases e : q = m ∧ x = w
    · rw [if_pos ⟨e.1, by omega⟩, e.1, e.2, st_s]
    · rw [if_neg (by omega), st_n (by omega)]; exact h4 q x hq hx
  · rw [st_o (by omega), gPP (by omega) (by omega), if_neg (by omega)]; exact h5 q x hq hx
theorem RW_h {B m w : Nat} {M : fw_M} {S : Sx} {v : Int32} (h : RW B M S) (hm : m < 8) (hw : w < 6) : RW B (fw_st M (B + 496) (6 * m + w) v) (uP S m (14 + w) v) := by
  obtain ⟨h1, h2, h3, h4, h5⟩ := h
  refine ⟨fun j hj => ?_, fun d x hd hx => ?_, fun q x hq hx => ?_, fun q x hq hx => ?_, fun q x hq hx => ?_⟩
  · rw [st_o (by omega), uP_lo (by omega)]; exact h1 j hj
  · rw [st_o (by omega), gCP hd hx]; exact h2 d x hd hx
  · rw [st_o (by omega), gPP (by omega) (by omega), if_neg (by omega)]; exact h3 q x hq hx
  · rw [st_o (by omega), gPP (by omega) (by omega), if_neg (by omega)]; exact h4 q x hq hx
  · rw [gPP (by omega) (by omega)]
    by_cases e : q = m ∧ x = w
    · rw [if_pos ⟨e.1, by omega⟩, e.1, e.2, st_s]
    · rw [if_neg (by omega), st_n (by omega)]; exact h5 q x hq hx
theorem RW_cg {B : Nat} {M M' : fw_M} {S : Sx} (h : RW B M S) (e : ∀ b, B + 492 ≤ b → b < B + 497 → M'.1 b = M.1 b) : RW B M' S := by
  obtain ⟨h1, h2, h3, h4, h5⟩ := h
  refine ⟨fun k hk => ?_, fun c w hc hw => ?_, fun m w hm hw => ?_, fun m w hm hw => ?_, fun m w hm hw => ?_⟩
  · rw [e _ (by omega) (by omega)]; exact h1 k hk
  · rw [e _ (by omega) (by omega)]; exact h2 c w hc hw
  · rw [e _ (by omega) (by omega)]; exact h3 m w hm hw
  · rw [e _ (by omega) (by omega)]; exact h4 m w hm hw
  · rw [e _ (by omega) (by omega)]; exact h5 m w hm hw
theorem RC_hi {B : Nat} {M M' : fw_M} {Z : Zs} (h : RC B M Z) (e : ∀ b, b < B + 492 → M'.1 b = M.1 b) : RC B M' Z :=
  ⟨Rep_fr h.1 (fun c h1 h2 => e c (by omega)), HS_fr h.2.1 (fun c h1 h2 => e c (by omega)), TS_eq h.2.2 (e _ (by omega)) (e _ (by omega))⟩
theorem vrg0 {B : Nat} : fw_sd (vp_in (0 : Int32) (fw_len B (B + 492))) := by rw [ln_492]; exact vn_i (i := 0) (by decide) (by decide)
theorem rrg0 {B : Nat} {M : fw_M} {S : Sx} (h : RW B M S) : M.1 (B + 492) (0 : Int32).toNatClampNeg = S 0 := h.1 0 (by decide)
theorem wrg0 {B : Nat} {M : fw_M} {S : Sx} {v v' : Int32} (h : RW B M S) (e : v = v') : RW B (fw_st M (B + 492) (0 : Int32).toNatClampNeg v) (upd S 0 v') := by subst e; exact RW_g (k := 0) h (by decide)
theorem vrg1 {B : Nat} : fw_sd (vp_in (1 : Int32) (fw_len B (B + 492))) := by rw [ln_492]; exact vn_i (i := 1) (by decide) (by decide)
theorem rrg1 {B : Nat} {M : fw_M} {S : Sx} (h : RW B M S) : M.1 (B + 492) (1 : Int32).toNatClampNeg = S 1 := h.1 1 (by decide)
theorem wrg1 {B : Nat} {M : fw_M} {S : Sx} {v v' : Int32} (h : RW B M S) (e : v = v') : RW B (fw_st M (B + 492) (1 : Int32).toNatClampNeg v) (upd S 1 v') := by subst e; exact RW_g (k := 1) h (by decide)
theorem vrg2 {B : Nat} : fw_sd (vp_in (2 : Int32) (fw_len B (B + 492))) := by rw [ln_492]; exact vn_i (i := 2) (by decide) (by decide)
theorem rrg2 {B : Nat} {M : fw_M} {S : Sx} (h : RW B M S) : M.1 (B + 492) (2 : Int32).toNatClampNeg = S 2 := h.1 2 (by decide)
theorem wrg2 {B : Nat} {M : fw_M} {S : Sx} {v v' : Int32} (h : RW B M S) (e : v = v') : RW B (fw_st M (B + 492) (2 : Int32).toNatClampNeg v) (upd S 2 v') := by subst e; exact RW_g (k := 2) h (by decide)
theorem vrg3 {B : Nat} : fw_sd (vp_in (3 : Int32) (fw_len B (B + 492))) := by rw [ln_492]; exact vn_i (i := 3) (by decide) (by decide)
theorem rrg3 {B : Nat} {M : fw_M} {S : Sx} (h : RW B M S) : M.1 (B + 492) (3 : Int32).toNatClampNeg = S 3 := h.1 3 (by decide)
theorem wrg3 {B : Nat} {M : fw_M} {S : Sx} {v v' : Int32} (h : RW B M S) (e : v = v') : RW B (fw_st M (B + 492) (3 : Int32).toNatClampNeg v) (upd S 3 v') := by subst e; exact RW_g (k := 3) h (by decide)
theorem vrg4 {B : Nat} : fw_sd (vp_in (4 : Int32) (fw_len B (B + 492))) := by rw [ln_492]; exact vn_i (i := 4) (by decide) (by decide)
theorem rrg4 {B : Nat} {M : fw_M} {S : Sx} (h : RW B M S) : M.1 (B + 492) (4 : Int32).toNatClampNeg = S 4 := h.1 4 (by decide)
theorem wrg4 {B : Nat} {M : fw_M} {S : Sx} {v v' : Int32} (h : RW B M S) (e : v = v') : RW B (fw_st M (B + 492) (4 : Int32).toNatClampNeg v) (upd S 4 v') := by subst e; exact RW_g (k := 4) h (by decide)
theorem vrg5 {B : Nat} : fw_sd (vp_in (5 : Int32) (fw_len B (B + 492))) := by rw [ln_492]; exact vn_i (i := 5) (by decide) (by decide)
theorem rrg5 {B : Nat} {M : fw_M} {S : Sx} (h : RW B M S) : M.1 (B + 492) (5 : Int32).toNatClampNeg = S 5 := h.1 5 (by decide)
theorem wrg5 {B : Nat} {M : fw_M} {S : Sx} {v v' : Int32} (h : RW B M S) (e : v = v') : RW B (fw_st M (B + 492) (5 : Int32).toNatClampNeg v) (upd S 5 v') := by subst e; exact RW_g (k := 5) h (by decide)
theorem vrg6 {B : Nat} : fw_sd (vp_in (6 : Int32) (fw_len B (B + 492))) := by rw [ln_492]; exact vn_i (i := 6) (by decide) (by decide)
theorem rrg6 {B : Nat} {M : fw_M} {S : Sx} (h : RW B M S) : M.1 (B + 492) (6 : Int32).toNatClampNeg = S 6 := h.1 6 (by decide)
theorem wrg6 {B : Nat} {M : fw_M} {S : Sx} {v v' : Int32} (h : RW B M S) (e : v = v') : RW B (fw_st M (B + 492) (6 : Int32).toNatClampNeg v) (upd S 6 v') := by subst e; exact RW_g (k := 6) h (by decide)
theorem xrc {k : Nat} : (5 : Int32) * nI k = nI (5 * k + 0) := by rw [show (5 : Int32) = nI 5 from rfl, n_mul]; rfl
theorem vrc {B k : Nat} (h : k < 6) : fw_sd (vp_in ((5 : Int32) * nI k) (fw_len B (B + 493))) := by rw [xrc, ln_493]; exact vn_i (by omega) (by decide)
theorem rrc {B k : Nat} {M : fw_M} {S : Sx} (h : RW B M S) (hk : k < 6) : M.1 (B + 493) ((5 : Int32) * nI k).toNatClampNeg = sC S k 0 := by rw [xrc, n_cl (by omega)]; exact h.2.1 k 0 hk (by decide)
theorem wrc {B k : Nat} {M : fw_M} {S : Sx} {v v' : Int32} (h : RW B M S) (hk : k < 6) (e : v = v') : RW B (fw_st M (B + 493) ((5 : Int32) * nI k).toNatClampNeg v) (uC S k 0 v') := by subst e; rw [xrc, n_cl (by omega)]; exact RW_c h hk (by decide)
theorem xrc0 {k : Nat} : (5 : Int32) * nI k + 0 = nI (5 * k + 0) := by rw [show (5 : Int32) = nI 5 from rfl, show (0 : Int32) = nI 0 from rfl, n_mul, n_add]
theorem vrc0 {B k : Nat} (h : k < 6) : fw_sd (vp_in ((5 : Int32) * nI k + 0) (fw_len B (B + 493))) := by rw [xrc0, ln_493]; exact vn_i (by omega) (by decide)
theorem rrc0 {B k : Nat} {M : fw_M} {S : Sx} (h : RW B M S) (hk : k < 6) : M.1 (B + 493) ((5 : Int32) * nI k + 0).toNatClampNeg = sC S k 0 := by rw [xrc0, n_cl (by omega)]; exact h.2.1 k 0 hk (by decide)
theorem wrc0 {B k : Nat} {M : fw_M} {S : Sx} {v v' : Int32} (h : RW B M S) (hk : k < 6) (e : v = v') : RW B (fw_st M (B + 493) ((5 : Int32) * nI k + 0).toNatClampNeg v) (uC S k 0 v') := by subst e; rw [xrc0, n_cl (by omega)]; exact RW_c h hk (by decide)
theorem xrc1 {k : Nat} : (5 : Int32) * nI k + 1 = nI (5 * k + 1) := by rw [show (5 : Int32) = nI 5 from rfl, show (1 : Int32) = nI 1 from rfl, n_mul, n_add]
theorem vrc1 {B k : Nat} (h : k < 6) : fw_sd (vp_in ((5 : Int32) * nI k + 1) (fw_len B (B + 493))) := by rw [xrc1, ln_493]; exact vn_i (by omega) (by decide)
theorem rrc1 {B k : Nat} {M : fw_M} {S : Sx} (h : RW B M S) (hk : k < 6) : M.1 (B + 493) ((5 : Int32) * nI k + 1).toNatClampNeg = sC S k 1 := by rw [xrc1, n_cl (by omega)]; exact h.2.1 k 1 hk (by decide)
theorem wrc1 {B k : Nat} {M : fw_M} {S : Sx} {v v' : Int32} (h : RW B M S) (hk : k < 6) (e : v = v') : RW B (fw_st M (B + 493) ((5 : Int32) * nI k + 1).toNatClampNeg v) (uC S k 1 v') := by subst e; rw [xrc1, n_cl (by omega)]; exact RW_c h hk (by decide)
theorem xrc2 {k : Nat} : (5 : Int32) * nI k + 2 = nI (5 * k + 2) := by rw [show (5 : Int32) = nI 5 from rfl, show (2 : Int32) = nI 2 from rfl, n_mul, n_add]
theorem vrc2 {B k : Nat} (h : k < 6) : fw_sd (vp_in ((5 : Int32) * nI k + 2) (fw_len B (B + 493))) := by rw [xrc2, ln_493]; exact vn_i (by omega) (by decide)
theorem rrc2 {B k : Nat} {M : fw_M} {S : Sx} (h : RW B M S) (hk : k < 6) : M.1 (B + 493) ((5 : Int32) * nI k + 2).toNatClampNeg = sC S k 2 := by rw [xrc2, n_cl (by omega)]; exact h.2.1 k 2 hk (by decide)
theorem wrc2 {B k : Nat} {M : fw_M} {S : Sx} {v v' : Int32} (h : RW B M S) (hk : k < 6) (e : v = v') : RW B (fw_st M (B + 493) ((5 : Int32) * nI k + 2).toNatClampNeg v) (uC S k 2 v') := by subst e; rw [xrc2, n_cl (by omega)]; exact RW_c h hk (by decide)
theorem xrc3 {k : Nat} : (5 : Int32) * nI k + 3 = nI (5 * k + 3) := by rw [show (5 : Int32) = nI 5 from rfl, show (3 : Int32) = nI 3 from rfl, n_mul, n_add]
theorem vrc3 {B k : Nat} (h : k < 6) : fw_sd (vp_in ((5 : Int32) * nI k + 3) (fw_len B (B + 493))) := by rw [xrc3, ln_493]; exact vn_i (by omega) (by decide)
theorem rrc3 {B k : Nat} {M : fw_M} {S : Sx} (h : RW B M S) (hk : k < 6) : M.1 (B + 493) ((5 : Int32) * nI k + 3).toNatClampNeg = sC S k 3 := by rw [xrc3, n_cl (by omega)]; exact h.2.1 k 3 hk (by decide)
theorem wrc3 {B k : Nat} {M : fw_M} {S : Sx} {v v' : Int32} (h : RW B M S) (hk : k < 6) (e : v = v') : RW B (fw_st M (B + 493) ((5 : Int32) * nI k + 3).toNatClampNeg v) (uC S k 3 v') := by subst e; rw [xrc3, n_cl (by omega)]; exact RW_c h hk (by decide)
theorem xrc4 {k : Nat} : (5 : Int32) * nI k + 4 = nI (5 * k + 4) := by rw [show (5 : Int32) = nI 5 from rfl, show (4 : Int32) = nI 4 from rfl, n_mul, n_add]
theorem vrc4 {B k : Nat} (h : k < 6) : fw_sd (vp_in ((5 : Int32) * nI k + 4) (fw_len B (B + 493))) := by rw [xrc4, ln_493]; exact vn_i (by omega) (by decide)
theorem rrc4 {B k : Nat} {M : fw_M} {S : Sx} (h : RW B M S) (hk : k < 6) : M.1 (B + 493) ((5 : Int32) * nI k + 4).toNatClampNeg = sC S k 4 := by rw [xrc4, n_cl (by omega)]; exact h.2.1 k 4 hk (by decide)
theorem wrc4 {B k : Nat} {M : fw_M} {S : Sx} {v v' : Int32} (h : RW B M S) (hk : k < 6) (e : v = v') : RW B (fw_st M (B + 493) ((5 : Int32) * nI k + 4).toNatClampNeg v) (uC S k 4 v') := by subst e; rw [xrc4, n_cl (by omega)]; exact RW_c h hk (by decide)
theorem xrp {m : Nat} : (8 : Int32) * nI m = nI (8 * m + 0) := by rw [show (8 : Int32) = nI 8 from rfl, n_mul]; rfl
theorem vrp {B m : Nat} (h : m < 8) : fw_sd (vp_in ((8 : Int32) * nI m) (fw_len B (B + 494))) := by rw [xrp, ln_494]; exact vn_i (by omega) (by decide)
theorem rrp {B m : Nat} {M : fw_M} {S : Sx} (h : RW B M S) (hm : m < 8) : M.1 (B + 494) ((8 : Int32) * nI m).toNatClampNeg = sP S m 0 := by rw [xrp, n_cl (by omega)]; exact h.2.2.1 m 0 hm (by decide)
theorem wrp {B m : Nat} {M : fw_M} {S : Sx} {v v' : Int32} (h : RW B M S) (hm : m < 8) (e : v = v') : RW B (fw_st M (B + 494) ((8 : Int32) * nI m).toNatClampNeg v) (uP S m 0 v') := by subst e; rw [xrp, n_cl (by omega)]; exact RW_p h hm (by decide)
theorem xrp0 {m : Nat} : (8 : Int32) * nI m + 0 = nI (8 * m + 0) := by rw [show (8 : Int32) = nI 8 from rfl, show (0 : Int32) = nI 0 from rfl, n_mul, n_add]
theorem vrp0 {B m : Nat} (h : m < 8) : fw_sd (vp_in ((8 : Int32) * nI m + 0) (fw_len B (B + 494))) := by rw [xrp0, ln_494]; exact vn_i (by omega) (by decide)
theorem rrp0 {B m : Nat} {M : fw_M} {S : Sx} (h : RW B M S) (hm : m < 8) : M.1 (B + 494) ((8 : Int32) * nI m + 0).toNatClampNeg = sP S m 0 := by rw [xrp0, n_cl (by omega)]; exact h.2.2.1 m 0 hm (by decide)
theorem wrp0 {B m : Nat} {M : fw_M} {S : Sx} {v v' : Int32} (h : RW B M S) (hm : m < 8) (e : v = v') : RW B (fw_st M (B + 494) ((8 : Int32) * nI m + 0).toNatClampNeg v) (uP S m 0 v') := by subst e; rw [xrp0, n_cl (by omega)]; exact RW_p h hm (by decide)
theorem xrp1 {m : Nat} : (8 : Int32) * nI m + 1 = nI (8 * m + 1) := by rw [show (8 : Int32) = nI 8 from rfl, show (1 : Int32) = nI 1 from rfl, n_mul, n_add]
theorem vrp1 {B m : Nat} (h : m < 8) : fw_sd (vp_in ((8 : Int32) * nI m + 1) (fw_len B (B + 494))) := by rw [xrp1, ln_494]; exact vn_i (by omega) (by decide)
theorem rrp1 {B m : Nat} {M : fw_M} {S : Sx} (h : RW B M S) (hm : m < 8) : M.1 (B + 494) ((8 : Int32) * nI m + 1).toNatClampNeg = sP S m 1 := by rw [xrp1, n_cl (by omega)]; exact h.2.2.1 m 1 hm (by decide)
theorem wrp1 {B m : Nat} {M : fw_M} {S : Sx} {v v' : Int32} (h : RW B M S) (hm : m < 8) (e : v = v') : RW B (fw_st M (B + 494) ((8 : Int32) * nI m + 1).toNatClampNeg v) (uP S m 1 v') := by subst e; rw [xrp1, n_cl (by omega)]; exact RW_p h hm (by decide)
theorem xrp2 {m : Nat} : (8 : Int32) * nI m + 2 = nI (8 * m + 2) := by rw [show (8 : Int32) = nI 8 from rfl, show (2 : Int32) = nI 2 from rfl, n_mul, n_add]
theorem vrp2 {B m : Nat} (h : m < 8) : fw_sd (vp_in ((8 : Int32) * nI m + 2) (fw_len B (B + 494))) := by rw [xrp2, ln_494]; exact vn_i (by omega) (by decide)
theorem rrp2 {B m : Nat} {M : fw_M} {S : Sx} (h : RW B M S) (hm : m < 8) : M.1 (B + 494) ((8 : Int32) * nI m + 2).toNatClampNeg = sP S m 2 := by rw [xrp2, n_cl (by omega)]; exact h.2.2.1 m 2 hm (by decide)
theorem wrp2 {B m : Nat} {M : fw_M} {S : Sx} {v v' : Int32} (h : RW B M S) (hm : m < 8) (e : v = v') : RW B (fw_st M (B + 494) ((8 : Int32) * nI m + 2).toNatClampNeg v) (uP S m 2 v') := by subst e; rw [xrp2, n_cl (by omega)]; exact RW_p h hm (by decide)
theorem xrp3 {m : Nat} : (8 : Int32) * nI m + 3 = nI (8 * m + 3) := by rw [show (8 : Int32) = nI 8 from rfl, show (3 : Int32) = nI 3 from rfl, n_mul, n_add]
theorem vrp3 {B m : Nat} (h : m < 8) : fw_sd (vp_in ((8 : Int32) * nI m + 3) (fw_len B (B + 494))) := by rw [xrp3, ln_494]; exact vn_i (by omega) (by decide)
theorem rrp3 {B m : Nat} {M : fw_M} {S : Sx} (h : RW B M S) (hm : m < 8) : M.1 (B + 494) ((8 : Int32) * nI m + 3).toNatClampNeg = sP S m 3 := by rw [xrp3, n_cl (by omega)]; exact h.2.2.1 m 3 hm (by decide)
theorem wrp3 {B m : Nat} {M : fw_M} {S : Sx} {v v' : Int32} (h : RW B M S) (hm : m < 8) (e : v = v') : RW B (fw_st M (B + 494) ((8 : Int32) * nI m + 3).toNatClampNeg v) (uP S m 3 v') := by subst e; rw [xrp3, n_cl (by omega)]; exact RW_p h hm (by decide)
theorem xrp4 {m : Nat} : (8 : Int32) * nI m + 4 = nI (8 * m + 4) := by rw [show (8 : Int32) = nI 8 from rfl, show (4 : Int32) = nI 4 from rfl, n_mul, n_add]
theorem vrp4 {B m : Nat} (h : m < 8) : fw_sd (vp_in ((8 : Int32) * nI m + 4) (fw_len B (B + 494))) := by rw [xrp4, ln_494]; exact vn_i (by omega) (by decide)
theorem rrp4 {B m : Nat} {M : fw_M} {S : Sx} (h : RW B M S) (hm : m < 8) : M.1 (B + 494) ((8 : Int32) * nI m + 4).toNatClampNeg = sP S m 4 := by rw [xrp4, n_cl (by omega)]; exact h.2.2.1 m 4 hm (by decide)
theorem wrp4 {B m : Nat} {M : fw_M} {S : Sx} {v v' : Int32} (h : RW B M S) (hm : m < 8) (e : v = v') : RW B (fw_st M (B + 494) ((8 : Int32) * nI m + 4).toNatClampNeg v) (uP S m 4 v') := by subst e; rw [xrp4, n_cl (by omega)]; exact RW_p h hm (by decide)
theorem xrp5 {m : Nat} : (8 : Int32) * nI m + 5 = nI (8 * m + 5) := by rw [show (8 : Int32) = nI 8 from rfl, show (5 : Int32) = nI 5 from rfl, n_mul, n_add]
theorem vrp5 {B m : Nat} (h : m < 8) : fw_sd (vp_in ((8 : Int32) * nI m + 5) (fw_len B (B + 494))) := by rw [xrp5, ln_494]; exact vn_i (by omega) (by decide)
theorem rrp5 {B m : Nat} {M : fw_M} {S : Sx} (h : RW B M S) (hm : m < 8) : M.1 (B + 494) ((8 : Int32) * nI m + 5).toNatClampNeg = sP S m 5 := by rw [xrp5, n_cl (by omega)]; exact h.2.2.1 m 5 hm (by decide)
theorem wrp5 {B m : Nat} {M : fw_M} {S : Sx} {v v' : Int32} (h : RW B M S) (hm : m < 8) (e : v = v') : RW B (fw_st M (B + 494) ((8 : Int32) * nI m + 5).toNatClampNeg v) (uP S m 5 v') := by subst e; rw [xrp5, n_cl (by omega)]; exact RW_p h hm (by decide)
theorem xrp6 {m : Nat} : (8 : Int32) * nI m + 6 = nI (8 * m + 6) := by rw [show (8 : Int32) = nI 8 from rfl, show (6 : Int32) = nI 6 from rfl, n_mul, n_add]
theorem vrp6 {B m : Nat} (h : m < 8) : fw_sd (vp_in ((8 : Int32) * nI m + 6) (fw_len B (B + 494))) := by rw [xrp6, ln_494]; exact vn_i (by omega) (by decide)
theorem rrp6 {B m : Nat} {M : fw_M} {S : Sx} (h : RW B M S) (hm : m < 8) : M.1 (B + 494) ((8 : Int32) * nI m + 6).toNatClampNeg = sP S m 6 := by rw [xrp6, n_cl (by omega)]; exact h.2.2.1 m 6 hm (by decide)
theorem wrp6 {B m : Nat} {M : fw_M} {S : Sx} {v v' : Int32} (h : RW B M S) (hm : m < 8) (e : v = v') : RW B (fw_st M (B + 494) ((8 : Int32) * nI m + 6).toNatClampNeg v) (uP S m 6 v') := by subst e; rw [xrp6, n_cl (by omega)]; exact RW_p h hm (by decide)
theorem xrp7 {m : Nat} : (8 : Int32) * nI m + 7 = nI (8 * m + 7) := by rw [show (8 : Int32) = nI 8 from rfl, show (7 : Int32) = nI 7 from rfl, n_mul, n_add]
theorem vrp7 {B m : Nat} (h : m < 8) : fw_sd (vp_in ((8 : Int32) * nI m + 7) (fw_len B (B + 494))) := by rw [xrp7, ln_494]; exact vn_i (by omega) (by decide)
theorem rrp7 {B m : Nat} {M : fw_M} {S : Sx} (h : RW B M S) (hm : m < 8) : M.1 (B + 494) ((8 : Int32) * nI m + 7).toNatClampNeg = sP S m 7 := by rw [xrp7, n_cl (by omega)]; exact h.2.2.1 m 7 hm (by decide)
theorem wrp7 {B m : Nat} {M : fw_M} {S : Sx} {v v' : Int32} (h : RW B M S) (hm : m < 8) (e : v = v') : RW B (fw_st M (B + 494) ((8 : Int32) * nI m + 7).toNatClampNeg v) (uP S m 7 v') := by subst e; rw [xrp7, n_cl (by omega)]; exact RW_p h hm (by decide)
theorem xrcw {k w : Nat} : (5 : Int32) * nI k + nI w = nI (5 * k + w) := by rw [show (5 : Int32) = nI 5 from rfl, n_mul, n_add]
theorem vrcw {B k w : Nat} (h : k < 6) (hw : w < 5) : fw_sd (vp_in ((5 : Int32) * nI k + nI w) (fw_len B (B + 493))) := by rw [xrcw, ln_493]; exact vn_i (by omega) (by decide)
theorem rrcw {B k w : Nat} {M : fw_M} {S : Sx} (h : RW B M S) (hk : k < 6) (hw : w < 5) : M.1 (B + 493) ((5 : Int32) * nI k + nI w).toNatClampNeg = sC S k w := by rw [xrcw, n_cl (by omega)]; exact h.2.1 k w hk hw
theorem xrpw {m w : Nat} : (8 : Int32) * nI m + nI w = nI (8 * m + w) := by rw [show (8 : Int32) = nI 8 from rfl, n_mul, n_add]
theorem vrpw {B m w : Nat} (h : m < 8) (hw : w < 8) : fw_sd (vp_in ((8 : Int32) * nI m + nI w) (fw_len B (B + 494))) := by rw [xrpw, ln_494]; exact vn_i (by omega) (by decide)
theorem rrpw {B m w : Nat} {M : fw_M} {S : Sx} (h : RW B M S) (hm : m < 8) (hw : w < 8) : M.1 (B + 494) ((8 : Int32) * nI m + nI w).toNatClampNeg = sP S m w := by rw [xrpw, n_cl (by omega)]; exact h.2.2.1 m w hm hw
theorem xrl {m k : Nat} : (6 : Int32) * nI m + nI k = nI (6 * m + k) := by rw [show (6 : Int32) = nI 6 from rfl, n_mul, n_add]
theorem vrl {B m k : Nat} (h : m < 8) (hk : k < 6) : fw_sd (vp_in ((6 : Int32) * nI m + nI k) (fw_len B (B + 495))) := by rw [xrl, ln_495]; exact vn_i (by omega) (by decide)
theorem rrl {B m k : Nat} {M : fw_M} {S : Sx} (h : RW B M S) (hm : m < 8) (hk : k < 6) : M.1 (B + 495) ((6 : Int32) * nI m + nI k).toNatClampNeg = sP S m (8 + k) := by rw [xrl, n_cl (by omega)]; exact h.2.2.2.1 m k hm hk
theorem wrl {B m k : Nat} {M : fw_M} {S : Sx} {v v' : Int32} (h : RW B M S) (hm : m < 8) (hk : k < 6) (e : v = v') : RW B (fw_st M (B + 495) ((6 : Int32) * nI m + nI k).toNatClampNeg v) (uP S m (8 + k) v') := by subst e; rw [xrl, n_cl (by omega)]; exact RW_l h hm hk
theorem vrh {B m k : Nat} (h : m < 8) (hk : k < 6) : fw_sd (vp_in ((6 : Int32) * nI m + nI k) (fw_len B (B + 496))) := by rw [xrl, ln_496]; exact vn_i (by omega) (by decide)
theorem rrh {B m k : Nat} {M : fw_M} {S : Sx} (h : RW B M S) (hm : m < 8) (hk : k < 6) : M.1 (B + 496) ((6 : Int32) * nI m + nI k).toNatClampNeg = sP S m (14 + k) := by rw [xrl, n_cl (by omega)]; exact h.2.2.2.2 m k hm hk
theorem wrh {B m k : Nat} {M : fw_M} {S : Sx} {v v' : Int32} (h : RW B M S) (hm : m < 8) (hk : k < 6) (e : v = v') : RW B (fw_st M (B + 496) ((6 : Int32) * nI m + nI k).toNatClampNeg v) (uP S m (14 + k) v') := by subst e; rw [xrl, n_cl (by omega)]; exact RW_h h hm hk
end LR
end
section
/-! WHAT HOLDS OF ALL STATES is kept by every call -/
section KP
theorem ct4 {b : Nat} {S : Sx} {c : Nat} (h : WF b S) (hc : c < cn S) : sC S c 4 = -1 ∨ ∃ p, p < pn S ∧ sC S c 4 = nI p := by
  rcases (h.2.2.2.2.1 c hc).2 with ⟨-, e⟩ | ⟨p, hp, e, -⟩
  · exact Or.inl e
  · exact Or.inr ⟨p, hp, e⟩
theorem ct4_n {b : Nat} {S : Sx} {c : Nat} (h : WF b S) (hc : c < cn S) : ¬ sC S c 4 = nI (pn S) := by
  have hm := h.2.2.2.1
  rcases ct4 h hc with e | ⟨p, hp, e⟩
  · rw [e]; exact fun z => nI_m1 (by omega) z.symm
  · rw [e, nI_eq (by omega) (by omega)]; omega
theorem J_add {b : Nat} {S : Sx} {ar z : Int32} (h : J S) (hW : WF b S) (hc : cn S < 6) : J (addS S ar z) := by
  obtain ⟨h2, hn, h3, hm, -⟩ := hW
  have f2 : addS S ar z 2 = nI (cn S + 1) := by unfold addS; rw [upd_s]; exact nI_suc h2
  have f3 : addS S ar z 3 = S 3 := by unfold addS; rw [upd_n (by decide), frS_lo (by decide), uC_lo (by decide), uC_lo (by decide), uC_lo (by decide)]
  have e2 : cn (addS S ar z) = cn S + 1 := by unfold cn; rw [f2, n_cl (by unfold cn at hc; omega)]; rfl
  have e3 : pn (addS S ar z) = pn S := pn_eq f3
  have eP : ∀ p x, sP (addS S ar z) p x = sP S p x := fun p x => by
    unfold addS; rw [gPu (by decide), frS_P (by omega), gPC (by omega) (by decide), gPC (by omega) (by decide), gPC (by omega) (by decide)]
  have eC : ∀ d x, x = 3 ∨ x = 4 → d ≠ cn S → sC (addS S ar z) d x = sC S d x := fun d x hx hd => by
    unfold addS
    rw [gCu (by decide), frS_C (by omega), gCC (by omega) (by decide), gCC (by omega) (by decide), gCC (by omega) (by decide)]
    simp only [hd, false_and, if_false]
  have e4 : sC (addS S ar z) (cn S) 4 = -1 := by
    unfold addS
    rw [gCu (by decide), frS_C (by decide), if_pos ⟨rfl, rfl⟩]
  refine ⟨fun c d p hc hd hp q1 q2 => ?_, fun c p hc hp q1 q2 => ?_⟩
  · rw [e2] at hc hd
    rw [e3] at hp
    have n1 : c ≠ cn S := fun e => by rw [e, e4] at q1; exact m1_ne hp hm q1
    have n2 : d ≠ cn S := fun e => by rw [e, e4] at q2; exact m1_ne hp hm q2
    rw [eC c 4 (Or.inr rfl) n1] at q1
    rw [eC d 4 (Or.inr rfl) n2] at q2
    exact h.1 c d p (by omega) (by omega) hp q1 q2
  · rw [e2] at hc
    rw [e3] at hp
    have n1 : c ≠ cn S := fun e => by rw [e, e4] at q1; exact m1_ne hp hm q1
    rw [eC c 4 (Or.inr rfl) n1] at q1
    rw [eC c 3 (Or.inl rfl) n1] at q2
    rw [eP]
    exact h.2 c p (by omega) hp q1 q2
theorem J_com {b : Nat} {S : Sx} {o g k t : Int32} (h : J S) (hW : WF b S) (hp : pn S < 24) : J (comS S o g k t) := by
  have hn : cn S ≤ 6 := hW.2.1
  have e2 : cn (comS S o g k t) = cn S := cn_eq (com_lo (by decide) (by decide))
  have e3 : pn (comS S o g k t) = pn S + 1 := by
    have f3 : comS S o g k t 3 = nI (pn S + 1) := by unfold comS; rw [upd_s, hW.2.2.1, nI_1]
    show (comS S o g k t 3).toNatClampNeg = _
    rw [f3, n_cl (by omega)]
  refine ⟨fun c d p hc hd hp' q1 q2 => ?_, fun c p hc hp' q1 q2 => ?_⟩
  · rw [e2] at hc hd
    rw [e3] at hp'
    rw [com_C (by omega) (by decide)] at q1 q2
    rcases Nat.lt_or_ge p (pn S) with z | z
    · exact h.1 c d p hc hd z q1 q2
    · rw [show p = pn S by omega] at q1
      exact absurd q1 (ct4_n hW hc)
  · rw [e2] at hc
    rw [e3] at hp'
    rw [com_C (by omega) (by decide)] at q1 q2
    rcases Nat.lt_or_ge p (pn S) with z | z
    · rw [com_P (by decide), if_neg (by omega)]
      exact h.2 c p hc z q1 q2
    · rw [show p = pn S by omega] at q1
      exact absurd q1 (ct4_n hW hc)
theorem pn_lt {b : Nat} {S : Sx} (h : WF b S) (h3 : ¬ S 3 = 24) : pn S < 24 := by
  have := h.2.2.2.1
  rcases Nat.lt_or_ge (pn S) 24 with z | z
  · exact z
  · exact absurd (by rw [h.2.2.1, show pn S = 24 by omega]; rfl) h3
theorem ph_all {P : Sx → Prop} {n : Nat} {H : Nat → Sx} {S0 : Sx} (h0 : P S0) (hH : ∀ i, i < n → P (H i)) : ∀ i, i < phN n → P (phH n H S0 i) := by
  intro i hi
  unfold phN at hi
  unfold phH
  by_cases e : n = 4
  · rw [if_pos e] at hi ⊢
    by_cases e2 : i = 3
    · rw [if_pos e2]; exact h0
    · rw [if_neg e2]; exact hH _ (by omega)
  · rw [if_neg e] at hi ⊢
    by_cases e2 : i = n
    · rw [if_pos e2]; exact h0
    · rw [if_neg e2]; exact hH _ (by omega)
/-- both -/
def KZ (Z : Zs) : Prop := GZ Z ∧ JZ Z
theorem KZ_ph {Z : Zs} {S' : Sx} (h : KZ Z) (h1 : GS S') (h2 : J S') : KZ (phZ Z S') := ⟨⟨h1, ph_all h.1.1 h.1.2⟩, ⟨h2, ph_all h.2.1 h.2.2⟩⟩
theorem KZ_tx {S : Sx} {n tl tl' : Nat} {H : Nat → Sx} {tx tx' : Nat → Int32} (h : KZ (S, n, H, tl, tx)) : KZ (S, n, H, tl', tx') := h
theorem KZ_add {Z : Zs} {ar z : Int32} (h : KZ Z) : KZ (opAdd ar z Z).2.2 := by
  unfold opAdd
  split
  · rename_i e
    rw [Bool.and_eq_true] at e
    split
    · exact h
    · rename_i e2
      obtain ⟨k, -, hk, rfl, -⟩ := ok_n (a := 0) (b := 15) (by decide) (by decide) e.2
      obtain ⟨t, ht, hW⟩ := GS_wf h.1.1
      have hc : cn Z.1 < 6 := by
        have := hW.2.1
        rcases Nat.lt_or_ge (cn Z.1) 6 with z | z
        · exact z
        · exact absurd (by rw [hW.1, show cn Z.1 = 6 by omega]; rfl) e2
      exact KZ_ph h (GS_up h.1.1 (by unfold addS; rw [upd_n (by decide), frS_lo (by decide), uC_lo (by decide), uC_lo (by decide), uC_lo (by decide)]) (fun b hb => WF_add hb hc (by omega)) (fun k hk => add_hi hc hk)) (J_add h.2.1 hW hc)
  · exact h
theorem KZ_area {Z : Zs} {c ar : Int32} (h : KZ Z) : KZ (opArea c ar Z).2.2 := by
  unfold opArea
  obtain ⟨t, ht, hW⟩ := GS_wf h.1.1
  have hn := hW.2.1
  split
  · rename_i e
    obtain ⟨k, hk, rfl, ek⟩ := isCr_n hW e
    split
    · rw [ek]
      exact KZ_ph h (GS_up h.1.1 (uC_lo (by decide)) (fun b hb => WF_area hb (by omega)) (fun j hj => uC_hi (by omega) (by decide) hj)) (J_area h.2.1 (by omega))
    · exact h
  · exact h
theorem KZ_give {Z : Zs} {o g k t : Int32} (h : KZ Z) : KZ (opGive o g k t Z).2.2 := by
  unfold opGive
  obtain ⟨t0, ht, hW⟩ := GS_wf h.1.1
  split
  · rename_i e
    simp only [Bool.and_eq_true, decide_eq_true_eq] at e
    obtain ⟨⟨⟨⟨e1, e2⟩, e3⟩, e4⟩, e5⟩ := e
    split
    · exact h
    · rename_i h3
      obtain ⟨a1, -, b1, rfl, -⟩ := ok_n (a := 0) (b := 15) (by decide) (by decide) e1
      obtain ⟨a2, -, b2, rfl, -⟩ := ok_n (a := 0) (b := 15) (by decide) (by decide) e2
      obtain ⟨a3, c3, b3, rfl, -⟩ := ok_n (a := 1) (b := 999) (by decide) (by decide) e3
      obtain ⟨a4, -, b4, rfl, -⟩ := ok_n (a := 0) (b := 1000) (by decide) (by decide) e4
      have hp := pn_lt hW h3
      exact KZ_ph h (GS_up h.1.1 (com_lo (by decide) (by decide)) (fun b hb => WF_com hb hp (by omega) (by omega) (fun z => e5 (by rw [z])) c3 b3 b4) (fun j hj => com_hi hp hj)) (J_com h.2.1 hW hp)
  · exact h
theorem KZ_grace {Z : Zs} {g : Int32} (h : KZ Z) : KZ (opGrace g Z).2.2 := by
  unfold opGrace
  split
  · exact KZ_ph h (GS_up h.1.1 (upd_n (by decide)) (fun b hb => WF_grace hb) (fun j hj => upd_n (by omega))) (J_grace h.2.1)
  · exact h
theorem KZ_drop {Z : Zs} {c : Int32} (h : KZ Z) : KZ (opDrop c Z).2.2 := by
  unfold opDrop
  obtain ⟨t, ht, hW⟩ := GS_wf h.1.1
  split
  · rename_i e
    obtain ⟨k, hk, rfl, ek⟩ := isCr_n hW e
    rw [ek]
    exact KZ_ph h (GS_up h.1.1 (drS_lo (by decide)) (fun b hb => WF_dr hb hk) (fun j hj => drS_hi hW hk hj)) (J_dr h.2.1 hW hk)
  · exact h
theorem KZ_run {Z : Zs} {n : Int32} (h : KZ Z) : KZ (opRun n Z).2.2 := by
  unfold opRun
  obtain ⟨t, ht, h0, hW, hz⟩ := h.1.1
  split
  · rename_i e
    obtain ⟨k, -, hk, rfl, ek⟩ := ok_n (a := 0) (b := 200) (by decide) (by decide) e
    split
    · exact h
    · rename_i e2
      rw [h0, n_add, show (2000 : Int32) = nI 2000 from rfl, n_lt (by decide) (by omega)] at e2
      rw [ek]
      exact KZ_ph h (GS_tkN hW h0 hz (by omega)) (J_tkN h.2.1 hW k)
  · exact h
theorem KZ_append {Z : Zs} {v : Int32} (h : KZ Z) : KZ (opAppend v Z).2.2 := by
  unfold opAppend
  split
  · split
    · exact h
    · exact h
  · exact h
theorem KZ_clear {Z : Zs} (h : KZ Z) : KZ (opClear Z).2.2 := h
theorem KZ_undo {Z : Zs} (h : KZ Z) : KZ (opUndo Z).2.2 := by
  unfold opUndo
  split
  · exact h
  · rename_i e
    exact ⟨⟨h.1.2 _ (by omega), fun i hi => h.1.2 i (by have : i < Z.2.1 - 1 := hi; omega)⟩, ⟨h.2.2 _ (by omega), fun i hi => h.2.2 i (by have : i < Z.2.1 - 1 := hi; omega)⟩⟩
/-- those that change nothing -/
theorem KZ_same {op : Op} {Z : Zs} (h : KZ Z) (e : (op Z).2.2 = Z) : KZ (op Z).2.2 := by rw [e]; exact h
theorem sm_value {Z : Zs} {w : Int32} : (opValue w Z).2.2 = Z := by unfold opValue; split <;> rfl
theorem sm_courier {Z : Zs} {c w : Int32} : (opCourier c w Z).2.2 = Z := by unfold opCourier; split <;> (try split) <;> rfl
theorem sm_parcel {Z : Zs} {c w : Int32} : (opParcel c w Z).2.2 = Z := by unfold opParcel; split <;> (try split) <;> rfl
theorem sm_legs {Z : Zs} {p c s : Int32} : (opLegs p c s Z).2.2 = Z := by unfold opLegs; split <;> rfl
theorem sm_dist {Z : Zs} {p c : Int32} : (opDist p c Z).2.2 = Z := by unfold opDist; split <;> rfl
theorem sm_suited {Z : Zs} {p : Int32} : (opSuited p Z).2.2 = Z := by unfold opSuited; split <;> rfl
theorem sm_relay {Z : Zs} {p : Int32} : (opRelay p Z).2.2 = Z := by unfold opRelay; split <;> rfl
theorem sm_paid {Z : Zs} {p : Int32} : (opPaid p Z).2.2 = Z := by unfold opPaid; split <;> rfl
theorem sm_best {Z : Zs} {c w : Int32} : (opBest c w Z).2.2 = Z := by unfold opBest; split <;> (try split) <;> rfl
theorem sm_worth {Z : Zs} {c w : Int32} : (opWorth c w Z).2.2 = Z := by unfold opWorth; split <;> (try split) <;> rfl
end KP
end
section
/-! WHAT HOLDS OF EVERY STATE beside WF: the sums, the carriers, the way of a parcel -/
section IVA
def sI (f : Nat → Int32) : Nat → Int32
  | 0 => 0
  | n + 1 => sI f n + f n
theorem sI_cg {f g : Nat → Int32} : ∀ n, (∀ i, i < n → f i = g i) → sI f n = sI g n := by
  intro n
  induction n with
  | zero => intro _; rfl
  | succ n ih =>
    intro h
    unfold sI
    rw [ih (fun i hi => h i (by omega)), h n (by omega)]
theorem sI_one {f g : Nat → Int32} {i : Nat} {d : Int32} : ∀ n, i < n → g i - f i = d → (∀ j, j < n → j ≠ i → g j = f j) → sI g n = sI f n + d := by
  intro n
  induction n with
  | zero => intro h; omega
  | succ n ih =>
    intro hi hd h
    unfold sI
    by_cases e : i = n
    · subst e
      rw [sI_cg i (fun j hj => h j (by omega) (by omega)), ← hd]
      grind
    · rw [ih (by omega) hd (fun j hj hne => h j (by omega) hne), h n (by omega) (by omega)]
      grind
theorem sI_zero {f : Nat → Int32} : ∀ n, (∀ i, i < n → f i = 0) → sI f n = 0 := by
  intro n
  induction n with
  | zero => intro _; rfl
  | succ n ih =>
    intro h
    unfold sI
    rw [ih (fun i hi => h i (by omega)), h n (by omega)]
    rfl
theorem sI_add {f g : Nat → Int32} : ∀ n, sI (fun i => f i + g i) n = sI f n + sI g n := by
  intro n
  induction n with
  | zero => rfl
  | succ n ih =>
    unfold sI
    rw [ih]
    grind
theorem sI_ext {f : Nat → Int32} {n : Nat} : ∀ m, n ≤ m → (∀ i, n ≤ i → i < m → f i = 0) → sI f m = sI f n := by
  intro m
  induction m with
  | zero => intro h _; rw [Nat.le_zero.mp h]
  | succ m ih =>
    intro h hz
    by_cases e : n = m + 1
    · rw [e]
    · unfold sI
      rw [ih (by omega) (fun i h1 h2 => hz i h1 (by omega)), hz m (by omega) (by omega)]
      cases n with
      | zero => rfl
      | succ n => show sI f (n + 1) + 0 = sI f (n + 1); grind
theorem lsum_sI {S : Sx} {p : Nat} : ∀ n, lsum S p n = sI (fun c => sP S p (8 + c)) n := by
  intro n
  induction n with
  | zero => rfl
  | succ n ih => unfold lsum sI; rw [ih]
theorem lgC_sI {S : Sx} {c : Nat} : ∀ n, lgC S c n = sI (fun p => sP S p (8 + c)) n := by
  intro n
  induction n with
  | zero => rfl
  | succ n ih => unfold lgC sI; rw [ih]
/-! the shares add up -/
theorem rk_cnt {r : Nat → Nat} {A R : Nat} (hr : ∀ d, d < 6 → r d < A) (hs : sm r 6 = R * A) : ∀ j, j ≤ R → cB (fun c => decide (rk r c < j)) 6 = j := by
  intro j
  induction j with
  | zero =>
    intro _
    have e : cB (fun c => decide (rk r c < 0)) 6 = cB (fun _ => false) 6 := cB_eq (fun d _ => decide_eq_false (Nat.not_lt_zero _))
    rw [e]
    rfl
  | succ j ih =>
    intro hj
    have hset := ih (by omega)
    obtain ⟨d, hd, hn, hp⟩ := rk_some hset hr hs (by omega)
    obtain ⟨g1, g2⟩ := gS_ok r (fun d => decide (rk r d < j)) 6
    cases hg : gS r (fun d => decide (rk r d < j)) 6 with
    | none =>
      have := g1 hg d hd (decide_eq_false hn)
      omega
    | some b =>
      obtain ⟨k1, k2, k3, k4⟩ := g2 b hg
      exact (rk_next hset k1 (of_decide_eq_false k2) (fun d hd hu hne => k4 d hd (decide_eq_false hu) hne)).2.1
theorem sm_pl {f g : Nat → Nat} : ∀ n, sm (fun c => f c + g c) n = sm f n + sm g n := by
  intro n
  induction n with
  | zero => rfl
  | succ n ih => unfold sm; rw [ih]; omega
theorem sm_if {P : Nat → Prop} [DecidablePred P] : ∀ n, sm (fun c => if P c then 1 else 0) n = cB (fun c => decide (P c)) n := by
  intro n
  induction n with
  | zero => rfl
  | succ n ih =>
    unfold sm cB
    rw [ih]
    by_cases h : P n
    · rw [if_pos h, decide_eq_true h]; rfl
    · rw [if_neg h, decide_eq_false h]; rfl
theorem sI_sm {f : Nat → Int32} {g : Nat → Nat} : ∀ n, (∀ c, c < n → f c = nI (g c)) → sI f n = nI (sm g n) := by
  intro n
  induction n with
  | zero => intro _; rfl
  | succ n ih =>
    intro h
    unfold sI sm
    rw [ih (fun c hc => h c (by omega)), h n (by omega), n_add]
theorem fsh_sum {S : Sx} {p k : Nat} (hk : k ≤ 1000) (h : LG S p) : sI (fun c => fsh S p (nI k) c) 6 = nI k := by
  obtain ⟨A, R, L, h⟩ := SHN_of hk h
  have hA := h.2.2.1
  have h6 := h.2.2.2.2.2
  rw [sI_sm 6 (fun c hc => fsh_n h hc), sm_pl, sm_if, rk_cnt (r := fun c => k * L c % A) (A := A) (fun d _ => Nat.mod_lt _ hA) h6.2 R (Nat.le_refl R), h6.1]
theorem fsh_zero {S : Sx} {p k c : Nat} (hk : k ≤ 1000) (h : LG S p) (hc : c < 6) (h0 : sP S p (8 + c) = 0) : fsh S p (nI k) c = 0 := by
  obtain ⟨A, R, L, h⟩ := SHN_of hk h
  have hA := h.2.2.1
  have h6 := h.2.2.2.2.2
  have hL := (h.1 c hc).2
  have hb := (h.1 c hc).1
  have e0 : L c = 0 := by
    rw [h0, show (0 : Int32) = nI 0 from rfl, nI_eq (by omega) (by omega)] at hL
    omega
  have hz : k * L c % A = 0 := by rw [e0]; simp
  have h1 : cB (fun d => decide (0 < k * L d % A)) 6 ≤ rk (fun c => k * L c % A) c := by
    refine cB_le (fun d _ hd => ?_)
    rw [bf_iff]
    refine Or.inl ?_
    show k * L c % A < k * L d % A
    rw [hz]
    exact of_decide_eq_true hd
  have h2 := sm_le (r := fun c => k * L c % A) (A := A) (n := 6) (fun d _ => Nat.le_of_lt (Nat.mod_lt _ hA))
  rw [h6.2] at h2
  have h3 := Nat.le_of_mul_le_mul_right h2 hA
  rw [fsh_n h hc, e0, if_neg (by omega), Nat.mul_zero, Nat.zero_div]
  rfl
/-! the way of a parcel: along its row, then along its column -/
def onr (f t z : Nat) : Bool := (decide (z / 4 = f / 4) && ((decide (f % 4 ≤ z % 4) && decide (z % 4 ≤ t % 4)) || (decide (t % 4 ≤ z % 4) && decide (z % 4 ≤ f % 4)))) || (decide (z % 4 = t % 4) && ((decide (f / 4 ≤ z / 4) && decide (z / 4 ≤ t / 4)) || (decide (t / 4 ≤ z / 4) && decide (z / 4 ≤ f / 4))))
def ds (f z : Nat) : Nat := (f % 4 - z % 4) + (z % 4 - f % 4) + (f / 4 - z / 4) + (z / 4 - f / 4)
def nxB (f t z : Nat) : Bool := !(onr f t z) || (decide (z = t) || (decide ((nxz (nI z) (nI t)).toNatClampNeg < 16) && decide (nxz (nI z) (nI t) = nI (nxz (nI z) (nI t)).toNatClampNeg) && onr f t (nxz (nI z) (nI t)).toNatClampNeg && decide (ds f (nxz (nI z) (nI t)).toNatClampNeg = ds f z + 1)))
theorem nxB_ok : ∀ f, f < 16 → ∀ t, t < 16 → ∀ z, z < 16 → nxB f t z = true := by decide +kernel
theorem onr_next : ∀ f, f < 16 → ∀ t, t < 16 → ∀ z, z < 16 → onr f t z = true → z ≠ t → ∃ y, y < 16 ∧ nxz (nI z) (nI t) = nI y ∧ onr f t y = true ∧ ds f y = ds f z + 1 := by
  intro f hf t ht z hz h hne
  have k := nxB_ok f hf t ht z hz
  unfold nxB at k
  rw [h, decide_eq_false hne] at k
  simp only [Bool.not_true, Bool.false_or, Bool.and_eq_true, decide_eq_true_eq] at k
  exact ⟨_, k.1.1.1, k.1.1.2, k.1.2, k.2⟩
theorem onr_0 : ∀ f, f < 16 → ∀ t, t < 16 → onr f t f = true ∧ ds f f = 0 := by decide +kernel
theorem dist_n : ∀ f, f < 16 → ∀ z, z < 16 → dist (nI f) (nI z) = nI (ds f z) := by decide +kernel
theorem ds_le : ∀ f, f < 16 → ∀ z, z < 16 → ds f z ≤ 6 := by decide +kernel
/-! the invariant -/
def cr2 (S : Sx) (m : Nat) : Nat → Int32 := fun k => if sC S k 3 = 2 ∧ sC S k 4 = nI m then 1 else 0
def lgT (S : Sx) : Int32 := sI (fun k => sI (fun m => sP S m (8 + k)) (pn S)) (cn S)
def PV (S : Sx) (q m : Nat) : Prop := ∃ f t z, f < 16 ∧ t < 16 ∧ z < 16 ∧ sP S m 0 = nI f ∧ sP S m 1 = nI t ∧ sP S m 5 = nI z ∧ onr f t z = true ∧ (m ≠ q → (sP S m 4 = 0 ∨ sP S m 4 = 1) → z ≠ t) ∧ sI (fun c => sP S m (8 + c)) 6 = nI (ds f z) ∧ sI (fun c => sP S m (14 + c)) 6 = sP S m 7 ∧ (sP S m 4 ≠ 2 → sP S m 7 = 0) ∧ ∀ c, c < 6 → cn S ≤ c → sP S m (8 + c) = 0 ∧ sP S m (14 + c) = 0
def IQ (b q : Nat) (S : Sx) : Prop :=
  sI (fun k => sC S k 2) (cn S) = S 6 ∧ sI (fun m => sP S m 7) (pn S) = S 6 ∧ (∃ a n, S 5 = nI a ∧ lgT S = nI n ∧ n ≤ a ∧ a ≤ b) ∧ (∀ m, m < pn S → sI (cr2 S m) (cn S) = if sP S m 4 = 1 then 1 else 0) ∧ (∀ k m, k < cn S → m < pn S → sC S k 3 = 2 → sC S k 4 = nI m → sP S m 5 = sC S k 1) ∧ (∀ m, m < pn S → PV S q m) ∧ ∀ m w, pn S ≤ m → m < 24 → w < 20 → sP S m w = 0
abbrev IV (b : Nat) (S : Sx) : Prop := IQ b 24 S
theorem PV_cg {S S' : Sx} {q q' m : Nat} (h : PV S q m) (hq : m ≠ q' → m ≠ q) (hn : cn S ≤ cn S') (e : ∀ w, w < 20 → sP S' m w = sP S m w) : PV S' q' m := by
  obtain ⟨f, t, z, h1, h2, h3, h4, h5, h6, h7, h8, h9, h10, h11, h12⟩ := h
  refine ⟨f, t, z, h1, h2, h3, by rw [e 0 (by decide)]; exact h4, by rw [e 1 (by decide)]; exact h5, by rw [e 5 (by decide)]; exact h6, h7, fun a => ?_, ?_, ?_, ?_, fun c hc hcn => ?_⟩
  · rw [e 4 (by decide)]; exact h8 (hq a)
  · rw [← h9]; exact sI_cg 6 (fun i hi => e _ (by omega))
  · rw [e 7 (by decide), ← h10]; exact sI_cg 6 (fun i hi => e _ (by omega))
  · rw [e 4 (by decide), e 7 (by decide)]; exact h11
  · rw [e _ (by omega), e _ (by omega)]; exact h12 c hc (by omega)
theorem cr2_cg {S S' : Sx} {m k : Nat} (h : sC S' k 3 = sC S k 3 ∧ sC S' k 4 = sC S k 4) : cr2 S' m k = cr2 S m k := by
  unfold cr2
  rw [h.1, h.2]
theorem lgT_cg {S S' : Sx} (e2 : cn S' = cn S) (e3 : pn S' = pn S) (hn : cn S ≤ 6) (e : ∀ m k, m < pn S → k < 6 → sP S' m (8 + k) = sP S m (8 + k)) : lgT S' = lgT S := by
  unfold lgT
  rw [e2, e3]
  exact sI_cg _ (fun k hk => sI_cg _ (fun m hm => e m k hm (by omega)))
theorem lgT_leg {S S' : Sx} {c p : Nat} (e2 : cn S' = cn S) (e3 : pn S' = pn S) (hc : c < cn S) (hp : p < pn S) (e : ∀ m k, m < pn S → k < cn S → sP S' m (8 + k) = if m = p ∧ k = c then sP S m (8 + k) + 1 else sP S m (8 + k)) : lgT S' = lgT S + 1 := by
  unfold lgT
  rw [e2, e3]
  refine sI_one (i := c) _ hc ?_ (fun k hk hne => sI_cg _ (fun m hm => ?_))
  · rw [sI_one (f := fun m => sP S m (8 + c)) (g := fun m => sP S' m (8 + c)) (i := p) (d := 1) _ hp ?_ (fun m hm hne => ?_)]
    · grind
    · show sP S' p (8 + c) - sP S p (8 + c) = 1
      rw [e p c hp hc, if_pos ⟨rfl, rfl⟩]
      grind
    · show sP S' m (8 + c) = sP S m (8 + c)
      rw [e m c hm hc, if_neg (fun y => hne y.1)]
  · show sP S' m (8 + k) = sP S m (8 + k)
    rw [e m k hm hk, if_neg (fun y => hne y.2)]
theorem IQ_step {b b' q q' c p : Nat} {S S' : Sx} (h : IQ b q S) (hm : pn S ≤ 24) (hc : c < cn S) (hp : p < pn S) (e2 : S' 2 = S 2) (e3 : S' 3 = S 3)
    (i1 : sI (fun k => sC S' k 2) (cn S) = S' 6)
    (i2 : S' 6 = S 6 + (sP S' p 7 - sP S p 7))
    (i3 : ∃ a n, S' 5 = nI a ∧ lgT S' = nI n ∧ n ≤ a ∧ a ≤ b')
    (hC : ∀ d, d < cn S → d ≠ c → sC S' d 1 = sC S d 1 ∧ sC S' d 3 = sC S d 3 ∧ sC S' d 4 = sC S d 4)
    (hP : ∀ m w, m ≠ p → m < 24 → w < 20 → sP S' m w = sP S m w)
    (i4 : (if sP S' p 4 = 1 then (1 : Int32) else 0) = (if sP S p 4 = 1 then 1 else 0) + (cr2 S' p c - cr2 S p c))
    (i4' : ∀ m, m ≠ p → m < pn S → cr2 S' m c = cr2 S m c)
    (i5 : sC S' c 3 = 2 → ∀ m, m < pn S → sC S' c 4 = nI m → sP S' m 5 = sC S' c 1)
    (i5' : sP S' p 5 = sP S p 5 ∨ ∀ d, d < cn S → d ≠ c → sC S d 3 = 2 → ¬ sC S d 4 = nI p)
    (i6 : PV S' q' p) (hq : ∀ m, m < pn S → m ≠ p → m ≠ q' → m ≠ q) : IQ b' q' S' := by
  obtain ⟨h1, h2, h3, h4, h5, h6, h7⟩ := h
  have en := cn_eq e2
  have em := pn_eq e3
  refine ⟨by rw [en]; exact i1, ?_, i3, ?_, ?_, ?_, ?_⟩
  · rw [em, i2, ← h2]
    exact sI_one (i := p) _ hp rfl (fun m hm2 hne => hP m 7 hne (by omega) (by decide))
  · rw [em, en]
    intro m hm2
    by_cases e : m = p
    · subst e
      rw [i4, ← h4 m hm2]
      exact sI_one (i := c) _ hc rfl (fun d hd hne => cr2_cg (hC d hd hne).2)
    · rw [hP m 4 e (by omega) (by decide), ← h4 m hm2]
      refine sI_cg _ (fun d hd => ?_)
      by_cases ed : d = c
      · rw [ed]; exact i4' m e hm2
      · exact cr2_cg (hC d hd ed).2
  · rw [em, en]
    intro k m hk hm2 y3 y4
    by_cases e : k = c
    · subst e; exact i5 y3 m hm2 y4
    · obtain ⟨z1, z3, z4⟩ := hC k hk e
      rw [z3] at y3
      rw [z4] at y4
      rw [z1, ← h5 k m hk hm2 y3 y4]
      by_cases ep : m = p
      · subst ep
        rcases i5' with i | i
        · exact i
        · exact absurd y4 (i k hk e y3)
      · exact hP m 5 ep (by omega) (by decide)
  · rw [em]
    intro m hm2
    by_cases e : m = p
    · subst e; exact i6
    · exact PV_cg (h6 m hm2) (hq m hm2 e) (Nat.le_of_eq en.symm) (fun w hw => hP m w e (by omega) hw)
  · rw [em]
    intro m w h8 h9 h10
    rw [hP m w (by omega) h9 h10]
    exact h7 m w h8 h9 h10
/-- a courier alone changes, who carries nothing -/
theorem IQ_stepC {b b' q c : Nat} {S S' : Sx} (h : IQ b q S) (hm : pn S ≤ 24) (hn : cn S ≤ 6) (hc : c < cn S) (e2 : S' 2 = S 2) (e3 : S' 3 = S 3) (e6 : S' 6 = S 6) (e5 : S' 5 = S 5 ∨ S' 5 = S 5 + 1) (hb : b + 1 ≤ b')
    (hC : ∀ d, d < cn S → sC S' d 2 = sC S d 2 ∧ (d ≠ c → sC S' d 1 = sC S d 1 ∧ sC S' d 3 = sC S d 3 ∧ sC S' d 4 = sC S d 4))
    (hP : ∀ m w, m < 24 → w < 20 → sP S' m w = sP S m w)
    (i4 : ∀ m, m < pn S → cr2 S' m c = cr2 S m c)
    (i5 : sC S' c 3 = 2 → ∀ m, m < pn S → sC S' c 4 = nI m → sP S' m 5 = sC S' c 1) : IQ b' q S' := by
  obtain ⟨h1, h2, h3, h4, h5, h6, h7⟩ := h
  have en := cn_eq e2
  have em := pn_eq e3
  refine ⟨?_, ?_, ?_, ?_, ?_, ?_, ?_⟩
  · rw [en, e6, ← h1]
    exact sI_cg _ (fun d hd => (hC d hd).1)
  · rw [em, e6, ← h2]
    exact sI_cg _ (fun m hm2 => hP m 7 (by omega) (by decide))
  · obtain ⟨a, n, a1, a2, a3, a4⟩ := h3
    have hl : lgT S' = lgT S := lgT_cg en em hn (fun m k hm2 hk => hP m _ (by omega) (by omega))
    rcases e5 with e5 | e5
    · exact ⟨a, n, by rw [e5]; exact a1, by rw [hl]; exact a2, a3, by omega⟩
    · exact ⟨a + 1, n, by rw [e5, a1, nI_1], by rw [hl]; exact a2, by omega, by omega⟩
  · rw [em, en]
    intro m hm2
    rw [hP m 4 (by omega) (by decide), ← h4 m hm2]
    refine sI_cg _ (fun d hd => ?_)
    by_cases ed : d = c
    · rw [ed]; exact i4 m hm2
    · exact cr2_cg ((hC d hd).2 ed).2
  · rw [em, en]
    intro k m hk hm2 y3 y4
    by_cases e : k = c
    · subst e; exact i5 y3 m hm2 y4
    · obtain ⟨z1, z3, z4⟩ := (hC k hk).2 e
      rw [z3] at y3
      rw [z4] at y4
      rw [z1, ← h5 k m hk hm2 y3 y4]
      exact hP m 5 (by omega) (by decide)
  · rw [em]
    intro m hm2
    exact PV_cg (h6 m hm2) (fun y => y) (Nat.le_of_eq en.symm) (fun w hw => hP m w (by omega) hw)
  · rw [em]
    intro m w h8 h9 h10
    rw [hP m w h9 h10]
    exact h7 m w h8 h9 h10
end IVA
end
section
/-! KEPT BY ALL THAT HAPPENS: the sums, the carriers, the ways -/
section IVB
theorem PV_4 {S S' : Sx} {q m : Nat} (h : PV S q m) (hn : cn S ≤ cn S') (e : ∀ w, w < 20 → w ≠ 4 → sP S' m w = sP S m w) (h4 : (sP S' m 4 = 0 ∨ sP S' m 4 = 1) → (sP S m 4 = 0 ∨ sP S m 4 = 1)) (h4' : sP S' m 4 ≠ 2 → sP S m 4 ≠ 2) : PV S' q m := by
  obtain ⟨f, t, z, h1, h2, h3, h40, h5, h6, h7, h8, h9, h10, h11, h12⟩ := h
  refine ⟨f, t, z, h1, h2, h3, by rw [e 0 (by decide) (by decide)]; exact h40, by rw [e 1 (by decide) (by decide)]; exact h5, by rw [e 5 (by decide) (by decide)]; exact h6, h7, fun a y => h8 a (h4 y), ?_, ?_, ?_, fun c hc hcn => ?_⟩
  · rw [← h9]; exact sI_cg 6 (fun i hi => e _ (by omega) (by omega))
  · rw [e 7 (by decide) (by decide), ← h10]; exact sI_cg 6 (fun i hi => e _ (by omega) (by omega))
  · rw [e 7 (by decide) (by decide)]; exact fun y => h11 (h4' y)
  · rw [e _ (by omega) (by omega), e _ (by omega) (by omega)]; exact h12 c hc (by omega)
theorem IQ_cg {b q : Nat} {S S' : Sx} (h : IQ b q S) (hn : cn S ≤ 6) (hm : pn S ≤ 24) (e2 : S' 2 = S 2) (e3 : S' 3 = S 3) (e5 : S' 5 = S 5) (e6 : S' 6 = S 6)
    (hC : ∀ d w, d < cn S → w < 5 → w ≠ 0 → sC S' d w = sC S d w) (hP : ∀ m w, m < 24 → w < 20 → sP S' m w = sP S m w) : IQ b q S' := by
  obtain ⟨h1, h2, h3, h4, h5, h6, h7⟩ := h
  have en := cn_eq e2
  have em := pn_eq e3
  refine ⟨?_, ?_, ?_, ?_, ?_, ?_, ?_⟩
  · rw [en, e6, ← h1]; exact sI_cg _ (fun d hd => hC d 2 hd (by decide) (by decide))
  · rw [em, e6, ← h2]; exact sI_cg _ (fun m hm2 => hP m 7 (by omega) (by decide))
  · rw [e5, lgT_cg en em hn (fun m k hm2 hk => hP m _ (by omega) (by omega))]; exact h3
  · rw [em, en]
    intro m hm2
    rw [hP m 4 (by omega) (by decide), ← h4 m hm2]
    exact sI_cg _ (fun d hd => cr2_cg ⟨hC d 3 hd (by decide) (by decide), hC d 4 hd (by decide) (by decide)⟩)
  · rw [em, en]
    intro k m hk hm2 y3 y4
    rw [hC k 3 hk (by decide) (by decide)] at y3
    rw [hC k 4 hk (by decide) (by decide)] at y4
    rw [hC k 1 hk (by decide) (by decide), hP m 5 (by omega) (by decide)]
    exact h5 k m hk hm2 y3 y4
  · rw [em]
    intro m hm2
    exact PV_cg (h6 m hm2) (fun y => y) (Nat.le_of_eq en.symm) (fun w hw => hP m w (by omega) hw)
  · rw [em]
    intro m w h8 h9 h10
    rw [hP m w h9 h10]
    exact h7 m w h8 h9 h10
theorem IQ_up {b b' q : Nat} {S : Sx} (hb : b ≤ b') (h : IQ b q S) : IQ b' q S := by
  obtain ⟨h1, h2, ⟨a, n, a1, a2, a3, a4⟩, h4⟩ := h
  exact ⟨h1, h2, ⟨a, n, a1, a2, a3, by omega⟩, h4⟩
theorem chS_C {S : Sx} {c d x : Nat} (hx : x < 5) : sC (chS S c) d x = if d = c ∧ x = 4 then chB S c (pn S) else if d = c ∧ x = 3 then (if chB S c (pn S) = -1 then 0 else 1) else sC S d x := by
  unfold chS
  rw [gCC hx (by decide), gCC hx (by decide)]
theorem IV_ch {b b0 : Nat} {S : Sx} {c : Nat} (h : IV b S) (hW : WF b0 S) (hc : c < cn S) (h3 : sC S c 3 ≠ 2) : IV (b + 1) (chS S c) := by
  have hn := hW.2.1
  have n3 : sC (chS S c) c 3 ≠ 2 := by
    rw [chS_C (by decide), if_neg (by omega), if_pos ⟨rfl, rfl⟩]
    split <;> decide
  refine IQ_stepC h hW.2.2.2.1 hn hc (chS_lo (by decide)) (chS_lo (by decide)) (chS_lo (by decide)) (Or.inl (chS_lo (by decide))) (Nat.le_refl _) (fun d hd => ⟨?_, fun hne => ⟨?_, ?_, ?_⟩⟩) (fun m w hm hw => ?_) (fun m hm => ?_) (fun y => absurd y n3)
  · rw [chS_C (by decide), if_neg (by omega), if_neg (by omega)]
  · rw [chS_C (by decide), if_neg (by omega), if_neg (by omega)]
  · rw [chS_C (by decide), if_neg (by omega), if_neg (by omega)]
  · rw [chS_C (by decide), if_neg (by omega), if_neg (by omega)]
  · unfold chS
    rw [gPC (by omega) (by decide), gPC (by omega) (by decide)]
  · unfold cr2
    rw [if_neg (fun y => n3 y.1), if_neg (fun y => h3 y.1)]
theorem IV_go {b b0 : Nat} {S : Sx} {c p : Nat} (h : IV b S) (hW : WF b0 S) (hc : c < cn S) (h3 : sC S c 3 = 1) (h4 : sC S c 4 = nI p) (hp : p < pn S) (hs : sP S p 4 = 0) : IV (b + 1) (goS S c p) := by
  have hn := hW.2.1
  have hm := hW.2.2.2.1
  unfold goS
  split
  · rename_i hz
    have eC : ∀ d x, d < 6 → x < 5 → sC (uP (uC S c 3 2) p 4 1) d x = if d = c ∧ x = 3 then 2 else sC S d x := fun d x hd hx => by rw [gCP hd hx, gCC hx (by decide)]
    have eP : ∀ m x, x < 20 → sP (uP (uC S c 3 2) p 4 1) m x = if m = p ∧ x = 4 then 1 else sP S m x := fun m x hx => by rw [gPP hx (by decide), gPC (by omega) (by decide)]
    have e6 : (uP (uC S c 3 2) p 4 1) 6 = S 6 := by rw [uP_lo (by decide), uC_lo (by decide)]
    have e5 : (uP (uC S c 3 2) p 4 1) 5 = S 5 := by rw [uP_lo (by decide), uC_lo (by decide)]
    have e2 : (uP (uC S c 3 2) p 4 1) 2 = S 2 := by rw [uP_lo (by decide), uC_lo (by decide)]
    have e3 : (uP (uC S c 3 2) p 4 1) 3 = S 3 := by rw [uP_lo (by decide), uC_lo (by decide)]
    generalize (uP (uC S c 3 2) p 4 1) = S' at *
    have k4 : ∀ m, m < pn S → sC S' c 4 = nI m → m = p := fun m hm2 y => by
      rw [eC c 4 (by omega) (by decide), if_neg (by omega), h4, nI_eq (by omega) (by omega)] at y
      exact y.symm
    refine IQ_step h hm hc hp e2 e3 ?_ ?_ ?_ (fun d hd hne => ⟨?_, ?_, ?_⟩) (fun m w hne hm2 hw => ?_) ?_ (fun m hne hm2 => ?_) (fun y m hm2 y4 => ?_) (Or.inl ?_) ?_ (fun m _ _ y => y)
    · rw [e6, ← h.1]
      exact sI_cg _ (fun d hd => by rw [eC d 2 (by omega) (by decide), if_neg (by omega)])
    · rw [e6, eP p 7 (by decide), if_neg (by omega)]
      grind
    · obtain ⟨a, n, a1, a2, a3, a4⟩ := h.2.2.1
      exact ⟨a, n, by rw [e5]; exact a1, by rw [lgT_cg (cn_eq e2) (pn_eq e3) hn (fun m k hm2 hk => by rw [eP m _ (by omega), if_neg (by omega)])]; exact a2, a3, by omega⟩
    · rw [eC d 1 (by omega) (by decide), if_neg (by omega)]
    · rw [eC d 3 (by omega) (by decide), if_neg (by omega)]
    · rw [eC d 4 (by omega) (by decide), if_neg (by omega)]
    · rw [eP m w hw, if_neg (fun y => hne y.1)]
    · have q4 : sP S' p 4 = 1 := by rw [eP p 4 (by decide), if_pos ⟨rfl, rfl⟩]
      have y3 : sC S' c 3 = 2 := by rw [eC c 3 (by omega) (by decide), if_pos ⟨rfl, rfl⟩]
      have y4 : sC S' c 4 = nI p := by rw [eC c 4 (by omega) (by decide), if_neg (by omega)]; exact h4
      rw [show cr2 S' p c = 1 from if_pos ⟨y3, y4⟩, show cr2 S p c = 0 from if_neg (fun y => absurd (h3.symm.trans y.1) (by decide)), q4, hs]
      decide
    · unfold cr2
      rw [if_neg (fun y => hne (k4 m hm2 y.2)), if_neg (fun y => absurd (h3.symm.trans y.1) (by decide))]
    · rw [k4 m hm2 y4, eP p 5 (by decide), if_neg (by omega), eC c 1 (by omega) (by decide), if_neg (by omega)]
      exact hz.symm
    · rw [eP p 5 (by decide), if_neg (by omega)]
    · refine PV_4 (h.2.2.2.2.2.1 p hp) (Nat.le_of_eq (cn_eq e2).symm) (fun w hw hne => by rw [eP p w hw, if_neg (fun y => hne y.2)]) (fun _ => Or.inl hs) (fun _ y => absurd (hs.symm.trans y) (by decide))
  · have eC : ∀ d x, x < 5 → sC (upd (uC S c 1 (nxz (sC S c 1) (sP S p 5))) 5 (S 5 + 1)) d x = if d = c ∧ x = 1 then nxz (sC S c 1) (sP S p 5) else sC S d x := fun d x hx => by rw [gCu (by decide), gCC hx (by decide)]
    have n3 : sC (upd (uC S c 1 (nxz (sC S c 1) (sP S p 5))) 5 (S 5 + 1)) c 3 = 1 := by rw [eC c 3 (by decide), if_neg (by omega)]; exact h3
    refine IQ_stepC h hm hn hc ?_ ?_ ?_ (Or.inr ?_) (Nat.le_refl _) (fun d hd => ⟨?_, fun hne => ⟨?_, ?_, ?_⟩⟩) (fun m w hm hw => ?_) (fun m hm => ?_) (fun y => absurd (n3.symm.trans y) (by decide))
    · rw [upd_n (by decide), uC_lo (by decide)]
    · rw [upd_n (by decide), uC_lo (by decide)]
    · rw [upd_n (by decide), uC_lo (by decide)]
    · rw [upd_s]
    · rw [eC d 2 (by decide), if_neg (by omega)]
    · rw [eC d 1 (by decide), if_neg (by omega)]
    · rw [eC d 3 (by decide), if_neg (by omega)]
    · rw [eC d 4 (by decide), if_neg (by omega)]
    · rw [gPu (by decide), gPC (by omega) (by decide)]
    · unfold cr2
      rw [if_neg (fun y => absurd (n3.symm.trans y.1) (by decide)), if_neg (fun y => absurd (h3.symm.trans y.1) (by decide))]
/-- a parcel handed over or dropped: T is S with the parcel waiting -/
theorem IV_hand {b b0 : Nat} {S T : Sx} {c p : Nat} (h : IV b S) (hW : WF b0 S) (hc : c < cn S) (h3 : sC S c 3 = 2) (h4 : sC S c 4 = nI p) (hp : p < pn S)
    (tl : ∀ k, k < 7 → k ≠ 4 → T k = S k) (tC : ∀ d x, d < 6 → x < 5 → sC T d x = sC S d x) (tP : ∀ m x, x < 20 → sP T m x = if m = p ∧ x = 4 then 0 else sP S m x) : IV b (frS T c) := by
  have hn := hW.2.1
  have hm := hW.2.2.2.1
  have s4 : sP S p 4 = 1 := by
    rcases (hW.2.2.2.2.1 c hc).2 with w | ⟨p', q1, q2, q3⟩
    · rw [h3] at w; exact absurd w.1 (by decide)
    · rw [h4, nI_eq (by omega) (by omega)] at q2
      rcases q3 with w | w
      · rw [h3] at w; exact absurd w (by decide)
      · rw [q2]; exact w.2
  have eC : ∀ d x, d < 6 → x < 5 → sC (frS T c) d x = if d = c ∧ x = 4 then -1 else if d = c ∧ x = 3 then 0 else sC S d x := fun d x hd hx => by rw [frS_C hx, tC d x hd hx]
  have eP : ∀ m x, x < 20 → sP (frS T c) m x = if m = p ∧ x = 4 then 0 else sP S m x := fun m x hx => by rw [frS_P (by omega), tP m x hx]
  have el : ∀ k, k < 7 → k ≠ 4 → (frS T c) k = S k := fun k hk h4 => by rw [frS_lo hk, tl k hk h4]
  generalize frS T c = S' at *
  have k3 : sC S' c 3 = 0 := by rw [eC c 3 (by omega) (by decide), if_neg (by omega), if_pos ⟨rfl, rfl⟩]
  have e2 := el 2 (by decide) (by decide)
  have e3 := el 3 (by decide) (by decide)
  refine IQ_step h hm hc hp e2 e3 ?_ ?_ ?_ (fun d hd hne => ⟨?_, ?_, ?_⟩) (fun m w hne hm2 hw => ?_) ?_ (fun m hne hm2 => ?_) (fun y => absurd (k3.symm.trans y) (by decide)) (Or.inl ?_) ?_ (fun m _ _ y => y)
  · rw [el 6 (by decide) (by decide), ← h.1]
    exact sI_cg _ (fun d hd => by rw [eC d 2 (by omega) (by decide), if_neg (by omega), if_neg (by omega)])
  · rw [el 6 (by decide) (by decide), eP p 7 (by decide), if_neg (by omega)]
    grind
  · obtain ⟨a, n, a1, a2, a3, a4⟩ := h.2.2.1
    exact ⟨a, n, by rw [el 5 (by decide) (by decide)]; exact a1, by rw [lgT_cg (cn_eq e2) (pn_eq e3) hn (fun m k hm2 hk => by rw [eP m _ (by omega), if_neg (by omega)])]; exact a2, a3, a4⟩
  · rw [eC d 1 (by omega) (by decide), if_neg (by omega), if_neg (by omega)]
  · rw [eC d 3 (by omega) (by decide), if_neg (by omega), if_neg (by omega)]
  · rw [eC d 4 (by omega) (by decide), if_neg (by omega), if_neg (by omega)]
  · rw [eP m w hw, if_neg (fun y => hne y.1)]
  · have q4 : sP S' p 4 = 0 := by rw [eP p 4 (by decide), if_pos ⟨rfl, rfl⟩]
    rw [show cr2 S' p c = 0 from if_neg (fun y => absurd (k3.symm.trans y.1) (by decide)), show cr2 S p c = 1 from if_pos ⟨h3, h4⟩, q4, s4]
    decide
  · unfold cr2
    rw [if_neg (fun y => absurd (k3.symm.trans y.1) (by decide)), if_neg (fun y => hne (by have := y.2; rw [h4, nI_eq (by omega) (by omega)] at this; exact this.symm))]
  · rw [eP p 5 (by decide), if_neg (by omega)]
  · refine PV_4 (h.2.2.2.2.2.1 p hp) (Nat.le_of_eq (cn_eq e2).symm) (fun w hw hne => by rw [eP p w hw, if_neg (fun y => hne y.2)]) (fun _ => Or.inr s4) (fun _ y => absurd (s4.symm.trans y) (by decide))
theorem WF_car1 {b : Nat} {S : Sx} {c p : Nat} (hW : WF b S) (hc : c < cn S) (h3 : sC S c 3 = 2) (h4 : sC S c 4 = nI p) (hp : p < pn S) : sP S p 4 = 1 := by
  have hm := hW.2.2.2.1
  rcases (hW.2.2.2.2.1 c hc).2 with w | ⟨p', q1, q2, q3⟩
  · rw [h3] at w; exact absurd w.1 (by decide)
  · rw [h4, nI_eq (by omega) (by omega)] at q2
    rcases q3 with w | w
    · rw [h3] at w; exact absurd w (by decide)
    · rw [q2]; exact w.2
/-- a leg: as long as it isn't told whether the parcel has come -/
theorem IV_leg {b b0 : Nat} {S : Sx} {c p : Nat} (h : IV b S) (hW : WF b0 S) (hc : c < cn S) (h3 : sC S c 3 = 2) (h4 : sC S c 4 = nI p) (hp : p < pn S) : IQ (b + 1) p (legS S c p (nxz (sC S c 1) (sP S p 1))) ∧ ∃ z t, z < 16 ∧ t < 16 ∧ nxz (sC S c 1) (sP S p 1) = nI z ∧ sP S p 1 = nI t := by
  have hn := hW.2.1
  have hm := hW.2.2.2.1
  have s4 := WF_car1 hW hc h3 h4 hp
  obtain ⟨f, t, z0, f1, f2, f3, f4, f5, f6, f7, f8, f9, f10, f11, f12⟩ := h.2.2.2.2.2.1 p hp
  have g1 : sC S c 1 = nI z0 := by rw [← h.2.2.2.2.1 c p hc hp h3 h4]; exact f6
  obtain ⟨z, z1, z2, z3, z4⟩ := onr_next f f1 t f2 z0 f3 f7 (f8 (by omega) (Or.inr s4))
  have g2 : nxz (sC S c 1) (sP S p 1) = nI z := by rw [g1, f5]; exact z2
  refine ⟨?_, z, t, z1, f2, g2, f5⟩
  rw [g2]
  have eC : ∀ d x, d < 6 → x < 5 → sC (legS S c p (nI z)) d x = if d = c ∧ x = 1 then nI z else sC S d x := fun d x hd hx => legS_C hd hx
  have eP : ∀ m x, x < 20 → sP (legS S c p (nI z)) m x = if m = p ∧ x = 8 + c then sP S p (8 + c) + 1 else if m = p ∧ x = 5 then nI z else sP S m x := fun m x hx => legS_P (by omega) hx
  have e2 : legS S c p (nI z) 2 = S 2 := legS_lo (by decide)
  have e3 : legS S c p (nI z) 3 = S 3 := legS_lo (by decide)
  have e5 : legS S c p (nI z) 5 = S 5 + 1 := by
    unfold legS
    rw [uP_lo (by decide), uP_lo (by decide), upd_s]
  have e6 : legS S c p (nI z) 6 = S 6 := by
    unfold legS
    rw [uP_lo (by decide), uP_lo (by decide), upd_n (by decide), uC_lo (by decide)]
  generalize legS S c p (nI z) = S' at *
  refine IQ_step h hm hc hp e2 e3 ?_ ?_ ?_ (fun d hd hne => ⟨?_, ?_, ?_⟩) (fun m w hne hm2 hw => ?_) ?_ (fun m hne hm2 => ?_) (fun y m hm2 y4 => ?_) (Or.inr fun d hd hne y y4 => ?_) ?_ (fun m hm2 hne y => by omega)
  · rw [e6, ← h.1]
    exact sI_cg _ (fun d hd => by rw [eC d 2 (by omega) (by decide), if_neg (by omega)])
  · rw [e6, eP p 7 (by decide), if_neg (by omega), if_neg (by omega)]
    grind
  · obtain ⟨a, n, a1, a2, a3, a4⟩ := h.2.2.1
    refine ⟨a + 1, n + 1, by rw [e5, a1, nI_1], ?_, by omega, by omega⟩
    rw [lgT_leg (S := S) (c := c) (p := p) (cn_eq e2) (pn_eq e3) hc hp (fun m k hm2 hk => ?_), a2, nI_1]
    rw [eP m _ (by omega)]
    by_cases y : m = p ∧ k = c
    · rw [if_pos ⟨y.1, by omega⟩, if_pos y, y.1, y.2]
    · rw [if_neg (by omega), if_neg (by omega), if_neg y]
  · rw [eC d 1 (by omega) (by decide), if_neg (by omega)]
  · rw [eC d 3 (by omega) (by decide), if_neg (by omega)]
  · rw [eC d 4 (by omega) (by decide), if_neg (by omega)]
  · rw [eP m w hw, if_neg (fun y => hne y.1), if_neg (fun y => hne y.1)]
  · rw [cr2_cg (S := S) (S' := S') ⟨by rw [eC c 3 (by omega) (by decide), if_neg (by omega)], by rw [eC c 4 (by omega) (by decide), if_neg (by omega)]⟩, show sP S' p 4 = sP S p 4 by rw [eP p 4 (by decide), if_neg (by omega), if_neg (by omega)]]
    grind
  · exact cr2_cg ⟨by rw [eC c 3 (by omega) (by decide), if_neg (by omega)], by rw [eC c 4 (by omega) (by decide), if_neg (by omega)]⟩
  · rw [eC c 4 (by omega) (by decide), if_neg (by omega), h4, nI_eq (by omega) (by omega)] at y4
    subst y4
    rw [eP p 5 (by decide), if_neg (by omega), if_pos ⟨rfl, rfl⟩, eC c 1 (by omega) (by decide), if_pos ⟨rfl, rfl⟩]
  · exact hne (hW.2.2.2.2.2.1 d c hd hc y h3 (by rw [y4, h4]))
  · refine ⟨f, t, z, f1, f2, z1, ?_, ?_, ?_, z3, fun y => absurd rfl y, ?_, ?_, ?_, fun k hk hkn => ?_⟩
    · rw [eP p 0 (by decide), if_neg (by omega), if_neg (by omega)]; exact f4
    · rw [eP p 1 (by decide), if_neg (by omega), if_neg (by omega)]; exact f5
    · rw [eP p 5 (by decide), if_neg (by omega), if_pos ⟨rfl, rfl⟩]
    · rw [sI_one (f := fun k => sP S p (8 + k)) (i := c) (d := 1) 6 (by omega) ?_ (fun k hk hne => ?_), f9, z4, nI_1]
      · show sP S' p (8 + c) - sP S p (8 + c) = 1
        rw [eP p _ (by omega), if_pos ⟨rfl, rfl⟩]
        grind
      · show sP S' p (8 + k) = sP S p (8 + k)
        rw [eP p _ (by omega), if_neg (by omega), if_neg (by omega)]
    · rw [eP p 7 (by decide), if_neg (by omega), if_neg (by omega), ← f10]
      exact sI_cg 6 (fun k hk => by rw [eP p _ (by omega), if_neg (by omega), if_neg (by omega)])
    · rw [eP p 4 (by decide), if_neg (by omega), if_neg (by omega), eP p 7 (by decide), if_neg (by omega), if_neg (by omega)]
      exact f11
    · rw [cn_eq e2] at hkn
      rw [eP p _ (by omega), if_neg (by omega), if_neg (by omega), eP p _ (by omega), if_neg (by omega), if_neg (by omega)]
      exact f12 k hk hkn
end IVB
end
section
/-! KEPT BY ALL THAT HAPPENS: delivery, a tick, the calls -/
section IVC
theorem fsh_cg {S S' : Sx} {p : Nat} {m : Int32} (e : ∀ c, c < 6 → sP S' p (8 + c) = sP S p (8 + c)) {c : Nat} (hc : c < 6) : fsh S' p m c = fsh S p m c := by
  have hl : lsum S' p 6 = lsum S p 6 := by rw [lsum_sI, lsum_sI]; exact sI_cg 6 e
  have hq : ∀ d, d < 6 → shq S' p m d = shq S p m d := fun d hd => by unfold shq; rw [hl, e d hd]
  have hr : ∀ d, d < 6 → shr S' p m d = shr S p m d := fun d hd => by unfold shr; rw [hl, e d hd]
  have hk : ∀ i, i ≤ 6 → rnk S' p m c i = rnk S p m c i := by
    intro i
    induction i with
    | zero => intro _; rfl
    | succ i ih => intro hi; unfold rnk; rw [ih (by omega), hr c hc, hr i (by omega)]
  have ht : ∀ i, i ≤ 6 → rst S' p m i = rst S p m i := by
    intro i
    induction i with
    | zero => intro _; rfl
    | succ i ih => intro hi; unfold rst; rw [ih (by omega), hq i (by omega)]
  unfold fsh
  rw [hk 6 (Nat.le_refl _), ht 6 (Nat.le_refl _), hq c hc]
theorem tipW_2 {S : Sx} {p d : Nat} (hd : d < 6) : ∀ i, i ≤ 6 → sC (tipW S p i) d 2 = if d < i then sC S d 2 + sP S p (14 + d) else sC S d 2 := by
  intro i
  induction i with
  | zero => intro _; rw [if_neg (by omega)]; rfl
  | succ i ih =>
    intro hi
    unfold tipW
    rw [gCC (by decide) (by decide), tipW_P _ (by omega)]
    by_cases e : d = i
    · subst e
      rw [if_pos ⟨rfl, rfl⟩, if_pos (by omega), ih (by omega), if_neg (by omega)]
    · rw [if_neg (fun y => e y.1), ih (by omega)]
      by_cases l : d < i
      · rw [if_pos l, if_pos (by omega)]
      · rw [if_neg l, if_neg (by omega)]
theorem shW_h {S : Sx} {p q k : Nat} {m : Int32} (hk : k < 6) : ∀ i, i ≤ 6 → sP (shW S p m i) q (14 + k) = if q = p ∧ k < i then fsh S p m k else sP S q (14 + k) := by
  intro i
  induction i with
  | zero => intro _; rw [if_neg (by omega)]; rfl
  | succ i ih =>
    intro hi
    unfold shW
    rw [gPP (by omega) (by omega), ih (by omega)]
    by_cases e : q = p
    · subst e
      by_cases ek : k = i
      · subst ek
        rw [if_pos ⟨rfl, rfl⟩, if_pos ⟨rfl, by omega⟩]
      · rw [if_neg (by omega)]
        by_cases l : k < i
        · rw [if_pos ⟨rfl, l⟩, if_pos ⟨rfl, by omega⟩]
        · rw [if_neg (fun y => l y.2), if_neg (by omega)]
    · rw [if_neg (fun y => e y.1), if_neg (fun y => e y.1), if_neg (fun y => e y.1)]
theorem shareS_h {S : Sx} {p q k : Nat} {m : Int32} (hn : cn S ≤ 6) (hk : k < 6) : sP (shareS S p m) q (14 + k) = if q = p then fsh S p m k else sP S q (14 + k) := by
  unfold shareS
  rw [tipW_P _ hn, shW_h hk 6 (Nat.le_refl _)]
  by_cases e : q = p
  · rw [if_pos ⟨e, hk⟩, if_pos e]
  · rw [if_neg (fun y => e y.1), if_neg e]
theorem shareS_2 {S : Sx} {p d : Nat} {m : Int32} (hn : cn S ≤ 6) (hd : d < 6) : sC (shareS S p m) d 2 = if d < cn S then sC S d 2 + fsh S p m d else sC S d 2 := by
  unfold shareS
  rw [tipW_2 hd _ hn, shW_h hd 6 (Nat.le_refl _), shW_C hd (by decide)]
  by_cases l : d < cn S
  · rw [if_pos l, if_pos l, if_pos ⟨rfl, hd⟩]
  · rw [if_neg l, if_neg l]
theorem dl1_fsh {S : Sx} {p c : Nat} {m : Int32} (hc : c < 6) : fsh (dl1 S p) p m c = fsh S p m c := fsh_cg (fun d hd => by rw [dl1_P (by omega) (by omega) (by omega), if_neg (by omega)]) hc
theorem cn_dl1 {S : Sx} {p : Nat} : cn (dl1 S p) = cn S := cn_eq (dl1_lo (by decide))
theorem delS_lo6 {S : Sx} {c p : Nat} : delS S c p 6 = S 6 + payS S p := by
  rw [delS_eq, frS_lo (by decide), shareS_lo (by decide)]
  unfold dl1
  rw [upd_s]
theorem delS_2 {S : Sx} {c p d : Nat} (hn : cn S ≤ 6) (hd : d < cn S) : sC (delS S c p) d 2 = sC S d 2 + fsh S p (payS S p) d := by
  rw [delS_eq, frS_C (by decide), if_neg (by omega), if_neg (by omega), shareS_2 (by rw [cn_dl1]; exact hn) (by omega), if_pos (by rw [cn_dl1]; exact hd), dl1_fsh (by omega), dl1_C (by omega) (by decide)]
theorem delS_h {S : Sx} {c p q k : Nat} (hc : c < 6) (hn : cn S ≤ 6) (hk : k < 6) : sP (delS S c p) q (14 + k) = if q = p then fsh S p (payS S p) k else sP S q (14 + k) := by
  rw [delS_eq, frS_P hc, shareS_h (by rw [cn_dl1]; exact hn) hk, dl1_fsh hk]
  by_cases e : q = p
  · rw [if_pos e, if_pos e]
  · rw [if_neg e, if_neg e, dl1_P (by omega) (by omega) (by omega), if_neg (by omega)]
theorem delS_67 {S : Sx} {c p q x : Nat} (hc : c < 6) (hn : cn S ≤ 6) (hx : x = 6 ∨ x = 7) : sP (delS S c p) q x = if q = p then (if x = 6 then S 0 else payS S p) else sP S q x := by
  rw [delS_eq, frS_P hc, shareS_P (by rw [cn_dl1]; exact hn) (by omega)]
  unfold dl1
  rw [gPu (by decide), gPP (by omega) (by decide), gPP (by omega) (by decide), gPP (by omega) (by decide)]
  rcases hx with rfl | rfl
  · by_cases e : q = p
    · rw [if_neg (by omega), if_pos ⟨e, rfl⟩, if_pos e]; rfl
    · rw [if_neg (by omega), if_neg (by omega), if_neg (by omega), if_neg e]
  · by_cases e : q = p
    · rw [if_pos ⟨e, rfl⟩, if_pos e]; rfl
    · rw [if_neg (by omega), if_neg (by omega), if_neg (by omega), if_neg e]
theorem pay_n {b : Nat} {S : Sx} {p : Nat} (hW : WFp b S p) : ∃ k, k ≤ 1000 ∧ payS S p = nI k := by
  obtain ⟨k, hk, e⟩ := hW.2.2.1
  unfold payS
  rw [e]
  split
  · exact ⟨k, hk, rfl⟩
  · exact ⟨k / 2, by omega, by rw [show (2 : Int32) = nI 2 from rfl, pk_div (by omega) (by decide) (by decide)]⟩
theorem IV_del {b b0 : Nat} {S : Sx} {c p : Nat} (h : IQ b p S) (hW : WF b0 S) (hc : c < cn S) (h3 : sC S c 3 = 2) (h4 : sC S c 4 = nI p) (hp : p < pn S) (hL : LG S p) : IV b (delS S c p) := by
  have hn := hW.2.1
  have hm := hW.2.2.2.1
  have s4 := WF_car1 hW hc h3 h4 hp
  obtain ⟨f, t, z, f1, f2, f3, f4, f5, f6, f7, f8, f9, f10, f11, f12⟩ := h.2.2.2.2.2.1 p hp
  obtain ⟨k, hk, ek⟩ := pay_n (hW.2.2.2.2.2.2 p hp)
  have s7 : sP S p 7 = 0 := f11 (by rw [s4]; decide)
  have eC : ∀ d x, d < 6 → x < 5 → x ≠ 2 → sC (delS S c p) d x = if d = c ∧ x = 4 then -1 else if d = c ∧ x = 3 then 0 else sC S d x := fun d x hd hx h2 => delS_C hd hx h2
  have eP : ∀ m x, x < 14 → x ≠ 6 → x ≠ 7 → sP (delS S c p) m x = if m = p ∧ x = 4 then 2 else sP S m x := fun m x hx y6 y7 => delS_P (by omega) hn hx y6 y7
  have eH : ∀ m x, x < 6 → sP (delS S c p) m (14 + x) = if m = p then fsh S p (payS S p) x else sP S m (14 + x) := fun m x hx => delS_h (by omega) hn hx
  have e7 : sP (delS S c p) p 7 = payS S p := by rw [delS_67 (by omega) hn (Or.inr rfl), if_pos rfl, if_neg (by decide)]
  have eO : ∀ m x, m ≠ p → x < 20 → sP (delS S c p) m x = sP S m x := fun m x hne hx => by
    by_cases y : x = 6 ∨ x = 7
    · rw [delS_67 (by omega) hn y, if_neg hne]
    · by_cases y2 : x < 14
      · rw [eP m x y2 (by omega) (by omega), if_neg (fun w => hne w.1)]
      · have := eH m (x - 14) (by omega)
        rw [show 14 + (x - 14) = x by omega, if_neg hne] at this
        exact this
  have e2 : delS S c p 2 = S 2 := delS_lo (by decide)
  have e3 : delS S c p 3 = S 3 := delS_lo (by decide)
  have e5 : delS S c p 5 = S 5 := delS_lo (by decide)
  have e6 : delS S c p 6 = S 6 + payS S p := delS_lo6
  have eT : ∀ d, d < cn S → sC (delS S c p) d 2 = sC S d 2 + fsh S p (payS S p) d := fun d hd => delS_2 hn hd
  generalize delS S c p = S' at *
  have k3 : sC S' c 3 = 0 := by rw [eC c 3 (by omega) (by decide) (by decide), if_neg (by omega), if_pos ⟨rfl, rfl⟩]
  have hz : ∀ x, x < 6 → cn S ≤ x → fsh S p (payS S p) x = 0 := fun x hx hcx => by rw [ek]; exact fsh_zero hk hL hx (f12 x hx hcx).1
  have hsum : sI (fun x => fsh S p (payS S p) x) 6 = payS S p := by rw [ek]; exact fsh_sum hk hL
  refine IQ_step h hm hc hp e2 e3 ?_ ?_ ?_ (fun d hd hne => ⟨?_, ?_, ?_⟩) (fun m w hne hm2 hw => eO m w hne hw) ?_ (fun m hne hm2 => ?_) (fun y => absurd (k3.symm.trans y) (by decide)) (Or.inl ?_) ?_ (fun m _ hne _ => hne)
  · rw [e6, ← h.1, sI_cg (f := fun d => sC S' d 2) (g := fun d => sC S d 2 + fsh S p (payS S p) d) (cn S) (fun d hd => eT d hd), sI_add (f := fun d => sC S d 2) (g := fun d => fsh S p (payS S p) d), ← sI_ext 6 hn (fun i h1 h2 => hz i h2 h1), hsum]
  · rw [e6, e7, s7]
    grind
  · obtain ⟨a, n, a1, a2, a3, a4⟩ := h.2.2.1
    exact ⟨a, n, by rw [e5]; exact a1, by rw [lgT_cg (cn_eq e2) (pn_eq e3) hn (fun m x hm2 hx => by rw [eP m _ (by omega) (by omega) (by omega), if_neg (by omega)])]; exact a2, a3, a4⟩
  · rw [eC d 1 (by omega) (by decide) (by decide), if_neg (by omega), if_neg (by omega)]
  · rw [eC d 3 (by omega) (by decide) (by decide), if_neg (by omega), if_neg (by omega)]
  · rw [eC d 4 (by omega) (by decide) (by decide), if_neg (by omega), if_neg (by omega)]
  · have q4 : sP S' p 4 = 2 := by rw [eP p 4 (by decide) (by decide) (by decide), if_pos ⟨rfl, rfl⟩]
    rw [show cr2 S' p c = 0 from if_neg (fun y => absurd (k3.symm.trans y.1) (by decide)), show cr2 S p c = 1 from if_pos ⟨h3, h4⟩, q4, s4]
    decide
  · unfold cr2
    rw [if_neg (fun y => absurd (k3.symm.trans y.1) (by decide)), if_neg (fun y => hne (by have := y.2; rw [h4, nI_eq (by omega) (by omega)] at this; exact this.symm))]
  · rw [eP p 5 (by decide) (by decide) (by decide), if_neg (by omega)]
  · have q4 : sP S' p 4 = 2 := by rw [eP p 4 (by decide) (by decide) (by decide), if_pos ⟨rfl, rfl⟩]
    refine ⟨f, t, z, f1, f2, f3, ?_, ?_, ?_, f7, fun _ y => ?_, ?_, ?_, fun y => absurd q4 y, fun x hx hcx => ?_⟩
    · rw [eP p 0 (by decide) (by decide) (by decide), if_neg (by omega)]; exact f4
    · rw [eP p 1 (by decide) (by decide) (by decide), if_neg (by omega)]; exact f5
    · rw [eP p 5 (by decide) (by decide) (by decide), if_neg (by omega)]; exact f6
    · rw [q4] at y; exact y.elim (fun w => absurd w (by decide)) (fun w => absurd w (by decide))
    · rw [← f9]; exact sI_cg 6 (fun x hx => by rw [eP p _ (by omega) (by omega) (by omega), if_neg (by omega)])
    · rw [e7, ← hsum]; exact sI_cg 6 (fun x hx => by rw [eH p x hx, if_pos rfl])
    · rw [cn_eq e2] at hcx
      rw [eP p _ (by omega) (by omega) (by omega), if_neg (by omega), eH p x hx, if_pos rfl]
      exact ⟨(f12 x hx hcx).1, hz x hx hcx⟩
theorem LG_lg {b : Nat} {S : Sx} {c p z : Nat} (hb : b < 100000) (h : WF b S) (hc : c < cn S) (h3 : sC S c 3 = 2) (h4 : sC S c 4 = nI p) (hp : p < pn S) (hz : z < 16) : LG (legS S c p (nI z)) p := by
  have hn := h.2.1
  have h1 := WF_leg h hc h3 h4 hp hz
  have hq := (h1.2.2.2.2.2.2 p (by rw [pn_eq (legS_lo (by decide))]; exact hp)).2.2.2.2.2
  refine ⟨fun d => (sP (legS S c p (nI z)) p (8 + d)).toNatClampNeg, fun d hd => ?_, c, by omega, ?_⟩
  · obtain ⟨k, hk, e⟩ := hq d hd
    show (sP (legS S c p (nI z)) p (8 + d)).toNatClampNeg ≤ 100000 ∧ sP (legS S c p (nI z)) p (8 + d) = nI (sP (legS S c p (nI z)) p (8 + d)).toNatClampNeg
    rw [e, n_cl (by omega)]
    exact ⟨by omega, rfl⟩
  · obtain ⟨k, hk, e⟩ := (h.2.2.2.2.2.2 p hp).2.2.2.2.2 c (by omega)
    show 0 < (sP (legS S c p (nI z)) p (8 + c)).toNatClampNeg
    rw [legS_P (by omega) (by omega), if_pos ⟨rfl, rfl⟩, e, nI_1, n_cl (by omega)]
    omega
theorem IV_car {b : Nat} {S : Sx} {c p : Nat} (hb : b < 100000) (h : IV b S) (hW : WF b S) (hc : c < cn S) (h3 : sC S c 3 = 2) (h4 : sC S c 4 = nI p) (hp : p < pn S) : IV (b + 1) (carS S c p) := by
  have hn := hW.2.1
  have hm := hW.2.2.2.1
  unfold carS
  split
  · obtain ⟨g1, z, t, hz, ht, ez, et⟩ := IV_leg h hW hc h3 h4 hp
    have hL : LG (legS S c p (nxz (sC S c 1) (sP S p 1))) p := by rw [ez]; exact LG_lg hb hW hc h3 h4 hp hz
    have hW1 : WF (b + 1) (legS S c p (nxz (sC S c 1) (sP S p 1))) := by rw [ez]; exact WF_leg hW hc h3 h4 hp hz
    have c3 : sC (legS S c p (nxz (sC S c 1) (sP S p 1))) c 3 = 2 := by rw [legS_C (by omega) (by decide), if_neg (by omega)]; exact h3
    have c4 : sC (legS S c p (nxz (sC S c 1) (sP S p 1))) c 4 = nI p := by rw [legS_C (by omega) (by decide), if_neg (by omega)]; exact h4
    have hc1 : c < cn (legS S c p (nxz (sC S c 1) (sP S p 1))) := by rw [cn_eq (legS_lo (by decide))]; exact hc
    have hp1 : p < pn (legS S c p (nxz (sC S c 1) (sP S p 1))) := by rw [pn_eq (legS_lo (by decide))]; exact hp
    split
    · exact IV_del g1 hW1 hc1 c3 c4 hp1 hL
    · rename_i hne
      obtain ⟨k1, k2, k3, k4, k5, k6, k7⟩ := g1
      refine ⟨k1, k2, k3, k4, k5, fun m hm2 => ?_, k7⟩
      by_cases e : m = p
      · subst e
        obtain ⟨f, t', z', f1, f2, f3, f4, f5, f6, f7, f8, f9⟩ := k6 m hm2
        refine ⟨f, t', z', f1, f2, f3, f4, f5, f6, f7, fun _ _ y => hne ?_, f9⟩
        rw [legS_P (by omega) (by decide), if_neg (by omega), if_pos ⟨rfl, rfl⟩] at f6
        rw [legS_P (by omega) (by decide), if_neg (by omega), if_neg (by omega)] at f5
        rw [f6, f5, y]
      · exact PV_cg (k6 m hm2) (fun _ => e) (Nat.le_refl _) (fun _ _ => rfl)
  · exact IQ_up (by omega) (IV_hand h hW hc h3 h4 hp (fun k hk h4 => by rw [upd_n h4, uP_lo (by omega)]) (fun d x hd hx => by rw [gCu (by decide), gCP hd hx]) (fun m x hx => by rw [gPu (by decide), gPP hx (by decide)]))
theorem IV_act {b : Nat} {S : Sx} {c : Nat} (hb : b < 100000) (h : IV b S) (hW : WF b S) (hc : c < cn S) : IV (b + 1) (actS S c) := by
  unfold actS
  split
  · rename_i h3
    obtain ⟨p, hp, e1, e2⟩ := WF_with hW hc (by rw [h3]; decide)
    rw [e2]
    exact IV_car hb h hW hc h3 e1 hp
  · rename_i n3
    split
    · rename_i h3
      obtain ⟨p, hp, e1, e2⟩ := WF_with hW hc (by rw [h3.1]; decide)
      rw [e2] at h3 ⊢
      exact IV_go h hW hc h3.1 e1 hp h3.2
    · exact IV_ch h hW hc n3
theorem IV_fai {b b0 : Nat} {S : Sx} {p : Nat} (h : IV b S) (hW : WF b0 S) (hp : p < pn S) (h4 : sP S p 4 = 0 ∨ sP S p 4 = 1) : IV b (faiS S p) := by
  have hn := hW.2.1
  have hm := hW.2.2.2.1
  obtain ⟨i1, i2, i3, i4, i5, i6, i7⟩ := h
  have e2 : faiS S p 2 = S 2 := faiS_lo (by decide)
  have e3 : faiS S p 3 = S 3 := faiS_lo (by decide)
  have e5 : faiS S p 5 = S 5 := faiS_lo (by decide)
  have e6 : faiS S p 6 = S 6 := faiS_lo (by decide)
  have eP : ∀ q x, x < 20 → sP (faiS S p) q x = if q = p ∧ x = 4 then 3 else sP S q x := fun q x hx => by
    unfold faiS
    rw [frW_P _ hn, gPP hx (by decide)]
  have eC : ∀ d x, d < cn S → x < 5 → sC (faiS S p) d x = if sC S d 4 = nI p then (if x = 4 then -1 else if x = 3 then 0 else sC S d x) else sC S d x := fun d x hd hx => by
    unfold faiS
    rw [frW_C hx, gCP (by omega) hx, gCP (by omega) (by decide)]
    by_cases z : sC S d 4 = nI p
    · rw [if_pos ⟨hd, z⟩, if_pos z]
    · rw [if_neg (fun y => z y.2), if_neg z]
  generalize faiS S p = S' at *
  have en := cn_eq e2
  have em := pn_eq e3
  have c2 : ∀ m d, m < pn S → d < cn S → cr2 S' m d = if m = p then 0 else cr2 S m d := by
    intro m d hm2 hd
    by_cases z : sC S d 4 = nI p
    · have y3 : sC S' d 3 = 0 := by rw [eC d 3 hd (by decide), if_pos z, if_neg (by decide), if_pos rfl]
      rw [show cr2 S' m d = 0 from if_neg (fun y => absurd (y3.symm.trans y.1) (by decide))]
      by_cases e : m = p
      · rw [if_pos e]
      · rw [if_neg e]
        exact (if_neg (fun y => e (by have := y.2; rw [z, nI_eq (by omega) (by omega)] at this; exact this.symm))).symm
    · rw [cr2_cg (S := S) ⟨by rw [eC d 3 hd (by decide), if_neg z], by rw [eC d 4 hd (by decide), if_neg z]⟩]
      by_cases e : m = p
      · rw [if_pos e]
        exact if_neg (fun y => z (by rw [← e]; exact y.2))
      · rw [if_neg e]
  refine ⟨?_, ?_, ?_, ?_, ?_, ?_, ?_⟩
  · rw [en, e6, ← i1]
    refine sI_cg _ (fun d hd => ?_)
    rw [eC d 2 hd (by decide)]
    split
    · rw [if_neg (by decide), if_neg (by decide)]
    · rfl
  · rw [em, e6, ← i2]
    exact sI_cg _ (fun m hm2 => by rw [eP m 7 (by decide), if_neg (by omega)])
  · rw [e5, lgT_cg en em hn (fun m k hm2 hk => by rw [eP m _ (by omega), if_neg (by omega)])]; exact i3
  · rw [em, en]
    intro m hm2
    by_cases e : m = p
    · subst e
      rw [show sP S' m 4 = 3 by rw [eP m 4 (by decide), if_pos ⟨rfl, rfl⟩], if_neg (by decide)]
      exact sI_zero _ (fun d hd => by rw [c2 m d hm2 hd, if_pos rfl])
    · rw [show sP S' m 4 = sP S m 4 by rw [eP m 4 (by decide), if_neg (fun y => e y.1)], ← i4 m hm2]
      exact sI_cg _ (fun d hd => by rw [c2 m d hm2 hd, if_neg e])
  · rw [em, en]
    intro k m hk hm2 y3 y4
    by_cases z : sC S k 4 = nI p
    · rw [eC k 3 hk (by decide), if_pos z, if_neg (by decide), if_pos rfl] at y3
      exact absurd y3 (by decide)
    · rw [eC k 3 hk (by decide), if_neg z] at y3
      rw [eC k 4 hk (by decide), if_neg z] at y4
      rw [eC k 1 hk (by decide), if_neg z, eP m 5 (by decide), if_neg (by omega)]
      exact i5 k m hk hm2 y3 y4
  · rw [em]
    intro m hm2
    by_cases e : m = p
    · subst e
      have q4 : sP S' m 4 = 3 := by rw [eP m 4 (by decide), if_pos ⟨rfl, rfl⟩]
      refine PV_4 (i6 m hm2) (Nat.le_of_eq en.symm) (fun w hw hne => by rw [eP m w hw, if_neg (fun y => hne y.2)]) (fun y => h4) (fun _ y => ?_)
      rcases h4 with w | w <;> rw [w] at y <;> exact absurd y (by decide)
    · exact PV_cg (i6 m hm2) (fun y => y) (Nat.le_of_eq en.symm) (fun w hw => by rw [eP m w hw, if_neg (fun y => e y.1)])
  · rw [em]
    intro m w h8 h9 h10
    rw [eP m w h10, if_neg (by omega)]
    exact i7 m w h8 h9 h10
theorem IV_actW {b : Nat} {S : Sx} (h : IV b S) (hW : WF b S) (hb : b + 6 < 100000) : ∀ i, i ≤ cn S → IV (b + i) (actW S i) := by
  intro i
  induction i with
  | zero => intro _; exact h
  | succ i ih =>
    intro hi
    have hn := hW.2.1
    unfold actW
    exact IV_act (b := b + i) (by omega) (ih (by omega)) (WF_actW hW i (by omega)) (by rw [cn_eq (actW_lo (by decide) i)]; exact hi)
theorem IV_time {b : Nat} {S : Sx} (v : Int32) (hn : cn S ≤ 6) (hm : pn S ≤ 24) (h : IV b S) : IV b (upd S 0 v) :=
  IQ_cg h hn hm (upd_n (by decide)) (upd_n (by decide)) (upd_n (by decide)) (upd_n (by decide)) (fun d w _ _ _ => gCu (by decide)) (fun m w _ _ => gPu (by decide))
theorem IV_flW {b b0 : Nat} {S : Sx} (h : IV b S) (hW : WF b0 S) : ∀ i, i ≤ pn S → IV b (flW S i) := by
  intro i
  induction i with
  | zero => intro _; exact h
  | succ i ih =>
    intro hi
    have hp : i < pn (flW S i) := by rw [pn_eq (flW_lo (by decide) i)]; exact hi
    have hWi := WF_flW hW i (by omega)
    unfold flW
    split
    · rename_i hc
      refine IV_fai (ih (by omega)) hWi hp ?_
      obtain ⟨k, hk, ek⟩ := (hWi.2.2.2.2.2.2 i hp).2.2.2.1
      have h2 := hc.1
      rw [ek, show (2 : Int32) = nI 2 from rfl, n_lt (by omega) (by decide)] at h2
      rw [ek]
      rcases (show k = 0 ∨ k = 1 by omega) with e | e <;> rw [e]
      · exact Or.inl rfl
      · exact Or.inr rfl
    · exact ih (by omega)
theorem IV_tick {b : Nat} {S : Sx} (h : IV b S) (hW : WF b S) (hb : b + 6 < 100000) : IV (b + 6) (tickS S) := by
  have hn := hW.2.1
  have e2 : cn (upd S 0 (S 0 + 1)) = cn S := cn_eq (upd_n (by decide))
  have h1 : IV (b + 6) (tkA S) := by
    unfold tkA
    exact IQ_up (by omega) (IV_actW (IV_time (S 0 + 1) hn hW.2.2.2.1 h) (WF_time (S 0 + 1) hW) hb (cn S) (by rw [e2]; exact Nat.le_refl _))
  unfold tickS
  exact IV_flW h1 (WF_tkA hW) _ (by rw [pn_eq (tkA_lo (by decide) (by decide))]; exact Nat.le_refl _)
theorem IV_tkN {b : Nat} {S : Sx} (h : IV b S) (hW : WF b S) : ∀ n, b + 6 * n < 100000 → IV (b + 6 * n) (tkN S n) := by
  intro n
  induction n with
  | zero => intro _; exact h
  | succ n ih =>
    intro hb
    unfold tkN
    exact IQ_up (by omega) (IV_tick (ih (by omega)) (WF_tkN hW n) (by omega))
/-! the calls -/
theorem addS_C {S : Sx} {ar z : Int32} {d x : Nat} (hc : cn S < 6) (hd : d < 6) (hx : x < 5) : sC (addS S ar z) d x = if d = cn S then (if x = 0 then ar else if x = 1 then z else if x = 2 then 0 else if x = 3 then 0 else -1) else sC S d x := by
  unfold addS
  rw [gCu (by decide), frS_C hx, gCC hx (by decide), gCC hx (by decide), gCC hx (by decide)]
  by_cases e : d = cn S
  · rw [if_pos e]
    rcases (show x = 0 ∨ x = 1 ∨ x = 2 ∨ x = 3 ∨ x = 4 by omega) with y | y | y | y | y <;> subst y <;> simp [e]
  · rw [if_neg e, if_neg (fun y => e y.1), if_neg (fun y => e y.1), if_neg (fun y => e y.1), if_neg (fun y => e y.1), if_neg (fun y => e y.1)]
theorem addS_P {S : Sx} {ar z : Int32} {m x : Nat} (hc : cn S < 6) (hx : x < 20) : sP (addS S ar z) m x = sP S m x := by
  unfold addS
  rw [gPu (by decide), frS_P hc, gPC hc (by decide), gPC hc (by decide), gPC hc (by decide)]
theorem addS_lo {S : Sx} {ar z : Int32} {k : Nat} (hk : k < 7) (h2 : k ≠ 2) : addS S ar z k = S k := by
  unfold addS
  rw [upd_n h2, frS_lo hk, uC_lo hk, uC_lo hk, uC_lo hk]
theorem addS_cn {b : Nat} {S : Sx} {ar z : Int32} (hW : WF b S) : cn (addS S ar z) = cn S + 1 := by
  have hn := hW.2.1
  have e : addS S ar z 2 = nI (cn S + 1) := by unfold addS; rw [upd_s, hW.1, nI_1]
  show (addS S ar z 2).toNatClampNeg = cn S + 1
  rw [e, n_cl (by omega)]
theorem IV_add {b b0 : Nat} {S : Sx} {ar z : Int32} (h : IV b S) (hW : WF b0 S) (hc : cn S < 6) : IV b (addS S ar z) := by
  have hm := hW.2.2.2.1
  have en : cn (addS S ar z) = cn S + 1 := addS_cn hW
  have em : pn (addS S ar z) = pn S := pn_eq (addS_lo (by decide) (by decide))
  have eC : ∀ d x, d < 6 → x < 5 → sC (addS S ar z) d x = if d = cn S then (if x = 0 then ar else if x = 1 then z else if x = 2 then 0 else if x = 3 then 0 else -1) else sC S d x := fun d x hd hx => addS_C hc hd hx
  have eP : ∀ m x, x < 20 → sP (addS S ar z) m x = sP S m x := fun m x hx => addS_P hc hx
  have e5 : addS S ar z 5 = S 5 := addS_lo (by decide) (by decide)
  have e6 : addS S ar z 6 = S 6 := addS_lo (by decide) (by decide)
  generalize addS S ar z = S' at *
  obtain ⟨i1, i2, i3, i4, i5, i6, i7⟩ := h
  have c2 : ∀ m, cr2 S' m (cn S) = 0 := fun m => by
    have y3 : sC S' (cn S) 3 = 0 := by rw [eC _ 3 hc (by decide), if_pos rfl, if_neg (by decide), if_neg (by decide), if_neg (by decide), if_pos rfl]
    exact if_neg (fun y => absurd (y3.symm.trans y.1) (by decide))
  refine ⟨?_, ?_, ?_, ?_, ?_, ?_, ?_⟩
  · rw [en, e6, ← i1]
    show sI (fun k => sC S' k 2) (cn S) + sC S' (cn S) 2 = _
    rw [sI_cg (f := fun k => sC S' k 2) (g := fun k => sC S k 2) (cn S) (fun d hd => by rw [eC d 2 (by omega) (by decide), if_neg (by omega)]), eC _ 2 hc (by decide), if_pos rfl, if_neg (by decide), if_neg (by decide), if_pos rfl]
    grind
  · rw [em, e6, ← i2]
    exact sI_cg _ (fun m hm2 => eP m 7 (by decide))
  · obtain ⟨a, n, a1, a2, a3, a4⟩ := i3
    refine ⟨a, n, by rw [e5]; exact a1, ?_, a3, a4⟩
    unfold lgT
    rw [en, em]
    show sI (fun k => sI (fun m => sP S' m (8 + k)) (pn S)) (cn S) + sI (fun m => sP S' m (8 + cn S)) (pn S) = _
    rw [sI_zero (f := fun m => sP S' m (8 + cn S)) (pn S) (fun m hm2 => ?_), sI_cg (g := fun k => sI (fun m => sP S m (8 + k)) (pn S)) (cn S) (fun k hk => sI_cg _ (fun m hm2 => eP m _ (by omega)))]
    · rw [← a2]; unfold lgT; grind
    · obtain ⟨f, t, z, f1, f2, f3, f4, f5, f6, f7, f8, f9, f10, f11, f12⟩ := i6 m hm2
      show sP S' m (8 + cn S) = 0
      rw [eP m _ (by omega)]
      exact (f12 (cn S) hc (Nat.le_refl _)).1
  · rw [em, en]
    intro m hm2
    show sI (cr2 S' m) (cn S) + cr2 S' m (cn S) = _
    rw [c2 m, eP m 4 (by decide), ← i4 m hm2, sI_cg (f := cr2 S' m) (g := cr2 S m) (cn S) (fun d hd => cr2_cg ⟨by rw [eC d 3 (by omega) (by decide), if_neg (by omega)], by rw [eC d 4 (by omega) (by decide), if_neg (by omega)]⟩)]
    grind
  · rw [em, en]
    intro k m hk hm2 y3 y4
    by_cases e : k = cn S
    · rw [e, eC _ 3 hc (by decide), if_pos rfl, if_neg (by decide), if_neg (by decide), if_neg (by decide), if_pos rfl] at y3
      exact absurd y3 (by decide)
    · rw [eC k 3 (by omega) (by decide), if_neg e] at y3
      rw [eC k 4 (by omega) (by decide), if_neg e] at y4
      rw [eC k 1 (by omega) (by decide), if_neg e, eP m 5 (by decide)]
      exact i5 k m (by omega) hm2 y3 y4
  · rw [em]
    intro m hm2
    exact PV_cg (i6 m hm2) (fun y => y) (by omega) (fun w hw => eP m w hw)
  · rw [em]
    intro m w h8 h9 h10
    rw [eP m w h10]
    exact i7 m w h8 h9 h10
theorem IV_area {b b0 : Nat} {S : Sx} {c : Nat} {v : Int32} (h : IV b S) (hW : WF b0 S) (hc : c < cn S) : IV b (uC S c 0 v) := by
  have hn := hW.2.1
  exact IQ_cg h hn hW.2.2.2.1 (uC_lo (by decide)) (uC_lo (by decide)) (uC_lo (by decide)) (uC_lo (by decide)) (fun d w hd hw h0 => by rw [gCC hw (by decide), if_neg (fun y => h0 y.2)]) (fun m w _ hw => gPC (by omega) (by decide))
theorem IV_grace {b b0 : Nat} {S : Sx} {v : Int32} (h : IV b S) (hW : WF b0 S) : IV b (upd S 1 v) :=
  IQ_cg h hW.2.1 hW.2.2.2.1 (upd_n (by decide)) (upd_n (by decide)) (upd_n (by decide)) (upd_n (by decide)) (fun d w _ _ _ => gCu (by decide)) (fun m w _ _ => gPu (by decide))
theorem IV_dr {b b0 : Nat} {S : Sx} {c : Nat} (h : IV b S) (hW : WF b0 S) (hc : c < cn S) : IV (b + 1) (drS S c) := by
  have hn := hW.2.1
  have hm := hW.2.2.2.1
  unfold drS
  split
  · rename_i h3
    obtain ⟨p, hp, e1, e2⟩ := WF_with hW hc (by rw [h3]; decide)
    rw [e2]
    exact IQ_up (by omega) (IV_hand h hW hc h3 e1 hp (fun k hk h4 => uP_lo (by omega)) (fun d x hd hx => gCP hd hx) (fun m x hx => gPP hx (by decide)))
  · rename_i n3
    have k3 : sC (frS S c) c 3 = 0 := by rw [frS_C (by decide), if_neg (by omega), if_pos ⟨rfl, rfl⟩]
    refine IQ_stepC h hm hn hc (frS_lo (by decide)) (frS_lo (by decide)) (frS_lo (by decide)) (Or.inl (frS_lo (by decide))) (Nat.le_refl _) (fun d hd => ⟨?_, fun hne => ⟨?_, ?_, ?_⟩⟩) (fun m w hm hw => frS_P (by omega)) (fun m hm2 => ?_) (fun y => absurd (k3.symm.trans y) (by decide))
    · rw [frS_C (by decide), if_neg (by omega), if_neg (by omega)]
    · rw [frS_C (by decide), if_neg (by omega), if_neg (by omega)]
    · rw [frS_C (by decide), if_neg (by omega), if_neg (by omega)]
    · rw [frS_C (by decide), if_neg (by omega), if_neg (by omega)]
    · unfold cr2
      rw [if_neg (fun y => absurd (k3.symm.trans y.1) (by decide)), if_neg (fun y => n3 y.1)]
theorem com_pn {b : Nat} {S : Sx} {o g k t : Int32} (hW : WF b S) : pn (comS S o g k t) = pn S + 1 := by
  have hm := hW.2.2.2.1
  have e : comS S o g k t 3 = nI (pn S + 1) := by unfold comS; rw [upd_s, hW.2.2.1, nI_1]
  show (comS S o g k t 3).toNatClampNeg = pn S + 1
  rw [e, n_cl (by omega)]
theorem IV_com {b b0 : Nat} {S : Sx} {o g k t : Int32} (h : IV b S) (hW : WF b0 S) (hp : pn S < 24) (ho : ∃ x y, x < 16 ∧ y < 16 ∧ x ≠ y ∧ o = nI x ∧ g = nI y) : IV b (comS S o g k t) := by
  have hn := hW.2.1
  have em : pn (comS S o g k t) = pn S + 1 := com_pn hW
  have en : cn (comS S o g k t) = cn S := cn_eq (com_lo (by decide) (by decide))
  have e5 : comS S o g k t 5 = S 5 := com_lo (by decide) (by decide)
  have e6 : comS S o g k t 6 = S 6 := com_lo (by decide) (by decide)
  have eC : ∀ d x, d < 6 → x < 5 → sC (comS S o g k t) d x = sC S d x := fun d x hd hx => com_C hd hx
  have eP : ∀ q x, x < 20 → sP (comS S o g k t) q x = if q = pn S then (if x = 0 then o else if x = 1 then g else if x = 2 then k else if x = 3 then t else if x = 5 then o else if x = 6 then -1 else 0) else sP S q x := fun q x hx => com_P hx
  generalize comS S o g k t = S' at *
  obtain ⟨i1, i2, i3, i4, i5, i6, i7⟩ := h
  have z8 : ∀ x, x < 12 → sP S' (pn S) (8 + x) = 0 := fun x hx => by
    rw [eP _ _ (by omega), if_pos rfl, if_neg (by omega), if_neg (by omega), if_neg (by omega), if_neg (by omega), if_neg (by omega), if_neg (by omega)]
  have z4 : sP S' (pn S) 4 = 0 := by rw [eP _ _ (by decide), if_pos rfl]; rfl
  have z7 : sP S' (pn S) 7 = 0 := by rw [eP _ _ (by decide), if_pos rfl]; rfl
  have z5 : sP S' (pn S) 5 = o := by rw [eP _ _ (by decide), if_pos rfl]; rfl
  have z0 : sP S' (pn S) 0 = o := by rw [eP _ _ (by decide), if_pos rfl]; rfl
  have z1 : sP S' (pn S) 1 = g := by rw [eP _ _ (by decide), if_pos rfl]; rfl
  refine ⟨?_, ?_, ?_, ?_, ?_, ?_, ?_⟩
  · rw [en, e6, ← i1]
    exact sI_cg _ (fun d hd => eC d 2 (by omega) (by decide))
  · rw [em, e6, ← i2]
    show sI (fun m => sP S' m 7) (pn S) + sP S' (pn S) 7 = _
    rw [z7, sI_cg (g := fun m => sP S m 7) (pn S) (fun m hm2 => by rw [eP m 7 (by decide), if_neg (by omega)])]
    grind
  · obtain ⟨a, n, a1, a2, a3, a4⟩ := i3
    refine ⟨a, n, by rw [e5]; exact a1, ?_, a3, a4⟩
    rw [← a2]
    unfold lgT
    rw [en, em]
    refine sI_cg _ (fun d hd => ?_)
    show sI (fun m => sP S' m (8 + d)) (pn S) + sP S' (pn S) (8 + d) = _
    rw [z8 d (by omega), sI_cg (g := fun m => sP S m (8 + d)) (pn S) (fun m hm2 => by rw [eP m _ (by omega), if_neg (by omega)])]
    grind
  · rw [em, en]
    intro m hm2
    by_cases e : m = pn S
    · subst e
      rw [z4, if_neg (by decide)]
      refine sI_zero _ (fun d hd => ?_)
      unfold cr2
      rw [if_neg (fun y => ?_)]
      have := y.2
      rw [eC d 4 (by omega) (by decide)] at this
      exact ct4_n hW hd this
    · rw [eP m 4 (by decide), if_neg e, ← i4 m (by omega)]
      exact sI_cg _ (fun d hd => cr2_cg ⟨eC d 3 (by omega) (by decide), eC d 4 (by omega) (by decide)⟩)
  · rw [em, en]
    intro d m hd hm2 y3 y4
    rw [eC d 3 (by omega) (by decide)] at y3
    rw [eC d 4 (by omega) (by decide)] at y4
    by_cases e : m = pn S
    · subst e; exact absurd y4 (ct4_n hW hd)
    · rw [eC d 1 (by omega) (by decide), eP m 5 (by decide), if_neg e]
      exact i5 d m hd (by omega) y3 y4
  · rw [em]
    intro m hm2
    by_cases e : m = pn S
    · subst e
      obtain ⟨x, y, hx, hy, hne, ex, ey⟩ := ho
      obtain ⟨k1, k2⟩ := onr_0 x hx y hy
      refine ⟨x, y, x, hx, hy, hx, by rw [z0, ex], by rw [z1, ey], by rw [z5, ex], k1, fun _ _ => hne, ?_, ?_, fun _ => z7, fun d hd _ => ⟨z8 d (by omega), ?_⟩⟩
      · rw [k2]; exact sI_zero 6 (fun d hd => z8 d (by omega))
      · rw [z7]
        refine sI_zero 6 (fun d hd => ?_)
        have := z8 (6 + d) (by omega)
        rw [show 8 + (6 + d) = 14 + d by omega] at this
        exact this
      · have := z8 (6 + d) (by omega)
        rw [show 8 + (6 + d) = 14 + d by omega] at this
        exact this
    · exact PV_cg (i6 m (by omega)) (fun y => y) (Nat.le_of_eq en.symm) (fun w hw => by rw [eP m w hw, if_neg e])
  · rw [em]
    intro m w h8 h9 h10
    rw [eP m w h10, if_neg (by omega)]
    exact i7 m w (by omega) h9 h10
theorem IV_0 {S : Sx} (h2 : S 2 = 0) (h3 : S 3 = 0) (h5 : S 5 = 0) (h6 : S 6 = 0) (hP : ∀ m w, m < 24 → w < 20 → sP S m w = 0) : IV 0 S := by
  have en : cn S = 0 := by unfold cn; rw [h2]; decide
  have em : pn S = 0 := by unfold pn; rw [h3]; decide
  refine ⟨by rw [en, h6]; rfl, by rw [em, h6]; rfl, ⟨0, 0, h5, ?_, Nat.le_refl _, Nat.le_refl _⟩, ?_, ?_, ?_, fun m w _ h9 h10 => hP m w h9 h10⟩
  · unfold lgT; rw [en]; rfl
  · intro m hm; omega
  · intro k m hk; omega
  · intro m hm; omega
end IVC
end
section
/-! THE LAW'S HELPERS THAT CATCH: contracts (printed by program) -/
section HL
/-- what a helper answers -/
def hv (k1 k2 : Int32) (r : Nat × Int32 × Zs) : Int32 := if r.1 = 0 then r.2.1 else if r.1 = 1 then k1 else k2
def ctH (B : Nat) (op : Op) (k1 k2 : Int32) (a : Nat) (M : fw_M) (Q : Option Value → fw_M → Prop) : Prop := a = B ∧ ∃ Z, RC B M Z ∧ KZ Z ∧ ∀ M' : fw_M, RC B M' (op Z).2.2 → (∀ b, B + 492 ≤ b → M'.1 b = M.1 b) → Q (some (.int (hv k1 k2 (op Z)))) M'
theorem hl_n {B : Nat} {op : Op} {k1 k2 : Int32} {Z : Zs} {M M1 : fw_M} {Q : Option Value → fw_M → Prop} (h : ∀ M' : fw_M, RC B M' (op Z).2.2 → (∀ b, B + 492 ≤ b → M'.1 b = M.1 b) → Q (some (.int (hv k1 k2 (op Z)))) M')
    (e : (op Z).1 = 0) (r : RC B M1 (op Z).2.2) (f : FC B (M.1, M.2.1, 0) M1) : Q (some (.int (op Z).2.1)) (M1.1, M1.2.1, 1) ∧ (1 : Nat) ≤ 1 := by
  refine ⟨?_, Nat.le_refl 1⟩
  have := h (M1.1, M1.2.1, 1) r f.1
  unfold hv at this
  rw [if_pos e] at this
  exact this
theorem hl_t {B k : Nat} {op : Op} {k1 k2 : Int32} {Z : Zs} {M : fw_M} {Q : Option Value → fw_M → Prop} (h : ∀ M' : fw_M, RC B M' (op Z).2.2 → (∀ b, B + 492 ≤ b → M'.1 b = M.1 b) → Q (some (.int (hv k1 k2 (op Z)))) M')
    (e : (op Z).1 = k ∧ (op Z).2.2 = Z) (hk : k ≠ 0) (hR : RC B M Z) : Q (some (.int (if k = 1 then k1 else k2))) (M.1, M.2.1, 1) := by
  have := h (M.1, M.2.1, 1) (by rw [e.2]; exact hR) (fun _ _ => rfl)
  unfold hv at this
  rw [e.1, if_neg hk] at this
  exact this
theorem xw_A : Cond.castable "java/lang/IllegalArgumentException" "java/lang/IllegalArgumentException" ∈ fw_xw := List.mem_append_right _ (by decide)
theorem xw_S : Cond.castable "java/lang/IllegalStateException" "java/lang/IllegalStateException" ∈ fw_xw := List.mem_append_right _ (by decide)
theorem xw_I : Cond.castable "java/lang/IndexOutOfBoundsException" "java/lang/IndexOutOfBoundsException" ∈ fw_xw := List.mem_append_right _ (by decide)
def ct_L_adds (B : Nat) : fw_CTX := fun as M Q _ => match as with
  | [.ref a, .int x, .int y] => ctH B (opAdd x y) (-100002) (-100003) a M Q
  | _ => False
theorem oc_adds {x y : Int32} (Z : Zs) : ((opAdd x y) Z).1 = 0 ∨ (((opAdd x y) Z).1 = 1 ∧ ((opAdd x y) Z).2.2 = Z) ∨ (((opAdd x y) Z).1 = 2 ∧ ((opAdd x y) Z).2.2 = Z) := by
  unfold opAdd
  split <;> (try split) <;> first | exact Or.inl rfl | exact Or.inr (Or.inl ⟨rfl, rfl⟩) | exact Or.inr (Or.inr ⟨rfl, rfl⟩)
abbrev rm_L_adds : Room := { frames := 7, cells := 1, slots := 6, locals := 170 }
theorem me_L_adds (l : Launch) (g : fw_G) (B : Nat) (htr : l.stackTraces = false) : fw_MetH l g B yL_adds cL_adds 4 (some .int) hL_adds rm_L_adds 1 6 (ct_L_adds B) := by
  refine fw_metH (own := RL) (ix := 78) (n := 2) (p0 := 3) (es := [("java/lang/IllegalArgumentException", -100002), ("java/lang/IllegalStateException", -100003)]) (by decide +kernel) rfl kL_adds_ok kL_adds_cst (me_X5_addCourier l g B htr) wl_L_78 wi_X5_addCourier wv_X5_addCourier wz_RX5 wc_X5_addCourier rfl rfl (by decide +kernel) (by decide) (by decide +kernel) ?_ ?_
  · intro E k hk
    simp only [List.mem_cons, List.not_mem_nil, or_false, Prod.mk.injEq] at hk
    rcases hk with ⟨rfl, rfl⟩ | ⟨rfl, rfl⟩
    · exact ⟨7, ⟨[], ⟨0, 6, 7, 83⟩, [⟨0, 6, 11, 85⟩], rfl, by decide, by decide, rfl, wq_L_83, xw_A, fun z hz => nomatch hz⟩, fun Q q M1 h => ⟨20, h⟩⟩
    · refine ⟨11, ⟨[⟨0, 6, 7, 83⟩], ⟨0, 6, 11, 85⟩, [], rfl, by decide, by decide, rfl, wq_L_85, xw_S, fun z hz => ?_⟩, fun Q q M1 h => ⟨20, h⟩⟩
      cases List.mem_singleton.mp hz
      exact ⟨by decide, "java/lang/IllegalArgumentException", wq_L_83, fun U h => h.1⟩
  · intro as M Q QX h
    unfold ct_L_adds at h
    split at h
    · rename_i a x y
      obtain ⟨rfl, Z, hR, hK, h⟩ := h
      refine ⟨rfl, a, [.int x, .int y], [], kB, rfl, Nat.le_of_ble_eq_true rfl, ⟨30, ⟨rfl, rfl, rfl⟩⟩, ⟨rfl, Z, hR, hK.1, hK.2, fun e M1 r f => ⟨30, hl_n h e r f⟩, fun e => ?_⟩⟩
      rcases oc_adds Z with w | w | w
      · exact absurd w e
      · exact ⟨-100002, by rw [w.1]; exact List.mem_cons_self, hl_t h w (by decide) hR⟩
      · exact ⟨-100003, by rw [w.1]; exact List.mem_cons_of_mem _ List.mem_cons_self, hl_t h w (by decide) hR⟩
    · exact h.elim
def ct_L_areas (B : Nat) : fw_CTX := fun as M Q _ => match as with
  | [.ref a, .int x, .int y] => ctH B (opArea x y) (-100001) (-100002) a M Q
  | _ => False
theorem oc_areas {x y : Int32} (Z : Zs) : ((opArea x y) Z).1 = 0 ∨ (((opArea x y) Z).1 = 1 ∧ ((opArea x y) Z).2.2 = Z) ∨ (((opArea x y) Z).1 = 2 ∧ ((opArea x y) Z).2.2 = Z) := by
  unfold opArea
  split <;> (try split) <;> first | exact Or.inl rfl | exact Or.inr (Or.inl ⟨rfl, rfl⟩) | exact Or.inr (Or.inr ⟨rfl, rfl⟩)
abbrev rm_L_areas : Room := { frames := 7, cells := 1, slots := 6, locals := 172 }
theorem me_L_areas (l : Launch) (g : fw_G) (B : Nat) (htr : l.stackTraces = false) : fw_MetH l g B yL_areas cL_areas 4 (some .int) hL_areas rm_L_areas 1 6 (ct_L_areas B) := by
  refine fw_metH (own := RL) (ix := 87) (n := 2) (p0 := 3) (es := [("java/lang/IndexOutOfBoundsException", -100001), ("java/lang/IllegalArgumentException", -100002)]) (by decide +kernel) rfl kL_areas_ok kL_areas_cst (me_X5_setArea l g B htr) wl_L_87 wi_X5_setArea wv_X5_setArea wz_RX5 wc_X5_setArea rfl rfl (by decide +kernel) (by decide) (by decide +kernel) ?_ ?_
  · intro E k hk
    simp only [List.mem_cons, List.not_mem_nil, or_false, Prod.mk.injEq] at hk
    rcases hk with ⟨rfl, rfl⟩ | ⟨rfl, rfl⟩
    · exact ⟨7, ⟨[], ⟨0, 6, 7, 90⟩, [⟨0, 6, 11, 83⟩], rfl, by decide, by decide, rfl, wq_L_90, xw_I, fun z hz => nomatch hz⟩, fun Q q M1 h => ⟨20, h⟩⟩
    · refine ⟨11, ⟨[⟨0, 6, 7, 90⟩], ⟨0, 6, 11, 83⟩, [], rfl, by decide, by decide, rfl, wq_L_83, xw_A, fun z hz => ?_⟩, fun Q q M1 h => ⟨20, h⟩⟩
      cases List.mem_singleton.mp hz
      exact ⟨by decide, "java/lang/IndexOutOfBoundsException", wq_L_90, fun U h => h.2⟩
  · intro as M Q QX h
    unfold ct_L_areas at h
    split at h
    · rename_i a x y
      obtain ⟨rfl, Z, hR, hK, h⟩ := h
      refine ⟨rfl, a, [.int x, .int y], [], kB, rfl, Nat.le_of_ble_eq_true rfl, ⟨30, ⟨rfl, rfl, rfl⟩⟩, ⟨rfl, Z, hR, hK.1, hK.2, fun e M1 r f => ⟨30, hl_n h e r f⟩, fun e => ?_⟩⟩
      rcases oc_areas Z with w | w | w
      · exact absurd w e
      · exact ⟨-100001, by rw [w.1]; exact List.mem_cons_self, hl_t h w (by decide) hR⟩
      · exact ⟨-100002, by rw [w.1]; exact List.mem_cons_of_mem _ List.mem_cons_self, hl_t h w (by decide) hR⟩
    · exact h.elim
def ct_L_gives (B : Nat) : fw_CTX := fun as M Q _ => match as with
  | [.ref a, .int x, .int y, .int z, .int u] => ctH B (opGive x y z u) (-100002) (-100003) a M Q
  | _ => False
theorem oc_gives {x y z u : Int32} (Z : Zs) : ((opGive x y z u) Z).1 = 0 ∨ (((opGive x y z u) Z).1 = 1 ∧ ((opGive x y z u) Z).2.2 = Z) ∨ (((opGive x y z u) Z).1 = 2 ∧ ((opGive x y z u) Z).2.2 = Z) := by
  unfold opGive
  split <;> (try split) <;> first | exact Or.inl rfl | exact Or.inr (Or.inl ⟨rfl, rfl⟩) | exact Or.inr (Or.inr ⟨rfl, rfl⟩)
abbrev rm_L_gives : Room := { frames := 7, cells := 1, slots := 6, locals := 172 }
theorem me_L_gives (l : Launch) (g : fw_G) (B : Nat) (htr : l.stackTraces = false) : fw_MetH l g B yL_gives cL_gives 6 (some .int) hL_gives rm_L_gives 1 6 (ct_L_gives B) := by
  refine fw_metH (own := RL) (ix := 92) (n := 4) (p0 := 6) (es := [("java/lang/IllegalArgumentException", -100002), ("java/lang/IllegalStateException", -100003)]) (by decide +kernel) rfl kL_gives_ok kL_gives_cst (me_X5_give l g B htr) wl_L_92 wi_X5_give wv_X5_give wz_RX5 wc_X5_give rfl rfl (by decide +kernel) (by decide) (by decide +kernel) ?_ ?_
  · intro E k hk
    simp only [List.mem_cons, List.not_mem_nil, or_false, Prod.mk.injEq] at hk
    rcases hk with ⟨rfl, rfl⟩ | ⟨rfl, rfl⟩
    · exact ⟨10, ⟨[], ⟨0, 9, 10, 83⟩, [⟨0, 9, 15, 85⟩], rfl, by decide, by decide, rfl, wq_L_83, xw_A, fun z hz => nomatch hz⟩, fun Q q M1 h => ⟨20, h⟩⟩
    · refine ⟨15, ⟨[⟨0, 9, 10, 83⟩], ⟨0, 9, 15, 85⟩, [], rfl, by decide, by decide, rfl, wq_L_85, xw_S, fun z hz => ?_⟩, fun Q q M1 h => ⟨20, h⟩⟩
      cases List.mem_singleton.mp hz
      exact ⟨by decide, "java/lang/IllegalArgumentException", wq_L_83, fun U h => h.1⟩
  · intro as M Q QX h
    unfold ct_L_gives at h
    split at h
    · rename_i a x y z u
      obtain ⟨rfl, Z, hR, hK, h⟩ := h
      refine ⟨rfl, a, [.int x, .int y, .int z, .int u], [], kB, rfl, Nat.le_of_ble_eq_true rfl, ⟨30, ⟨rfl, rfl, rfl⟩⟩, ⟨rfl, Z, hR, hK.1, hK.2, fun e M1 r f => ⟨30, hl_n h e r f⟩, fun e => ?_⟩⟩
      rcases oc_gives Z with w | w | w
      · exact absurd w e
      · exact ⟨-100002, by rw [w.1]; exact List.mem_cons_self, hl_t h w (by decide) hR⟩
      · exact ⟨-100003, by rw [w.1]; exact List.mem_cons_of_mem _ List.mem_cons_self, hl_t h w (by decide) hR⟩
    · exact h.elim
def ct_L_graces (B : Nat) : fw_CTX := fun as M Q _ => match as with
  | [.ref a, .int x] => ctH B (opGrace x) (-100002) (0) a M Q
  | _ => False
theorem oc_graces {x : Int32} (Z : Zs) : ((opGrace x) Z).1 = 0 ∨ (((opGrace x) Z).1 = 1 ∧ ((opGrace x) Z).2.2 = Z) := by
  unfold opGrace
  split <;> (try split) <;> first | exact Or.inl rfl | exact Or.inr ⟨rfl, rfl⟩
abbrev rm_L_graces : Room := { frames := 7, cells := 1, slots := 6, locals := 170 }
theorem me_L_graces (l : Launch) (g : fw_G) (B : Nat) (htr : l.stackTraces = false) : fw_MetH l g B yL_graces cL_graces 3 (some .int) hL_graces rm_L_graces 1 6 (ct_L_graces B) := by
  refine fw_metH (own := RL) (ix := 96) (n := 1) (p0 := 2) (es := [("java/lang/IllegalArgumentException", -100002)]) (by decide +kernel) rfl kL_graces_ok kL_graces_cst (me_X5_setGrace l g B htr) wl_L_96 wi_X5_setGrace wv_X5_setGrace wz_RX5 wc_X5_setGrace rfl rfl (by decide +kernel) (by decide) (by decide +kernel) ?_ ?_
  · intro E k hk
    simp only [List.mem_cons, List.not_mem_nil, or_false, Prod.mk.injEq] at hk
    rcases hk with ⟨rfl, rfl⟩
    · exact ⟨6, ⟨[], ⟨0, 5, 6, 83⟩, [], rfl, by decide, by decide, rfl, wq_L_83, xw_A, fun z hz => nomatch hz⟩, fun Q q M1 h => ⟨20, h⟩⟩
  · intro as M Q QX h
    unfold ct_L_graces at h
    split at h
    · rename_i a x
      obtain ⟨rfl, Z, hR, hK, h⟩ := h
      refine ⟨rfl, a, [.int x], [], kB, rfl, Nat.le_of_ble_eq_true rfl, ⟨30, ⟨rfl, rfl, rfl⟩⟩, ⟨rfl, Z, hR, hK.1, hK.2, fun e M1 r f => ⟨30, hl_n h e r f⟩, fun e => ?_⟩⟩
      rcases oc_graces Z with w | w
      · exact absurd w e
      · exact ⟨-100002, by rw [w.1]; exact List.mem_cons_self, hl_t h w (by decide) hR⟩
    · exact h.elim
def ct_L_dropsOf (B : Nat) : fw_CTX := fun as M Q _ => match as with
  | [.ref a, .int x] => ctH B (opDrop x) (-100001) (0) a M Q
  | _ => False
theorem oc_dropsOf {x : Int32} (Z : Zs) : ((opDrop x) Z).1 = 0 ∨ (((opDrop x) Z).1 = 1 ∧ ((opDrop x) Z).2.2 = Z) := by
  unfold opDrop
  split <;> (try split) <;> first | exact Or.inl rfl | exact Or.inr ⟨rfl, rfl⟩
abbrev rm_L_dropsOf : Room := { frames := 7, cells := 1, slots := 6, locals := 171 }
theorem me_L_dropsOf (l : Launch) (g : fw_G) (B : Nat) (htr : l.stackTraces = false) : fw_MetH l g B yL_dropsOf cL_dropsOf 3 (some .int) hL_dropsOf rm_L_dropsOf 1 6 (ct_L_dropsOf B) := by
  refine fw_metH (own := RL) (ix := 99) (n := 1) (p0 := 2) (es := [("java/lang/IndexOutOfBoundsException", -100001)]) (by decide +kernel) rfl kL_dropsOf_ok kL_dropsOf_cst (me_X5_drop l g B htr) wl_L_99 wi_X5_drop wv_X5_drop wz_RX5 wc_X5_drop rfl rfl (by decide +kernel) (by decide) (by decide +kernel) ?_ ?_
  · intro E k hk
    simp only [List.mem_cons, List.not_mem_nil, or_false, Prod.mk.injEq] at hk
    rcases hk with ⟨rfl, rfl⟩
    · exact ⟨6, ⟨[], ⟨0, 5, 6, 90⟩, [], rfl, by decide, by decide, rfl, wq_L_90, xw_I, fun z hz => nomatch hz⟩, fun Q q M1 h => ⟨20, h⟩⟩
  · intro as M Q QX h
    unfold ct_L_dropsOf at h
    split at h
    · rename_i a x
      obtain ⟨rfl, Z, hR, hK, h⟩ := h
      refine ⟨rfl, a, [.int x], [], kB, rfl, Nat.le_of_ble_eq_true rfl, ⟨30, ⟨rfl, rfl, rfl⟩⟩, ⟨rfl, Z, hR, hK.1, hK.2, fun e M1 r f => ⟨30, hl_n h e r f⟩, fun e => ?_⟩⟩
      rcases oc_dropsOf Z with w | w
      · exact absurd w e
      · exact ⟨-100001, by rw [w.1]; exact List.mem_cons_self, hl_t h w (by decide) hR⟩
    · exact h.elim
def ct_L_runs (B : Nat) : fw_CTX := fun as M Q _ => match as with
  | [.ref a, .int x] => ctH B (opRun x) (-100002) (-100003) a M Q
  | _ => False
theorem oc_runs {x : Int32} (Z : Zs) : ((opRun x) Z).1 = 0 ∨ (((opRun x) Z).1 = 1 ∧ ((opRun x) Z).2.2 = Z) ∨ (((opRun x) Z).1 = 2 ∧ ((opRun x) Z).2.2 = Z) := by
  unfold opRun
  split <;> (try split) <;> first | exact Or.inl rfl | exact Or.inr (Or.inl ⟨rfl, rfl⟩) | exact Or.inr (Or.inr ⟨rfl, rfl⟩)
abbrev rm_L_runs : Room := { frames := 7, cells := 1, slots := 6, locals := 170 }
theorem me_L_runs (l : Launch) (g : fw_G) (B : Nat) (htr : l.stackTraces = false) : fw_MetH l g B yL_runs cL_runs 3 (some .int) hL_runs rm_L_runs 1 6 (ct_L_runs B) := by
  refine fw_metH (own := RL) (ix := 102) (n := 1) (p0 := 2) (es := [("java/lang/IllegalArgumentException", -100002), ("java/lang/IllegalStateException", -100003)]) (by decide +kernel) rfl kL_runs_ok kL_runs_cst (me_X5_run l g B htr) wl_L_102 wi_X5_run wv_X5_run wz_RX5 wc_X5_run rfl rfl (by decide +kernel) (by decide) (by decide +kernel) ?_ ?_
  · intro E k hk
    simp only [List.mem_cons, List.not_mem_nil, or_false, Prod.mk.injEq] at hk
    rcases hk with ⟨rfl, rfl⟩ | ⟨rfl, rfl⟩
    · exact ⟨6, ⟨[], ⟨0, 5, 6, 83⟩, [⟨0, 5, 10, 85⟩], rfl, by decide, by decide, rfl, wq_L_83, xw_A, fun z hz => nomatch hz⟩, fun Q q M1 h => ⟨20, h⟩⟩
    · refine ⟨10, ⟨[⟨0, 5, 6, 83⟩], ⟨0, 5, 10, 85⟩, [], rfl, by decide, by decide, rfl, wq_L_85, xw_S, fun z hz => ?_⟩, fun Q q M1 h => ⟨20, h⟩⟩
      cases List.mem_singleton.mp hz
      exact ⟨by decide, "java/lang/IllegalArgumentException", wq_L_83, fun U h => h.1⟩
  · intro as M Q QX h
    unfold ct_L_runs at h
    split at h
    · rename_i a x
      obtain ⟨rfl, Z, hR, hK, h⟩ := h
      refine ⟨rfl, a, [.int x], [], kB, rfl, Nat.le_of_ble_eq_true rfl, ⟨30, ⟨rfl, rfl, rfl⟩⟩, ⟨rfl, Z, hR, hK.1, hK.2, fun e M1 r f => ⟨30, hl_n h e r f⟩, fun e => ?_⟩⟩
      rcases oc_runs Z with w | w | w
      · exact absurd w e
      · exact ⟨-100002, by rw [w.1]; exact List.mem_cons_self, hl_t h w (by decide) hR⟩
      · exact ⟨-100003, by rw [w.1]; exact List.mem_cons_of_mem _ List.mem_cons_self, hl_t h w (by decide) hR⟩
    · exact h.elim
def ct_L_valueOf (B : Nat) : fw_CTX := fun as M Q _ => match as with
  | [.ref a, .int x] => ctH B (opValue x) (-100002) (0) a M Q
  | _ => False
theorem oc_valueOf {x : Int32} (Z : Zs) : ((opValue x) Z).1 = 0 ∨ (((opValue x) Z).1 = 1 ∧ ((opValue x) Z).2.2 = Z) := by
  unfold opValue
  split <;> (try split) <;> first | exact Or.inl rfl | exact Or.inr ⟨rfl, rfl⟩
abbrev rm_L_valueOf : Room := { frames := 7, cells := 1, slots := 6, locals := 102 }
theorem me_L_valueOf (l : Launch) (g : fw_G) (B : Nat) (htr : l.stackTraces = false) : fw_MetH l g B yL_valueOf cL_valueOf 3 (some .int) hL_valueOf rm_L_valueOf 1 6 (ct_L_valueOf B) := by
  refine fw_metH (own := RL) (ix := 105) (n := 1) (p0 := 2) (es := [("java/lang/IllegalArgumentException", -100002)]) (by decide +kernel) rfl kL_valueOf_ok kL_valueOf_cst (me_X5_value l g B htr) wl_L_105 wi_X5_value wv_X5_value wz_RX5 wc_X5_value rfl rfl (by decide +kernel) (by decide) (by decide +kernel) ?_ ?_
  · intro E k hk
    simp only [List.mem_cons, List.not_mem_nil, or_false, Prod.mk.injEq] at hk
    rcases hk with ⟨rfl, rfl⟩
    · exact ⟨6, ⟨[], ⟨0, 5, 6, 83⟩, [], rfl, by decide, by decide, rfl, wq_L_83, xw_A, fun z hz => nomatch hz⟩, fun Q q M1 h => ⟨20, h⟩⟩
  · intro as M Q QX h
    unfold ct_L_valueOf at h
    split at h
    · rename_i a x
      obtain ⟨rfl, Z, hR, hK, h⟩ := h
      refine ⟨rfl, a, [.int x], [], kB, rfl, Nat.le_of_ble_eq_true rfl, ⟨30, ⟨rfl, rfl, rfl⟩⟩, ⟨rfl, Z, hR, hK.1, hK.2, fun e M1 r f => ⟨30, hl_n h e r f⟩, fun e => ?_⟩⟩
      rcases oc_valueOf Z with w | w
      · exact absurd w e
      · exact ⟨-100002, by rw [w.1]; exact List.mem_cons_self, hl_t h w (by decide) hR⟩
    · exact h.elim
def ct_L_courierOf (B : Nat) : fw_CTX := fun as M Q _ => match as with
  | [.ref a, .int x, .int y] => ctH B (opCourier x y) (-100001) (-100002) a M Q
  | _ => False
theorem oc_courierOf {x y : Int32} (Z : Zs) : ((opCourier x y) Z).1 = 0 ∨ (((opCourier x y) Z).1 = 1 ∧ ((opCourier x y) Z).2.2 = Z) ∨ (((opCourier x y) Z).1 = 2 ∧ ((opCourier x y) Z).2.2 = Z) := by
  unfold opCourier
  split <;> (try split) <;> first | exact Or.inl rfl | exact Or.inr (Or.inl ⟨rfl, rfl⟩) | exact Or.inr (Or.inr ⟨rfl, rfl⟩)
abbrev rm_L_courierOf : Room := { frames := 7, cells := 1, slots := 6, locals := 112 }
theorem me_L_courierOf (l : Launch) (g : fw_G) (B : Nat) (htr : l.stackTraces = false) : fw_MetH l g B yL_courierOf cL_courierOf 4 (some .int) hL_courierOf rm_L_courierOf 1 6 (ct_L_courierOf B) := by
  refine fw_metH (own := RL) (ix := 108) (n := 2) (p0 := 3) (es := [("java/lang/IndexOutOfBoundsException", -100001), ("java/lang/IllegalArgumentException", -100002)]) (by decide +kernel) rfl kL_courierOf_ok kL_courierOf_cst (me_X5_courier l g B htr) wl_L_108 wi_X5_courier wv_X5_courier wz_RX5 wc_X5_courier rfl rfl (by decide +kernel) (by decide) (by decide +kernel) ?_ ?_
  · intro E k hk
    simp only [List.mem_cons, List.not_mem_nil, or_false, Prod.mk.injEq] at hk
    rcases hk with ⟨rfl, rfl⟩ | ⟨rfl, rfl⟩
    · exact ⟨7, ⟨[], ⟨0, 6, 7, 90⟩, [⟨0, 6, 11, 83⟩], rfl, by decide, by decide, rfl, wq_L_90, xw_I, fun z hz => nomatch hz⟩, fun Q q M1 h => ⟨20, h⟩⟩
    · refine ⟨11, ⟨[⟨0, 6, 7, 90⟩], ⟨0, 6, 11, 83⟩, [], rfl, by decide, by decide, rfl, wq_L_83, xw_A, fun z hz => ?_⟩, fun Q q M1 h => ⟨20, h⟩⟩
      cases List.mem_singleton.mp hz
      exact ⟨by decide, "java/lang/IndexOutOfBoundsException", wq_L_90, fun U h => h.2⟩
  · intro as M Q QX h
    unfold ct_L_courierOf at h
    split at h
    · rename_i a x y
      obtain ⟨rfl, Z, hR, hK, h⟩ := h
      refine ⟨rfl, a, [.int x, .int y], [], kB, rfl, Nat.le_of_ble_eq_true rfl, ⟨30, ⟨rfl, rfl, rfl⟩⟩, ⟨rfl, Z, hR, hK.1, hK.2, fun e M1 r f => ⟨30, hl_n h e r f⟩, fun e => ?_⟩⟩
      rcases oc_courierOf Z with w | w | w
      · exact absurd w e
      · exact ⟨-100001, by rw [w.1]; exact List.mem_cons_self, hl_t h w (by decide) hR⟩
      · exact ⟨-100002, by rw [w.1]; exact List.mem_cons_of_mem _ List.mem_cons_self, hl_t h w (by decide) hR⟩
    · exact h.elim
def ct_L_parcelOf (B : Nat) : fw_CTX := fun as M Q _ => match as with
  | [.ref a, .int x, .int y] => ctH B (opParcel x y) (-100001) (-100002) a M Q
  | _ => False
theorem oc_parcelOf {x y : Int32} (Z : Zs) : ((opParcel x y) Z).1 = 0 ∨ (((opParcel x y) Z).1 = 1 ∧ ((opParcel x y) Z).2.2 = Z) ∨ (((opParcel x y) Z).1 = 2 ∧ ((opParcel x y) Z).2.2 = Z) := by
  unfold opParcel
  split <;> (try split) <;> first | exact Or.inl rfl | exact Or.inr (Or.inl ⟨rfl, rfl⟩) | exact Or.inr (Or.inr ⟨rfl, rfl⟩)
abbrev rm_L_parcelOf : Room := { frames := 7, cells := 1, slots := 6, locals := 104 }
theorem me_L_parcelOf (l : Launch) (g : fw_G) (B : Nat) (htr : l.stackTraces = false) : fw_MetH l g B yL_parcelOf cL_parcelOf 4 (some .int) hL_parcelOf rm_L_parcelOf 1 6 (ct_L_parcelOf B) := by
  refine fw_metH (own := RL) (ix := 111) (n := 2) (p0 := 3) (es := [("java/lang/IndexOutOfBoundsException", -100001), ("java/lang/IllegalArgumentException", -100002)]) (by decide +kernel) rfl kL_parcelOf_ok kL_parcelOf_cst (me_X5_parcel l g B htr) wl_L_111 wi_X5_parcel wv_X5_parcel wz_RX5 wc_X5_parcel rfl rfl (by decide +kernel) (by decide) (by decide +kernel) ?_ ?_
  · intro E k hk
    simp only [List.mem_cons, List.not_mem_nil, or_false, Prod.mk.injEq] at hk
    rcases hk with ⟨rfl, rfl⟩ | ⟨rfl, rfl⟩
    · exact ⟨7, ⟨[], ⟨0, 6, 7, 90⟩, [⟨0, 6, 11, 83⟩], rfl, by decide, by decide, rfl, wq_L_90, xw_I, fun z hz => nomatch hz⟩, fun Q q M1 h => ⟨20, h⟩⟩
    · refine ⟨11, ⟨[⟨0, 6, 7, 90⟩], ⟨0, 6, 11, 83⟩, [], rfl, by decide, by decide, rfl, wq_L_83, xw_A, fun z hz => ?_⟩, fun Q q M1 h => ⟨20, h⟩⟩
      cases List.mem_singleton.mp hz
      exact ⟨by decide, "java/lang/IndexOutOfBoundsException", wq_L_90, fun U h => h.2⟩
  · intro as M Q QX h
    unfold ct_L_parcelOf at h
    split at h
    · rename_i a x y
      obtain ⟨rfl, Z, hR, hK, h⟩ := h
      refine ⟨rfl, a, [.int x, .int y], [], kB, rfl, Nat.le_of_ble_eq_true rfl, ⟨30, ⟨rfl, rfl, rfl⟩⟩, ⟨rfl, Z, hR, hK.1, hK.2, fun e M1 r f => ⟨30, hl_n h e r f⟩, fun e => ?_⟩⟩
      rcases oc_parcelOf Z with w | w | w
      · exact absurd w e
      · exact ⟨-100001, by rw [w.1]; exact List.mem_cons_self, hl_t h w (by decide) hR⟩
      · exact ⟨-100002, by rw [w.1]; exact List.mem_cons_of_mem _ List.mem_cons_self, hl_t h w (by decide) hR⟩
    · exact h.elim
def ct_L_legsOf (B : Nat) : fw_CTX := fun as M Q _ => match as with
  | [.ref a, .int x, .int y, .int z] => ctH B (opLegs x y z) (-100001) (0) a M Q
  | _ => False
theorem oc_legsOf {x y z : Int32} (Z : Zs) : ((opLegs x y z) Z).1 = 0 ∨ (((opLegs x y z) Z).1 = 1 ∧ ((opLegs x y z) Z).2.2 = Z) := by
  unfold opLegs
  split <;> (try split) <;> first | exact Or.inl rfl | exact Or.inr ⟨rfl, rfl⟩
abbrev rm_L_legsOf : Room := { frames := 7, cells := 1, slots := 6, locals := 105 }
theorem me_L_legsOf (l : Launch) (g : fw_G) (B : Nat) (htr : l.stackTraces = false) : fw_MetH l g B yL_legsOf cL_legsOf 5 (some .int) hL_legsOf rm_L_legsOf 1 6 (ct_L_legsOf B) := by
  refine fw_metH (own := RL) (ix := 114) (n := 3) (p0 := 4) (es := [("java/lang/IndexOutOfBoundsException", -100001)]) (by decide +kernel) rfl kL_legsOf_ok kL_legsOf_cst (me_X5_legs l g B htr) wl_L_114 wi_X5_legs wv_X5_legs wz_RX5 wc_X5_legs rfl rfl (by decide +kernel) (by decide) (by decide +kernel) ?_ ?_
  · intro E k hk
    simp only [List.mem_cons, List.not_mem_nil, or_false, Prod.mk.injEq] at hk
    rcases hk with ⟨rfl, rfl⟩
    · exact ⟨8, ⟨[], ⟨0, 7, 8, 90⟩, [], rfl, by decide, by decide, rfl, wq_L_90, xw_I, fun z hz => nomatch hz⟩, fun Q q M1 h => ⟨20, h⟩⟩
  · intro as M Q QX h
    unfold ct_L_legsOf at h
    split at h
    · rename_i a x y z
      obtain ⟨rfl, Z, hR, hK, h⟩ := h
      refine ⟨rfl, a, [.int x, .int y, .int z], [], kB, rfl, Nat.le_of_ble_eq_true rfl, ⟨30, ⟨rfl, rfl, rfl⟩⟩, ⟨rfl, Z, hR, hK.1, hK.2, fun e M1 r f => ⟨30, hl_n h e r f⟩, fun e => ?_⟩⟩
      rcases oc_legsOf Z with w | w
      · exact absurd w e
      · exact ⟨-100001, by rw [w.1]; exact List.mem_cons_self, hl_t h w (by decide) hR⟩
    · exact h.elim
def ct_L_farOf (B : Nat) : fw_CTX := fun as M Q _ => match as with
  | [.ref a, .int x, .int y] => ctH B (opDist x y) (-100001) (0) a M Q
  | _ => False
theorem oc_farOf {x y : Int32} (Z : Zs) : ((opDist x y) Z).1 = 0 ∨ (((opDist x y) Z).1 = 1 ∧ ((opDist x y) Z).2.2 = Z) := by
  unfold opDist
  split <;> (try split) <;> first | exact Or.inl rfl | exact Or.inr ⟨rfl, rfl⟩
abbrev rm_L_farOf : Room := { frames := 7, cells := 1, slots := 6, locals := 103 }
theorem me_L_farOf (l : Launch) (g : fw_G) (B : Nat) (htr : l.stackTraces = false) : fw_MetH l g B yL_farOf cL_farOf 4 (some .int) hL_farOf rm_L_farOf 1 6 (ct_L_farOf B) := by
  refine fw_metH (own := RL) (ix := 118) (n := 2) (p0 := 3) (es := [("java/lang/IndexOutOfBoundsException", -100001)]) (by decide +kernel) rfl kL_farOf_ok kL_farOf_cst (me_X5_distance l g B htr) wl_L_118 wi_X5_distance wv_X5_distance wz_RX5 wc_X5_distance rfl rfl (by decide +kernel) (by decide) (by decide +kernel) ?_ ?_
  · intro E k hk
    simp only [List.mem_cons, List.not_mem_nil, or_false, Prod.mk.injEq] at hk
    rcases hk with ⟨rfl, rfl⟩
    · exact ⟨7, ⟨[], ⟨0, 6, 7, 90⟩, [], rfl, by decide, by decide, rfl, wq_L_90, xw_I, fun z hz => nomatch hz⟩, fun Q q M1 h => ⟨20, h⟩⟩
  · intro as M Q QX h
    unfold ct_L_farOf at h
    split at h
    · rename_i a x y
      obtain ⟨rfl, Z, hR, hK, h⟩ := h
      refine ⟨rfl, a, [.int x, .int y], [], kB, rfl, Nat.le_of_ble_eq_true rfl, ⟨30, ⟨rfl, rfl, rfl⟩⟩, ⟨rfl, Z, hR, hK.1, hK.2, fun e M1 r f => ⟨30, hl_n h e r f⟩, fun e => ?_⟩⟩
      rcases oc_farOf Z with w | w
      · exact absurd w e
      · exact ⟨-100001, by rw [w.1]; exact List.mem_cons_self, hl_t h w (by decide) hR⟩
    · exact h.elim
end HL
end

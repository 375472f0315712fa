/-! THE LAW: its calls, its end, its loop -/
section LS
def fw_CalL (l : Launch) (g : fw_G) (B : Nat) (own : String) (R : Room) (C0 S0 : Nat) (q : fw_Cal) : Prop :=
  ∀ (p : Program) (e : Env) (s : State) (m : MethodId) (args : Array Value) (below : List Frame) (meth : Method) (c : Code) (cc : ByteArray) (nL : Nat) (Qs : State → Prop), fw_Env p s m args c cc nL g own → fw_Amb g B s s.heap → fw_NC s → fw_CallOK p l e R s m args below meth c cc nL B g (fun n => C0 + n) (fun n => S0 + 6 * n) Qs q
theorem fw_lawV {l : Launch} {g : fw_G} {B : Nat} {own : String} {R : Room} {C0 S0 : Nat} {y : MethodName} {cc1 : ByteArray} {nL1 : Nat} {rt1 : Option FieldType} {rm1 : Room} {ct : fw_CTX} {ix ci n : Nat} (hM : fw_Met l g B y cc1 nL1 rt1 rm1 0 0 ct) (hci : ci < 7)
    (w1 : Cond.methodLink own ix y ∈ fw_LW) (w2 : Cond.instanceMethod y ∈ fw_LW) (w3 : Cond.selects (fw_cl ci).1 y y ∈ fw_LW) (w4 : Cond.initialized (fw_cl ci).1 ∈ fw_LW) (w5 : Cond.code y cc1 nL1 rt1 ∈ fw_LW) (hrc : rm1.cells = 0) (hrs : rm1.slots = 0)
    (hd : y.cls = (fw_cl ci).1 ∧ y.cls ≠ "java/lang/invoke/MethodHandle" ∧ y.cls ≠ "java/lang/invoke/VarHandle" ∧ (parseMethodDescriptor y.desc).map (fun d => d.parameters.length) = some n) (hR : rm1.frames + 1 ≤ R.frames ∧ 8 + (nL1 + 11) + rm1.locals ≤ R.locals) (hroom : C0 + 2601 ≤ R.cells ∧ S0 + 15606 ≤ R.slots) :
    fw_CalL l g B own R C0 S0 (ix, 0, ci, n + 1, 1, fun as M Q => M.2.2 ≤ 2600 ∧ ct as M Q (fun _ _ => False)) := by
  intro p e s m args below meth c cc nL Qs E hAmb hNC pc as rest M ls Qr hk hlen hrest hct hq H locs la hP hS hl
  obtain ⟨hcnt, hct⟩ := hct
  have hcnt : M.2.2 ≤ 2600 := hcnt
  obtain ⟨hx, hb, hml, hown, hts, hK⟩ := E
  rcases hk with ⟨-, hdg, b, as', rfl, hkd⟩ | ⟨h0, -⟩
  · have hkd : fw_kd B b = ci := hkd
    obtain ⟨o, ho, rfl, hko⟩ := fw_kd_at hkd (by omega)
    have hG : GoodIn fw_LW (wsV own ix (fw_cl ci).1 y (fw_ws y cc1 nL1 rt1)) := fw_goodIn (by
      intro w hw
      rcases List.mem_append.mp hw with hw | hw
      · simp only [List.mem_cons, List.not_mem_nil, or_false] at hw
        rcases hw with rfl | rfl | rfl | rfl
        · exact w1
        · exact w2
        · exact w3
        · exact w4
      · rcases List.mem_cons.mp hw with rfl | hw
        · exact w5
        · exact hw)
    have hrecv := va_recv (D := g.1) (cl := vwCl) (tys := fw_tys g) hK hP (ci := ci) (q0 := o) (fw_cl_get ci hci) (by rw [fw_WL_get ho, fw_ct_obj hko hci])
    refine fw_callX (mc := 0) (ms := 0) (vx_runV (C := (fw_cl ci).1) (As := as') (rest := rest) ⟨hx, hb, hml, hown, hts⟩ (hM _ M Qr (fun _ _ => False) hct) (cwV n hts hG rfl hrc hrs hd hR) ⟨fw_Pc_blind, hrecv, fun U hU hW => fw_Pc_at hAmb hP hS hU hW⟩ rfl ?_ hl.1 ?_ (lv_room hrest) hdg ⟨by show C0 + M.2.2 + 0 ≤ R.cells; omega, by show S0 + 6 * M.2.2 + 0 ≤ R.slots; omega⟩) hS ?_
    · exact Nat.succ.inj hlen
    · simp
    · intro r M' H1 locs1 hqr hP1 hS1
      exact W.widen (k := C0 + (M.2.2 + 1)) (n := S0 + 6 * (M.2.2 + 1)) (by show C0 + M.2.2 + 0 ≤ C0 + (M.2.2 + 1); omega) (by show S0 + 6 * M.2.2 + 0 ≤ S0 + 6 * (M.2.2 + 1); omega) (hq r M' hqr H1 locs1 la hP1 hS1 hl)
  · cases h0
theorem fw_NC.warm {s U : State} (h : fw_NC s) (hvm : s.vm.Alike U.vm) : fw_NC U := ⟨va_Nc.moved hvm h.1, va_Nc.moved hvm h.2⟩
theorem fw_lawS {l : Launch} {g : fw_G} {B : Nat} {own : String} {R : Room} {C0 S0 : Nat} {y : MethodName} {cc1 : ByteArray} {nL1 : Nat} {rt1 : Option FieldType} {hh : List (Nat × Nat × Nat × Nat)} {rm1 : Room} {ct : fw_CTX} {ix ci n : Nat} (hM : fw_MetH l g B y cc1 nL1 rt1 hh rm1 1 6 ct)
    (w1 : Cond.methodLink own ix y ∈ fw_LW) (w2 : Cond.static y ∈ fw_LW) (w4 : Cond.initialized y.cls ∈ fw_LW) (w5 : Cond.codeWith y cc1 nL1 rt1 hh ∈ fw_LW) (hrc : rm1.cells = 1) (hrs : rm1.slots = 6)
    (hd : y.cls ≠ "java/lang/invoke/MethodHandle" ∧ y.cls ≠ "java/lang/invoke/VarHandle" ∧ (parseMethodDescriptor y.desc).map (fun d => d.parameters.length) = some n) (hR : rm1.frames + 1 ≤ R.frames ∧ 8 + (nL1 + 11) + rm1.locals ≤ R.locals) (hroom : C0 + 2601 ≤ R.cells ∧ S0 + 15606 ≤ R.slots) :
    fw_CalL l g B own R C0 S0 (ix, 1, ci, n, 1, fun as M Q => M.2.2 ≤ 2600 ∧ ct as M Q (fun _ _ => False)) := by
  intro p e s m args below meth c cc nL Qs E hAmb hNC pc as rest M ls Qr hk hlen hrest hct hq H locs la hP hS hl
  obtain ⟨hcnt, hct⟩ := hct
  have hcnt : M.2.2 ≤ 2600 := hcnt
  obtain ⟨hx, hb, hml, hown, hts, hK⟩ := E
  rcases hk with ⟨h0, -⟩ | ⟨-, hdg⟩
  · cases h0
  · have hG : GoodIn fw_LW (va_wsS own ix y (fw_wsH y cc1 nL1 rt1 hh)) := fw_goodIn (by
      intro w hw
      rcases List.mem_append.mp hw with hw | hw
      · simp only [List.mem_cons, List.not_mem_nil, or_false] at hw
        rcases hw with rfl | rfl | rfl
        · exact w1
        · exact w2
        · exact w4
      · rcases List.mem_cons.mp hw with rfl | hw
        · exact w5
        · exact hw)
    refine fw_callX (mc := 1) (ms := 6) (vx_runSX (As := as) (rest := rest) (hh := hh) ⟨hx, hb, hml, hown, hts⟩ (hM _ M Qr (fun _ _ => False) hct) (vx_cwSW n hts hG rfl hrc hrs hd hR) ⟨fun a U gg mk q => ⟨fw_Pc_blind a U gg mk q.1, fw_NC.warm (U := U.calling gg mk a) q.2 (Vm.Alike.refl U.vm)⟩, fun U hU hW => ⟨fw_Pc_at hAmb hP hS hU hW, hNC.warm hW.alike⟩⟩ rfl hlen hl.1 rfl (lv_room hrest) hdg ⟨by show C0 + M.2.2 + 1 ≤ R.cells; omega, by show S0 + 6 * M.2.2 + 6 ≤ R.slots; omega⟩) hS ?_
    intro r M' H1 locs1 hqr hP1 hS1
    exact W.widen (k := C0 + (M.2.2 + 1)) (n := S0 + 6 * (M.2.2 + 1)) (by show C0 + M.2.2 + 1 ≤ C0 + (M.2.2 + 1); omega) (by show S0 + 6 * M.2.2 + 6 ≤ S0 + 6 * (M.2.2 + 1); omega) (hq r M' hqr H1 locs1 la hP1 hS1 hl)
theorem wz_RLq : Cond.initialized RL ∈ fw_LW := fw_t1 0 (by decide +kernel) (by decide +kernel)
theorem law_cal (l : Launch) (g : fw_G) (B : Nat) (htr : l.stackTraces = false) : ∀ q ∈ cal_law B, fw_CalL l g B RL room_1 499 7625 q := by
  intro q hq
  simp only [cal_law, List.mem_cons, List.not_mem_nil, or_false] at hq
  rcases hq with rfl | rfl | rfl | rfl | rfl | rfl | rfl | rfl | rfl | rfl | rfl | rfl | rfl | rfl | rfl | rfl | rfl | rfl | rfl | rfl | rfl | rfl | rfl | rfl | rfl | rfl | rfl | rfl | rfl | rfl | rfl | rfl | rfl | rfl | rfl | rfl | rfl | rfl | rfl | rfl | rfl | rfl | rfl | rfl | rfl | rfl | rfl
  · exact fw_lawS (me_L_addCourier l g B htr) wl_L_78 ws_L_addCourier wz_RLq wc_L_addCourier rfl rfl (by decide +kernel) ⟨by decide, by decide⟩ ⟨by decide, by decide⟩
  · exact fw_lawV (ci := 6) (me_X6_addCourier l g B) (by decide) wl_L_83 wi_X6_addCourier wv_X6_addCourier wz_RX6 wc_X6_addCourier rfl rfl (by decide +kernel) ⟨by decide, by decide⟩ ⟨by decide, by decide⟩
  · exact fw_lawV (ci := 6) (me_X6_thrown l g B) (by decide) wl_L_84 wi_X6_thrown wv_X6_thrown wz_RX6 wc_X6_thrown rfl rfl (by decide +kernel) ⟨by decide, by decide⟩ ⟨by decide, by decide⟩
  · exact fw_lawS (me_L_setArea l g B htr) wl_L_87 ws_L_setArea wz_RLq wc_L_setArea rfl rfl (by decide +kernel) ⟨by decide, by decide⟩ ⟨by decide, by decide⟩
  · exact fw_lawV (ci := 6) (me_X6_setArea l g B) (by decide) wl_L_89 wi_X6_setArea wv_X6_setArea wz_RX6 wc_X6_setArea rfl rfl (by decide +kernel) ⟨by decide, by decide⟩ ⟨by decide, by decide⟩
  · exact fw_lawS (me_L_give l g B htr) wl_L_90 ws_L_give wz_RLq wc_L_give rfl rfl (by decide +kernel) ⟨by decide, by decide⟩ ⟨by decide, by decide⟩
  · exact fw_lawV (ci := 6) (me_X6_give l g B) (by decide) wl_L_93 wi_X6_give wv_X6_give wz_RX6 wc_X6_give rfl rfl (by decide +kernel) ⟨by decide, by decide⟩ ⟨by decide, by decide⟩
  · exact fw_lawS (me_L_setGrace l g B htr) wl_L_94 ws_L_setGrace wz_RLq wc_L_setGrace rfl rfl (by decide +kernel) ⟨by decide, by decide⟩ ⟨by decide, by decide⟩
  · exact fw_lawV (ci := 6) (me_X6_setGrace l g B) (by decide) wl_L_97 wi_X6_setGrace wv_X6_setGrace wz_RX6 wc_X6_setGrace rfl rfl (by decide +kernel) ⟨by decide, by decide⟩ ⟨by decide, by decide⟩
  · exact fw_lawS (me_L_drop l g B htr) wl_L_98 ws_L_drop wz_RLq wc_L_drop rfl rfl (by decide +kernel) ⟨by decide, by decide⟩ ⟨by decide, by decide⟩
  · exact fw_lawV (ci := 6) (me_X6_drop l g B) (by decide) wl_L_100 wi_X6_drop wv_X6_drop wz_RX6 wc_X6_drop rfl rfl (by decide +kernel) ⟨by decide, by decide⟩ ⟨by decide, by decide⟩
  · exact fw_lawS (me_L_run l g B htr) wl_L_101 ws_L_run wz_RLq wc_L_run rfl rfl (by decide +kernel) ⟨by decide, by decide⟩ ⟨by decide, by decide⟩
  · exact fw_lawV (ci := 6) (me_X6_run l g B) (by decide) wl_L_103 wi_X6_run wv_X6_run wz_RX6 wc_X6_run rfl rfl (by decide +kernel) ⟨by decide, by decide⟩ ⟨by decide, by decide⟩
  · exact fw_lawS (me_L_value l g B htr) wl_L_104 ws_L_value wz_RLq wc_L_value rfl rfl (by decide +kernel) ⟨by decide, by decide⟩ ⟨by decide, by decide⟩
  · exact fw_lawV (ci := 6) (me_X6_value l g B) (by decide) wl_L_106 wi_X6_value wv_X6_value wz_RX6 wc_X6_value rfl rfl (by decide +kernel) ⟨by decide, by decide⟩ ⟨by decide, by decide⟩
  · exact fw_lawS (me_L_courier l g B htr) wl_L_107 ws_L_courier wz_RLq wc_L_courier rfl rfl (by decide +kernel) ⟨by decide, by decide⟩ ⟨by decide, by decide⟩
  · exact fw_lawV (ci := 6) (me_X6_courier l g B) (by decide) wl_L_109 wi_X6_courier wv_X6_courier wz_RX6 wc_X6_courier rfl rfl (by decide +kernel) ⟨by decide, by decide⟩ ⟨by decide, by decide⟩
  · exact fw_lawS (me_L_parcel l g B htr) wl_L_110 ws_L_parcel wz_RLq wc_L_parcel rfl rfl (by decide +kernel) ⟨by decide, by decide⟩ ⟨by decide, by decide⟩
  · exact fw_lawV (ci := 6) (me_X6_parcel l g B) (by decide) wl_L_112 wi_X6_parcel wv_X6_parcel wz_RX6 wc_X6_parcel rfl rfl (by decide +kernel) ⟨by decide, by decide⟩ ⟨by decide, by decide⟩
  · exact fw_lawS (me_L_legs l g B htr) wl_L_113 ws_L_legs wz_RLq wc_L_legs rfl rfl (by decide +kernel) ⟨by decide, by decide⟩ ⟨by decide, by decide⟩
  · exact fw_lawV (ci := 6) (me_X6_legs l g B) (by decide) wl_L_116 wi_X6_legs wv_X6_legs wz_RX6 wc_X6_legs rfl rfl (by decide +kernel) ⟨by decide, by decide⟩ ⟨by decide, by decide⟩
  · exact fw_lawS (me_L_distance l g B htr) wl_L_117 ws_L_distance wz_RLq wc_L_distance rfl rfl (by decide +kernel) ⟨by decide, by decide⟩ ⟨by decide, by decide⟩
  · exact fw_lawV (ci := 6) (me_X6_distance l g B) (by decide) wl_L_119 wi_X6_distance wv_X6_distance wz_RX6 wc_X6_distance rfl rfl (by decide +kernel) ⟨by decide, by decide⟩ ⟨by decide, by decide⟩
  · exact fw_lawS (me_L_suited l g B htr) wl_L_120 ws_L_suited wz_RLq wc_L_suited rfl rfl (by decide +kernel) ⟨by decide, by decide⟩ ⟨by decide, by decide⟩
  · exact fw_lawV (ci := 6) (me_X6_suited l g B) (by decide) wl_L_122 wi_X6_suited wv_X6_suited wz_RX6 wc_X6_suited rfl rfl (by decide +kernel) ⟨by decide, by decide⟩ ⟨by decide, by decide⟩
  · exact fw_lawS (me_L_leastRelay l g B htr) wl_L_123 ws_L_leastRelay wz_RLq wc_L_leastRelay rfl rfl (by decide +kernel) ⟨by decide, by decide⟩ ⟨by decide, by decide⟩
  · exact fw_lawV (ci := 6) (me_X6_leastRelay l g B) (by decide) wl_L_125 wi_X6_leastRelay wv_X6_leastRelay wz_RX6 wc_X6_leastRelay rfl rfl (by decide +kernel) ⟨by decide, by decide⟩ ⟨by decide, by decide⟩
  · exact fw_lawV (ci := 5) (me_X5_punctuality l g B) (by decide) wl_L_126 wi_X5_punctuality wv_X5_punctuality wz_RX5 wc_X5_punctuality rfl rfl (by decide +kernel) ⟨by decide, by decide⟩ ⟨by decide, by decide⟩
  · exact fw_lawV (ci := 6) (me_X6_punctuality l g B) (by decide) wl_L_130 wi_X6_punctuality wv_X6_punctuality wz_RX6 wc_X6_punctuality rfl rfl (by decide +kernel) ⟨by decide, by decide⟩ ⟨by decide, by decide⟩
  · exact fw_lawS (me_L_paidIn l g B htr) wl_L_131 ws_L_paidIn wz_RLq wc_L_paidIn rfl rfl (by decide +kernel) ⟨by decide, by decide⟩ ⟨by decide, by decide⟩
  · exact fw_lawV (ci := 6) (me_X6_paidIn l g B) (by decide) wl_L_133 wi_X6_paidIn wv_X6_paidIn wz_RX6 wc_X6_paidIn rfl rfl (by decide +kernel) ⟨by decide, by decide⟩ ⟨by decide, by decide⟩
  · exact fw_lawS (me_L_bestZone l g B htr) wl_L_134 ws_L_bestZone wz_RLq wc_L_bestZone rfl rfl (by decide +kernel) ⟨by decide, by decide⟩ ⟨by decide, by decide⟩
  · exact fw_lawV (ci := 6) (me_X6_bestZone l g B) (by decide) wl_L_136 wi_X6_bestZone wv_X6_bestZone wz_RX6 wc_X6_bestZone rfl rfl (by decide +kernel) ⟨by decide, by decide⟩ ⟨by decide, by decide⟩
  · exact fw_lawS (me_L_worth l g B htr) wl_L_137 ws_L_worth wz_RLq wc_L_worth rfl rfl (by decide +kernel) ⟨by decide, by decide⟩ ⟨by decide, by decide⟩
  · exact fw_lawV (ci := 6) (me_X6_worth l g B) (by decide) wl_L_139 wi_X6_worth wv_X6_worth wz_RX6 wc_X6_worth rfl rfl (by decide +kernel) ⟨by decide, by decide⟩ ⟨by decide, by decide⟩
  · exact fw_lawV (ci := 5) (me_X5_doneIn l g B) (by decide) wl_L_140 wi_X5_doneIn wv_X5_doneIn wz_RX5 wc_X5_doneIn rfl rfl (by decide +kernel) ⟨by decide, by decide⟩ ⟨by decide, by decide⟩
  · exact fw_lawV (ci := 6) (me_X6_doneIn l g B) (by decide) wl_L_143 wi_X6_doneIn wv_X6_doneIn wz_RX6 wc_X6_doneIn rfl rfl (by decide +kernel) ⟨by decide, by decide⟩ ⟨by decide, by decide⟩
  · exact fw_lawS (me_L_append l g B htr) wl_L_144 ws_L_append wz_RLq wc_L_append rfl rfl (by decide +kernel) ⟨by decide, by decide⟩ ⟨by decide, by decide⟩
  · exact fw_lawV (ci := 6) (me_X6_append l g B) (by decide) wl_L_146 wi_X6_append wv_X6_append wz_RX6 wc_X6_append rfl rfl (by decide +kernel) ⟨by decide, by decide⟩ ⟨by decide, by decide⟩
  · exact fw_lawV (ci := 5) (me_X5_clearText l g B) (by decide) wl_L_147 wi_X5_clearText wv_X5_clearText wz_RX5 wc_X5_clearText rfl rfl (by decide +kernel) ⟨by decide, by decide⟩ ⟨by decide, by decide⟩
  · exact fw_lawV (ci := 6) (me_X6_clearText l g B) (by decide) wl_L_150 wi_X6_clearText wv_X6_clearText wz_RX6 wc_X6_clearText rfl rfl (by decide +kernel) ⟨by decide, by decide⟩ ⟨by decide, by decide⟩
  · exact fw_lawV (ci := 5) (me_X5_parse l g B) (by decide) wl_L_151 wi_X5_parse wv_X5_parse wz_RX5 wc_X5_parse rfl rfl (by decide +kernel) ⟨by decide, by decide⟩ ⟨by decide, by decide⟩
  · exact fw_lawV (ci := 6) (me_X6_parse l g B) (by decide) wl_L_154 wi_X6_parse wv_X6_parse wz_RX6 wc_X6_parse rfl rfl (by decide +kernel) ⟨by decide, by decide⟩ ⟨by decide, by decide⟩
  · exact fw_lawS (me_L_undo l g B htr) wl_L_155 ws_L_undo wz_RLq wc_L_undo rfl rfl (by decide +kernel) ⟨by decide, by decide⟩ ⟨by decide, by decide⟩
  · exact fw_lawV (ci := 6) (me_X6_undo l g B) (by decide) wl_L_158 wi_X6_undo wv_X6_undo wz_RX6 wc_X6_undo rfl rfl (by decide +kernel) ⟨by decide, by decide⟩ ⟨by decide, by decide⟩
  · exact fw_lawV (ci := 5) (me_X5_digest l g B) (by decide) wl_L_159 wi_X5_digest wv_X5_digest wz_RX5 wc_X5_digest rfl rfl (by decide +kernel) ⟨by decide, by decide⟩ ⟨by decide, by decide⟩
  · exact fw_lawV (ci := 6) (me_X6_digest l g B) (by decide) wl_L_163 wi_X6_digest wv_X6_digest wz_RX6 wc_X6_digest rfl rfl (by decide +kernel) ⟨by decide, by decide⟩ ⟨by decide, by decide⟩
theorem law_ret {p : Program} {l : Launch} {e : Env} {s : State} {m : MethodId} {below : List Frame} {meth : Method} {c : Code} {b : Nat} {g : fw_G} (hx : p.tables.exec = Jvm.exec) (hb : c.code = code) (hr : meth.sig.returnType = ret) (hlocks : meth.locks = false) :
    fw_RetOK p l e room_1 s m #[Value.ref b] below meth c code 9 s.heap.size g (fun n => 499 + n) (fun n => 7625 + 6 * n) (lw_Z below #[Value.ref b] s) (some .boolean) lwQ := by
  intro pc ls st M
  refine ⟨?_, ?_, ?_, ?_, ?_⟩
  · intro hd h
    unfold fw_endi at h
    split at h
    · first
      | (rename_i e1; cases e1; done)
      | (rename_i e1 _; cases e1; done)
      | (rename_i e1 _ _; cases e1; done)
      | (rename_i e1 _ _ _; cases e1; done)
    · obtain ⟨-, h1, h2⟩ := h
      cases h1
      intro H locs la hP hS hl
      refine va_forget hS.2.2 (W.widen (k := 601024) (n := 7293034) (by show 499 + M.2.2 ≤ 601024; omega) (by show 7625 + 6 * M.2.2 ≤ 7293034; omega) (W.base ?_))
      exact lw_ret (Drawn.sameBut.refl s.drawn lw_cs) hx hb hr hlocks hd
    · exact h.elim
  · intro hd h
    unfold fw_enda at h
    split at h
    · first
      | (rename_i e1; cases e1; done)
      | (rename_i e1 _; cases e1; done)
      | (rename_i e1 _ _; cases e1; done)
      | (rename_i e1 _ _ _; cases e1; done)
    · first
      | (rename_i e1; cases e1; done)
      | (rename_i e1 _; cases e1; done)
      | (rename_i e1 _ _; cases e1; done)
      | (rename_i e1 _ _ _; cases e1; done)
    · exact h.elim
  · intro hd h
    unfold fw_endl at h
    split at h
    · first
      | (rename_i e1; cases e1; done)
      | (rename_i e1 _; cases e1; done)
      | (rename_i e1 _ _; cases e1; done)
      | (rename_i e1 _ _ _; cases e1; done)
    · exact h.elim
  · intro hd h
    unfold fw_endd at h
    split at h
    · first
      | (rename_i e1; cases e1; done)
      | (rename_i e1 _; cases e1; done)
      | (rename_i e1 _ _; cases e1; done)
      | (rename_i e1 _ _ _; cases e1; done)
    · exact h.elim
  · intro hd h
    unfold fw_endv at h
    split at h
    · first
      | (rename_i e1; cases e1; done)
      | (rename_i e1 _; cases e1; done)
      | (rename_i e1 _ _; cases e1; done)
      | (rename_i e1 _ _ _; cases e1; done)
    · exact h.elim
theorem law_loop {p : Program} {l : Launch} {e : Env} {s : State} {m : MethodId} {below : List Frame} {meth : Method} {c : Code} {b L : Nat} {xs : Nat → Int32} {g : fw_G} (htr : l.stackTraces = false) (hL : L ≤ 2560) (En : fw_Env p s m #[Value.ref b] c code 9 g RL) (hAmb : fw_Amb g s.heap.size s s.heap) (hNC : fw_NC s) (hr : meth.sig.returnType = ret) (hlocks : meth.locks = false) (hX : va_X b L xs s s.heap) (hbl : b < s.heap.size) :
    ∀ n, ∀ q ∈ lwA s.heap.size b L, ∀ ls st M, q.2.2 n ls st M → fw_WW p l e room_1 s m #[Value.ref b] below meth c 9 s.heap.size g (fun n => 499 + n) (fun n => 7625 + 6 * n) (lw_Z below #[Value.ref b] s) q.1 ls st M := by
  intro n
  induction n using Nat.strongRecOn with
  | _ n ih =>
    intro q hq ls st M hi
    obtain ⟨F, hw⟩ := lw_all (xs := xs) hL q hq n ls st M hi
    refine fw_from (scr := some (b, L, xs)) (fld := []) (cal := cal_law s.heap.size) (thr := []) (cst := []) (Q := lwQ) (QX := fun _ _ => False) En kL_law_ok kL_law_cst (fun q hq => nomatch hq) ⟨hX, hbl, by omega⟩ (fun q hq => law_cal l g s.heap.size htr q hq p e s m _ below meth c code 9 _ En hAmb hNC) (fun q hq => nomatch hq) (law_ret En.1 En.2.1 hr hlocks) _ ?_ hw
    intro pc q2 hk ls st M h
    unfold fw_Kn at hk
    cases hf : fw_find pc (lwA s.heap.size b L) with
    | none => rw [hf] at hk; cases hk
    | some q3 =>
      rw [hf] at hk
      cases hk
      obtain ⟨n', hn, h⟩ := h
      exact ih n' hn (pc, q3) (fw_find_mem hf) ls st M h
end LS

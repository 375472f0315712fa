/-! CALLS, THROWS, ENDS, and a method's contract out of its walk -/
section CL
section C1
variable {p : Program} {l : Launch} {e : Env} {R : Room} {s : State} {m : MethodId} {args : Array Value} {below : List Frame} {meth : Method} {c : Code} {Qs : State → Prop} {cc : ByteArray} {nL B : Nat} {g : fw_G} {own : String}
variable {H : Heap} {locs : List Loc} {cells slots mc ms pc : Nat} {la : Array Slot} {rest st0 : List Value} {a : Array Value}
theorem fw_WL_cnt {M : fw_M} {k : Nat} : fw_WL g B (M.1, M.2.1, k) = fw_WL g B M := rfl
theorem fw_callX {Qr : Option Value → fw_M → Prop} (hr : vx_Run p l e R s m args below meth c H locs cells slots mc ms (F0 m pc la st0) rest (fw_Qc g B Qr a) (fw_XC g B (fun _ _ => False)) (fun q => B ≤ q)) (hS : va_S (fun q => B ≤ q) s.heap H locs)
    (kk : ∀ (r : Option Value) (M : fw_M) (H1 : Heap) (locs1 : List Loc), Qr r M → va_P g.1 vwCl (fw_WL g B M) H1 → va_S (fun q => B ≤ q) s.heap H1 locs1 → W p l e R s m args below meth c H1 locs1 (cells + mc) (slots + ms) Qs (F0 m (pc + 3) la (r.toList ++ rest))) : W p l e R s m args below meth c H locs cells slots Qs (F0 m pc la st0) := by
  intro T hT X
  rcases hr T hT X with ⟨v, st₀, t, T', L, h0, X', hL, e1, e2, ⟨⟨r, M, hv, hq, hp⟩, hF⟩, st⟩ | ⟨q, st₀, t, T', L, E, ce, h0, X', hL, e1, e2, ⟨⟨M, hf, -⟩, -⟩, -⟩
  · cases hv
    obtain ⟨k1, k2, k3⟩ := vx_keep h0 e1 hS (fun _ _ h => h) (fun _ h => h) hL hF
    obtain ⟨t2, a1, b1⟩ := kk v M T'.heap (locs ++ L) hq (by rw [e1]; exact hp) k3 T' rfl X'
    exact ⟨t2, st t2 a1, b1⟩
  · exact hf.elim
theorem fw_P_same {D : va_G} {cl : List vw_C} {ws : va_W} {H H1 : Heap} (h : va_P D cl ws H) (hq : ∀ q : Nat, q < H.size → H1[q]? = H[q]?) : va_P D cl ws H1 := by
  intro k q hk
  have hlt := vx_lt h hk
  have h1 := h k q hk
  obtain ⟨a, en⟩ := q
  cases en with
  | inl x =>
    show H1[a]? = _
    rw [hq a hlt]
    exact h1
  | inr o =>
    obtain ⟨r, h2, h3⟩ := h1
    exact ⟨r, h2, h3.kept (hq a hlt)⟩
end C1
theorem fw_goodIn {ws : List Cond} (h : ∀ w ∈ ws, w ∈ fw_LW) : GoodIn fw_LW ws := fun w hw => ⟨h w hw, good_of_word (fw_LW_good (h w hw))⟩
def fw_CalX (l : Launch) (g : fw_G) (B : Nat) (own : String) (R : Room) (q : fw_Cal) : Prop :=
  ∀ (p : Program) (e : Env) (s : State) (m : MethodId) (args : Array Value) (below : List Frame) (meth : Method) (c : Code) (cc : ByteArray) (nL : Nat) (Qs : State → Prop), fw_Env p s m args c cc nL g own → fw_Amb g B s s.heap → fw_CallOK p l e R s m args below meth c cc nL B g (fun _ => 0) (fun _ => 0) Qs q
theorem fw_Pc_at {g : fw_G} {B : Nat} {M : fw_M} {s U : State} {H : Heap} {locs : List Loc} {as : List Value} (hAmb : fw_Amb g B s s.heap) (hP : va_P g.1 vwCl (fw_WL g B M) H) (hS : va_S (fun q => B ≤ q) s.heap H locs) (hU : U.heap = H) (hW : s.WarmedH U.vm) : fw_Pc g B as M as.toArray U :=
  ⟨rfl, by rw [hU]; exact hP, hAmb.warm hW (fun a h1 h2 => by rw [hU]; exact hS.2.1 a h1 h2)⟩
theorem fw_calV {l : Launch} {g : fw_G} {B : Nat} {own : String} {R : Room} {y : MethodName} {cc1 : ByteArray} {nL1 : Nat} {rt1 : Option FieldType} {rm1 : Room} {ct : fw_CTX} {ix ci n : Nat} (hM : fw_Met l g B y cc1 nL1 rt1 rm1 0 0 ct) (hci : ci < 6)
    (w1 : Cond.methodLink own ix y ∈ fw_LW) (w2 : Cond.instanceMethod y ∈ fw_LW) (w3 : Cond.selects (fw_cl ci).1 y y ∈ fw_LW) (w4 : Cond.initialized (fw_cl ci).1 ∈ fw_LW) (w5 : Cond.code y cc1 nL1 rt1 ∈ fw_LW) (hrc : rm1.cells = 0) (hrs : rm1.slots = 0)
    (hd : y.cls = (fw_cl ci).1 ∧ y.cls ≠ "java/lang/invoke/MethodHandle" ∧ y.cls ≠ "java/lang/invoke/VarHandle" ∧ (parseMethodDescriptor y.desc).map (fun d => d.parameters.length) = some n) (hR : rm1.frames + 1 ≤ R.frames ∧ 8 + (nL1 + 11) + rm1.locals ≤ R.locals) :
    fw_CalX l g B own R (ix, 0, ci, n + 1, 0, fun as M Q => ct as M Q (fun _ _ => False)) := by
  intro p e s m args below meth c cc nL Qs E hAmb pc as rest M ls Qr hk hlen hrest hct hq H locs la hP hS hl
  obtain ⟨hx, hb, hml, hown, hts, hK⟩ := E
  rcases hk with ⟨-, hdg, b, as', rfl, hkd⟩ | ⟨h0, -⟩
  · have hkd : fw_kd B b = ci := hkd
    obtain ⟨o, ho, rfl, hko⟩ := fw_kd_at hkd (by omega)
    have hG : GoodIn fw_LW (wsV own ix (fw_cl ci).1 y (fw_ws y cc1 nL1 rt1)) := fw_goodIn (by
      intro w hw
      rcases List.mem_append.mp hw with hw | hw
      · simp only [List.mem_cons, List.not_mem_nil, or_false] at hw
        rcases hw with rfl | rfl | rfl | rfl
        · exact w1
        · exact w2
        · exact w3
        · exact w4
      · rcases List.mem_cons.mp hw with rfl | hw
        · exact w5
        · exact hw)
    have hrecv := va_recv (D := g.1) (cl := vwCl) (tys := fw_tys g) hK hP (ci := ci) (q0 := o) (fw_cl_get ci hci) (by rw [fw_WL_get ho, fw_ct_obj hko hci])
    refine fw_callX (mc := 0) (ms := 0) (vx_runV (C := (fw_cl ci).1) (As := as') (rest := rest) ⟨hx, hb, hml, hown, hts⟩ (hM _ M Qr (fun _ _ => False) hct) (cwV n hts hG rfl hrc hrs hd hR) ⟨fw_Pc_blind, hrecv, fun U hU hW => fw_Pc_at hAmb hP hS hU hW⟩ rfl ?_ hl.1 ?_ (lv_room hrest) hdg ⟨Nat.zero_le _, Nat.zero_le _⟩) hS ?_
    · exact Nat.succ.inj hlen
    · simp
    · intro r M' H1 locs1 hqr hP1 hS1
      exact hq r M' hqr H1 locs1 la hP1 hS1 hl
  · cases h0
theorem fw_calS {l : Launch} {g : fw_G} {B : Nat} {own : String} {R : Room} {y : MethodName} {cc1 : ByteArray} {nL1 : Nat} {rt1 : Option FieldType} {rm1 : Room} {ct : fw_CTX} {ix ci n : Nat} (hM : fw_Met l g B y cc1 nL1 rt1 rm1 0 0 ct)
    (w1 : Cond.methodLink own ix y ∈ fw_LW) (w2 : Cond.static y ∈ fw_LW) (w4 : Cond.initialized own ∈ fw_LW) (w5 : Cond.code y cc1 nL1 rt1 ∈ fw_LW) (hrc : rm1.cells = 0) (hrs : rm1.slots = 0)
    (hd : y.cls = own ∧ y.cls ≠ "java/lang/invoke/MethodHandle" ∧ y.cls ≠ "java/lang/invoke/VarHandle" ∧ (parseMethodDescriptor y.desc).map (fun d => d.parameters.length) = some n) (hR : rm1.frames + 1 ≤ R.frames ∧ 8 + (nL1 + 11) + rm1.locals ≤ R.locals) :
    fw_CalX l g B own R (ix, 1, ci, n, 0, fun as M Q => ct as M Q (fun _ _ => False)) := by
  intro p e s m args below meth c cc nL Qs E hAmb pc as rest M ls Qr hk hlen hrest hct hq H locs la hP hS hl
  obtain ⟨hx, hb, hml, hown, hts, hK⟩ := E
  rcases hk with ⟨h0, -⟩ | ⟨-, hdg⟩
  · cases h0
  · have hG : GoodIn fw_LW (wsS own ix y (fw_ws y cc1 nL1 rt1)) := fw_goodIn (by
      intro w hw
      rcases List.mem_append.mp hw with hw | hw
      · simp only [List.mem_cons, List.not_mem_nil, or_false] at hw
        rcases hw with rfl | rfl | rfl
        · exact w1
        · exact w2
        · exact w4
      · rcases List.mem_cons.mp hw with rfl | hw
        · exact w5
        · exact hw)
    refine fw_callX (mc := 0) (ms := 0) (vx_runS (As := as) (rest := rest) ⟨hx, hb, hml, hown, hts⟩ (hM _ M Qr (fun _ _ => False) hct) (cwS n hts hG rfl hrc hrs hd hR) ⟨fw_Pc_blind, fun U hU hW => fw_Pc_at hAmb hP hS hU hW⟩ rfl hlen hl.1 rfl (lv_room hrest) hdg ⟨Nat.zero_le _, Nat.zero_le _⟩) hS ?_
    intro r M' H1 locs1 hqr hP1 hS1
    exact hq r M' hqr H1 locs1 la hP1 hS1 hl
theorem fw_calSN {l : Launch} {g : fw_G} {B : Nat} {own host : String} {R : Room} {y : MethodName} {cc1 : ByteArray} {nL1 : Nat} {rt1 : Option FieldType} {rm1 : Room} {ct : fw_CTX} {ix ci n : Nat} (hM : fw_Met l g B y cc1 nL1 rt1 rm1 0 0 ct)
    (w1 : Cond.methodLinkNest own ix y host ∈ fw_xw) (w2 : Cond.static y ∈ fw_LW) (w4 : Cond.initialized y.cls ∈ fw_LW) (w5 : Cond.code y cc1 nL1 rt1 ∈ fw_LW) (hrc : rm1.cells = 0) (hrs : rm1.slots = 0)
    (hd : y.cls ≠ "java/lang/invoke/MethodHandle" ∧ y.cls ≠ "java/lang/invoke/VarHandle" ∧ (parseMethodDescriptor y.desc).map (fun d => d.parameters.length) = some n) (hR : rm1.frames + 1 ≤ R.frames ∧ 8 + (nL1 + 11) + rm1.locals ≤ R.locals) :
    fw_CalX l g B own R (ix, 1, ci, n, 0, fun as M Q => ct as M Q (fun _ _ => False)) := by
  intro p e s m args below meth c cc nL Qs E hAmb pc as rest M ls Qr hk hlen hrest hct hq H locs la hP hS hl
  obtain ⟨hx, hb, hml, hown, hts, hK⟩ := E
  rcases hk with ⟨h0, -⟩ | ⟨-, hdg⟩
  · cases h0
  · have hG : GoodIn fw_LW (fw_ws y cc1 nL1 rt1) := fw_goodIn (by
      intro w hw
      rcases List.mem_cons.mp hw with rfl | hw
      · exact w5
      · exact hw)
    refine fw_callX (mc := 0) (ms := 0) (vx_runSN (As := as) (rest := rest) ⟨hx, hb, hml, hown, hts⟩ (hM _ M Qr (fun _ _ => False) hct) ⟨va_cnB n hts hG rfl hrc hrs (hAmb.2.1 _ w1) (hts _ w4) hd hR, hts _ w2, trivial⟩ ⟨fw_Pc_blind, fun U hU hW => fw_Pc_at hAmb hP hS hU hW⟩ rfl hlen hl.1 rfl (lv_room hrest) hdg ⟨Nat.zero_le _, Nat.zero_le _⟩) hS ?_
    intro r M' H1 locs1 hqr hP1 hS1
    exact hq r M' hqr H1 locs1 la hP1 hS1 hl
/-! the JDK's own: Math.abs, Math.min, System.arraycopy of two rows of ints from their heads -/
def fw_ctAbs (as : List Value) (M : fw_M) (Q : Option Value → fw_M → Prop) : Prop := match as with
  | [.int x] => Q (some (.int (if 0 ≤ x then x else 0 - x))) M
  | _ => False
def fw_ctMin (as : List Value) (M : fw_M) (Q : Option Value → fw_M → Prop) : Prop := match as with
  | [.int x, .int y] => Q (some (.int (if y < x then y else x))) M
  | _ => False
def fw_ctCopy (B : Nat) (as : List Value) (M : fw_M) (Q : Option Value → fw_M → Prop) : Prop := match as with
  | [.ref a, .int i, .ref b, .int j, .int n] => fw_kd B a = 7 ∧ fw_kd B b = 7 ∧ i = 0 ∧ j = 0 ∧ ¬ n < 0 ∧ n.toNatClampNeg ≤ fw_len B a ∧ n.toNatClampNeg ≤ fw_len B b ∧ Q none (fw_row M b (va_cpy (M.1 a) (M.1 b) 0 0 n.toNatClampNeg))
  | _ => False
theorem fw_calAbs {l : Launch} {g : fw_G} {B : Nat} {own : String} {R : Room} {ix ci : Nat} (w1 : Cond.methodLink own ix Lib.Math.abs.name ∈ fw_LW) (w2 : Cond.static Lib.Math.abs.name ∈ fw_LW) (w3 : Cond.initialized "java/lang/Math" ∈ fw_LW) (w4 : Cond.code Lib.Math.abs.name Lib.Math.abs.code 1 (some .int) ∈ fw_LW) (hf : 1 ≤ R.frames) (hlo : 21 ≤ R.locals) :
    fw_CalX l g B own R (ix, 1, ci, 1, 0, fw_ctAbs) := by
  intro p e s m args below meth c cc nL Qs E hAmb pc as rest M ls Qr hk hlen hrest hct hq H locs la hP hS hl
  obtain ⟨hx, hb, hml, hown, hts, hK⟩ := E
  rcases hk with ⟨h0, -⟩ | ⟨-, hdg⟩
  · cases h0
  · unfold fw_ctAbs at hct
    dsimp only at hct
    split at hct
    · exact va_mabs (rest := rest) hx hb (by rw [hml, hl.1]) hown (hts _ w1) (hts _ w2) (hts _ w3) (hts _ w4) hf (by omega) (Nat.zero_le _) (Nat.zero_le _) hdg (hq _ _ hct H locs la hP hS hl)
    · exact hct.elim
theorem fw_calMin {l : Launch} {g : fw_G} {B : Nat} {own : String} {R : Room} {ix ci : Nat} (w1 : Cond.methodLink own ix Lib.Math.min.name ∈ fw_LW) (w2 : Cond.static Lib.Math.min.name ∈ fw_LW) (w3 : Cond.initialized "java/lang/Math" ∈ fw_LW) (w4 : Cond.code Lib.Math.min.name Lib.Math.min.code 2 (some .int) ∈ fw_LW) (hf : 1 ≤ R.frames) (hlo : 21 ≤ R.locals) :
    fw_CalX l g B own R (ix, 1, ci, 2, 0, fw_ctMin) := by
  intro p e s m args below meth c cc nL Qs E hAmb pc as rest M ls Qr hk hlen hrest hct hq H locs la hP hS hl
  obtain ⟨hx, hb, hml, hown, hts, hK⟩ := E
  rcases hk with ⟨h0, -⟩ | ⟨-, hdg⟩
  · cases h0
  · unfold fw_ctMin at hct
    dsimp only at hct
    split at hct
    · exact va_mmin (rest := rest) hx hb (by rw [hml, hl.1]) hown (hts _ w1) (hts _ w2) (hts _ w3) (hts _ w4) hf (by omega) (Nat.zero_le _) (Nat.zero_le _) hdg (hq _ _ hct H locs la hP hS hl)
    · exact hct.elim
theorem fw_fv_row {M : fw_M} {ci k a b : Nat} {f : Nat → Int32} (h : b ≠ a) : fw_fv ci k b (fw_row M a f) = fw_fv ci k b M := by
  unfold fw_fv fw_fw
  cases fw_fc ci k with
  | zero =>
    show Value.int ((if b = a then f else M.1 b) k) = _
    rw [if_neg h]
  | succ n => cases n <;> rfl
theorem fw_rowset {g : fw_G} {B o : Nat} {M : fw_M} {f : Nat → Int32} (ho : o < 497) (h : fw_ko o = 7) :
    (fw_WL g B M).set o (B + o, .inl (g.2.1 0, fw_lo o, .inl f)) = fw_WL g B (fw_row M (B + o) f) := by
  refine fw_WL_set ho ?_ (fun o' _ hn => ?_) (fun a ha => if_neg (by omega))
  · rw [fw_ct_7 h]
    show Sum.inl (g.2.1 0, fw_lo o, Sum.inl (if B + o = B + o then f else M.1 (B + o))) = _
    rw [if_pos rfl]
  · have hb : B + o' ≠ B + o := by omega
    unfold fw_ct fw_fs
    simp only [fw_fv_row hb]
    rw [show (fw_row M (B + o) f).1 (B + o') = M.1 (B + o') from if_neg hb]
theorem fw_calCopy {l : Launch} {g : fw_G} {B : Nat} {own : String} {R : Room} {ix ci : Nat} (w1 : Cond.methodLink own ix arraycopyName ∈ fw_LW) (w2 : Cond.native arraycopyName ∈ fw_LW) (w3 : Cond.static arraycopyName ∈ fw_LW) (w4 : Cond.initialized "java/lang/System" ∈ fw_LW) (hf : 1 ≤ R.frames) (hlo : 8 + (nativeFrameWords "java/lang/System" "arraycopy" 5 + 11) ≤ R.locals) :
    fw_CalX l g B own R (ix, 1, ci, 5, 0, fw_ctCopy B) := by
  intro p e s m args below meth c cc nL Qs E hAmb pc as rest M ls Qr hk hlen hrest hct hq H locs la hP hS hl
  obtain ⟨hx, hb, hml, hown, hts, hK⟩ := E
  rcases hk with ⟨h0, -⟩ | ⟨-, hdg⟩
  · cases h0
  · unfold fw_ctCopy at hct
    dsimp only at hct
    split at hct
    · rename_i a i b j n
      obtain ⟨k1, k2, rfl, rfl, k3, k4, k5, hq1⟩ := hct
      obtain ⟨o1, ho1, rfl, hko1⟩ := fw_kd_at k1 (by omega)
      obtain ⟨o2, ho2, rfl, hko2⟩ := fw_kd_at k2 (by omega)
      have e1 : fw_len B (B + o1) = fw_lo o1 := by unfold fw_len; rw [Nat.add_sub_cancel_left]
      have e2 : fw_len B (B + o2) = fw_lo o2 := by unfold fw_len; rw [Nat.add_sub_cancel_left]
      rw [e1] at k4
      rw [e2] at k5
      refine va_copyi (rest := rest) (D := g.1) (cl := vwCl) (tys := fw_tys g) (A := fun q => B ≤ q) (H0 := s.heap) (f := M.1 (B + o1)) (g := M.1 (B + o2)) (n0 := fw_lo o1) (n1 := fw_lo o2) (ty := .int) hx hb (by rw [hml, hl.1]) hown (hts _ w1) (hts _ w2) (hts _ w3) (hts _ w4) hK hP fw_WL_D hS o1 o2 0 0 (by rw [fw_WL_get ho1, fw_ct_7 hko1]) (by rw [fw_WL_get ho2, fw_ct_7 hko2]) rfl rfl rfl (by decide) (by decide) k3 ?_ ?_ (fun i _ => rfl) hf (by omega) hdg ?_
      · rw [show (0 : Int32).toNatClampNeg = 0 from rfl]; omega
      · rw [show (0 : Int32).toNatClampNeg = 0 from rfl]; omega
      · intro H1 locs1 hP1 hD1 hS1
        rw [show (0 : Int32).toNatClampNeg = 0 from rfl, fw_rowset ho2 hko2] at hP1
        exact hq _ _ hq1 H1 locs1 la hP1 hS1 hl
    · exact hct.elim
/-! throws -/
def fw_ThrX (l : Launch) (g : fw_G) (B : Nat) (own : String) (R : Room) (mc ms : Nat) (q : Nat × String) : Prop :=
  ∀ (p : Program) (e : Env) (s : State) (m : MethodId) (args : Array Value) (below : List Frame) (meth : Method) (c : Code) (cc : ByteArray) (nL : Nat) (Q : Option Value → fw_M → Prop) (QX : String → fw_M → Prop), fw_Env p s m args c cc nL g own → fw_Amb g B s s.heap → meth.locks = false → (∀ x ∈ c.exceptionTable.toList, False) →
    fw_ThrOK p l e R s m args below meth c cc nL B g (fun _ => 0) (fun _ => 0) (vx_MQ below (fw_Qc g B Q) (fw_XC g B QX) args s mc ms (fun q => B ≤ q)) QX q
theorem fw_thrX {l : Launch} {g : fw_G} {B : Nat} {own : String} {R : Room} {mc ms ik : Nat} {cls : String} (htr : l.stackTraces = false) (hcls : Bundle.fit cls = true) (w1 : Cond.classLink own ik cls ∈ fw_LW) (w2 : Cond.initialized cls ∈ fw_LW)
    (hgd : ∀ w ∈ (vx_at0 own (ik + 2) cls ["java/lang/RuntimeException", "java/lang/Exception"]).filter goodWord, w ∈ fw_LW) (hbd : ∀ w ∈ (vx_at0 own (ik + 2) cls ["java/lang/RuntimeException", "java/lang/Exception"]).filter (fun w => !goodWord w), w ∈ fw_xw)
    (hot : (Cond.classLink own ik cls :: Cond.initialized cls :: vx_at0 own (ik + 2) cls ["java/lang/RuntimeException", "java/lang/Exception"]).all vx_ot = true)
    (hRf : 5 < R.frames) (hRl : 81 ≤ R.locals) (hRc : 1 ≤ R.cells) (hRs : 6 ≤ R.slots) (hmc : 1 ≤ mc) (hms : 6 ≤ ms) : fw_ThrX l g B own R mc ms (ik, cls) := by
  intro p e s m args below meth c cc nL Q QX E hAmb hlocks hex pc ls M hd hnw hqx H locs la hP hS hl
  obtain ⟨hx, hb, hml, hown, hts, hK⟩ := E
  obtain ⟨d3, d4, d7⟩ := hnw
  refine vx_throw0 (names := ["java/lang/RuntimeException", "java/lang/Exception"]) (A := fun q => B ≤ q) hx hb htr hown hcls (by decide +kernel) (hts _ w1) (hts _ w2) (vx_hat (B := fw_xw) (fun w hw => hts w (hgd w hw)) hbd (fun w hw => va_Nw.use (fw_xw_tab hw) (hAmb.2.1 w hw))) (fun w hw => List.all_eq_true.mp hot w hw) hAmb.2.2.1 hAmb.2.2.2 hS (by rw [hml, hl.1]) hd d3 d4 d7 (fun x hx => (hex x hx).elim) hRf ?_ ?_ ?_ hlocks ?_ hS.2.2 ?_ ?_
  · simpa using hRl
  · simpa using hRc
  · simpa using hRs
  · intro t hal hsz hk
    refine ⟨⟨M, hqx, fw_P_same hP hk⟩, Nat.le_trans hS.1 hsz, fun q h1 h2 => ?_⟩
    rw [hk q (Nat.lt_of_lt_of_le h1 hS.1)]
    exact hS.2.1 q h1 h2
  · simpa using hmc
  · simpa using hms
/-! ends -/
theorem fw_ret {p : Program} {l : Launch} {e : Env} {R : Room} {s : State} {m : MethodId} {args : Array Value} {below : List Frame} {meth : Method} {c : Code} {cc : ByteArray} {nL B : Nat} {g : fw_G} {own : String} {rt : Option FieldType} {Q : Option Value → fw_M → Prop} {XC : String → State → State → Prop} {mc ms : Nat}
    (E : fw_Env p s m args c cc nL g own) (hr : meth.sig.returnType = rt) (hlocks : meth.locks = false) : fw_RetOK p l e R s m args below meth c cc nL B g (fun _ => 0) (fun _ => 0) (vx_MQ below (fw_Qc g B Q) XC args s mc ms (fun q => B ≤ q)) rt Q := by
  obtain ⟨hx, hb, hml, hown, hts, hK⟩ := E
  have key : ∀ {H : Heap} {locs : List Loc} {M : fw_M} {r : Option Value}, va_P g.1 vwCl (fw_WL g B M) H → va_S (fun q => B ≤ q) s.heap H locs → Q r M → ∀ t : State, t.heap = H → s.WarmedH t.vm → fw_Qc g B Q args s (.returned r) t := by
    intro H locs M r hP hS hq t ht hW
    exact ⟨⟨r, M, rfl, hq, by rw [ht]; exact hP⟩, hS.F ht⟩
  intro pc ls st M
  refine ⟨?_, ?_, ?_, ?_, ?_⟩
  · intro hd h
    unfold fw_endi at h
    split at h
    · intro H locs la hP hS hl
      exact vx_ret (W.widen (k := mc) (n := ms) (Nat.zero_le _) (Nat.zero_le _) (W.iret hx hb hr (key hP hS h) hS.2.2 hd))
    · obtain ⟨hz, h⟩ := h
      intro H locs la hP hS hl
      exact vx_ret (W.widen (k := mc) (n := ms) (Nat.zero_le _) (Nat.zero_le _) (W.zret hx hb hr (by rcases hz with rfl | rfl <;> rfl) (key hP hS h) hS.2.2 hd))
    · exact h.elim
  · intro hd h
    unfold fw_enda at h
    split at h
    · intro H locs la hP hS hl
      exact vx_ret (W.widen (k := mc) (n := ms) (Nat.zero_le _) (Nat.zero_le _) (W.aret hx hb hr (Or.inl ⟨_, rfl⟩) (Or.inr ⟨_, rfl⟩) (key hP hS h) hS.2.2 hd))
    · intro H locs la hP hS hl
      exact vx_ret (W.widen (k := mc) (n := ms) (Nat.zero_le _) (Nat.zero_le _) (W.aret hx hb hr (Or.inl ⟨_, rfl⟩) (Or.inl rfl) (key hP hS h) hS.2.2 hd))
    · exact h.elim
  · intro hd h
    unfold fw_endl at h
    split at h
    · intro H locs la hP hS hl
      exact vx_ret (W.widen (k := mc) (n := ms) (Nat.zero_le _) (Nat.zero_le _) (W.lret hx hb hr (key hP hS h) hS.2.2 hd))
    · exact h.elim
  · intro hd h
    unfold fw_endd at h
    split at h
    · intro H locs la hP hS hl
      exact vx_ret (W.widen (k := mc) (n := ms) (Nat.zero_le _) (Nat.zero_le _) (W.dret hx hb hr (key hP hS h) hS.2.2 hd))
    · exact h.elim
  · intro hd h
    unfold fw_endv at h
    split at h
    · intro H locs la hP hS hl
      exact vx_ret (W.widen (k := mc) (n := ms) (Nat.zero_le _) (Nat.zero_le _) (W.vret hx hb hr (key hP hS h) hS.2.2 hd))
    · exact h.elim
/-! a body's start -/
def fw_in0 : List Value → fw_L
  | [] => []
  | v :: t => bif fw_c2 (some v) then some v :: none :: fw_in0 t else some v :: fw_in0 t
def fw_pad : Nat → fw_L → fw_L
  | 0, _ => []
  | n + 1, [] => none :: fw_pad n []
  | n + 1, o :: t => o :: fw_pad n t
theorem fw_lg_pad : ∀ {n : Nat} {ls : fw_L} {i : Nat} {v : Value}, fw_lg (fw_pad n ls) i = some v → fw_lg ls i = some v := by
  intro n
  induction n with
  | zero => intro ls i v h; cases h
  | succ n ih =>
    intro ls i v h
    cases ls with
    | nil =>
      cases i with
      | zero => cases h
      | succ i => have h := ih (ls := []) (i := i) h; cases h
    | cons o t =>
      cases i with
      | zero => exact h
      | succ i => exact ih (ls := t) (i := i) h
theorem fw_lg_in0 {v : Value} : ∀ {vs : List Value} {i k : Nat}, fw_lg (fw_in0 vs) i = some v → (k + i, v) ∈ lv_args k vs := by
  intro vs
  induction vs with
  | nil => intro i k h; cases h
  | cons w t ih =>
    intro i k h
    unfold fw_in0 at h
    unfold lv_args
    have hc : fw_c2 (some w) = true ↔ w.category = 2 := by cases w <;> simp [fw_c2, Value.category]
    cases hb : fw_c2 (some w) with
    | true =>
      rw [hb] at h
      rw [if_pos (hc.mp hb)]
      match i, h with
      | 0, h =>
        have h : some w = some v := h
        cases h
        exact List.mem_cons_self
      | 1, h => cases h
      | i + 2, h =>
        have h : fw_lg (fw_in0 t) i = some v := h
        have h2 := ih (k := k + 2) h
        rw [show k + 2 + i = k + (i + 2) by omega] at h2
        exact List.mem_cons_of_mem _ h2
    | false =>
      rw [hb] at h
      rw [if_neg (fun z => by rw [hc.mpr z] at hb; cases hb)]
      match i, h with
      | 0, h =>
        have h : some w = some v := h
        cases h
        exact List.mem_cons_self
      | i + 1, h =>
        have h : fw_lg (fw_in0 t) i = some v := h
        have h2 := ih (k := k + 1) h
        rw [show k + 1 + i = k + (i + 1) by omega] at h2
        exact List.mem_cons_of_mem _ h2
/-- a walk of a body with its loops, for a contract ct -/
def fw_Wk (B : Nat) (fld : List (Nat × Nat × Nat)) (cal : List fw_Cal) (thr : List (Nat × String)) (cst : List (Nat × Value)) (rt : Option FieldType) (code : List fw_Ent) (nL : Nat) (ct : fw_CTX) : Prop :=
  ∀ as M Q QX, ct as M Q QX → Nat.ble (lg_sl as).length nL = true ∧ ∃ A : fw_AL, (∃ F, fw_wp B fld cal thr cst none rt Q QX code (fw_Ka A) F true (fw_seek 0 code) (fw_pad nL (fw_in0 as)) [] M) ∧
    ∀ q ∈ A, ∀ n ls st M, q.2.2 n ls st M → ∃ F, fw_wp B fld cal thr cst none rt Q QX code (fw_Kn A n) F true (fw_seek q.1 code) ls st M
theorem fw_met {l : Launch} {g : fw_G} {B : Nat} {y : MethodName} {cc : ByteArray} {nL : Nat} {rt : Option FieldType} {rm : Room} {mc ms : Nat} {own : String} {code : List fw_Ent} {cst : List (Nat × Value)} {fld : List (Nat × Nat × Nat)} {cal : List fw_Cal} {thr : List (Nat × String)} {ct : fw_CTX}
    (hy : plainName y.cls = true) (hcls : y.cls = own) (hchk : fw_chk cc nL code = true) (hcst : ∀ en ∈ code, fw_CstOK own cst en) (hfld : fw_Fld own fld) (hcal : ∀ q ∈ cal, fw_CalX l g B own rm q) (hthr : ∀ q ∈ thr, fw_ThrX l g B own rm mc ms q)
    (hw : fw_Wk B fld cal thr cst rt code nL ct) : fw_Met l g B y cc nL rt rm mc ms ct := by
  intro as M Q QX hct
  obtain ⟨hlen, A, ⟨F, hwp⟩, hA⟩ := hw as M Q QX hct
  refine vx_ofW (cc := cc) (maxL := nL) (ret := rt) hy rfl ?_
  intro p e s m args below meth c s₁ Bd hml hex hv
  obtain ⟨rfl, hP, hAmb⟩ := hv
  have hts0 := atoms_spec (ws := fw_ws y cc nL rt) Bd.pre
  have hown : s.vm.findClass own = some m.cls := by rw [← hcls]; exact findClass_of_methodNamed Bd.named
  have hlocks := Bd.notSynchronized
  have E : fw_Env p s m as.toArray c cc nL g own := ⟨Bd.exec, Bd.bytes, hml, hown, fun w hw => hts0 w (List.mem_cons_of_mem _ hw), hAmb.1⟩
  have hl := lv_entry as (n := nL) (Nat.le_of_ble_eq_true hlen)
  rw [lg_entry_eq]
  exact fw_body (p := p) (l := l) (e := e) (R := rm) (Qs := vx_MQ below (fw_Qc g B Q) (fw_XC g B QX) as.toArray s mc ms (fun q => B ≤ q)) (cf := fun _ => 0) (sf := fun _ => 0) (scr := none) E hchk hcst hfld trivial
    (fun q hq => hcal q hq p e s m as.toArray below meth c cc nL _ E hAmb) (fun q hq => hthr q hq p e s m as.toArray below meth c cc nL Q QX E hAmb hlocks hex) (fw_ret E Bd.returns hlocks) A hA hwp s.heap [] _ hP va_S.rf
    ⟨hl.1, hl.2.1, fun i v hi => by
      have h1 := fw_lg_in0 (k := 0) (fw_lg_pad hi)
      rw [Nat.zero_add] at h1
      exact hl.2.2 (i, v) h1⟩
end CL

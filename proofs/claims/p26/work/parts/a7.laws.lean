/-! THE LAW: its calls, its end, its loop -/
section LS
theorem law_cal (l : Launch) (g : fw_G) (B b L : Nat) (xs : Nat → Int32) (h0 : g.2.2 = 0) (htr : l.stackTraces = false) (hL : L ≤ 260) : ∀ q ∈ cal_law B b L xs, ∀ (p : Program) (e : Env) (s : State) (m : MethodId) (args : Array Value) (below : List Frame) (meth : Method) (c : Code) (cc : ByteArray) (nL : Nat) (Qs : State → Prop), fw_Env p s m args c cc nL g RL → fw_Amb g B s s.heap → fw_NC s → fw_XS g B b L xs s → fw_CallOK p l e room_1 s m args below meth c cc nL B g (fun n => 497 + n) (fun n => 4041 + 6 * n) Qs q := by
  intro q hq p e s m args below meth c cc nL Qs E hAmb hNC hXs
  simp only [cal_law, List.mem_cons, List.not_mem_nil, or_false] at hq
  rcases hq with rfl | rfl | rfl | rfl | rfl | rfl | rfl
  · exact fw_lwN (me_L_isSo l g B h0 htr) wl_L_138 ws_L_isSo wz_RL wc_L_isSo rfl rfl (by decide +kernel) ⟨by decide, by decide⟩ ⟨by decide, by decide⟩ ⟨by decide, by decide⟩ p e s m args below meth c cc nL Qs E hAmb hNC
  · exact fw_lwX (me_L_cell l g B b L xs hL) fw_XS_bl wl_L_142 ws_L_cell wz_RL wc_L_cell rfl rfl (by decide +kernel) ⟨by decide, by decide⟩ ⟨by decide, by decide⟩ ⟨by decide, by decide⟩ p e s m args below meth c cc nL Qs E hAmb (fun U H locs hS hU hW => fw_XS_at hXs hS hU hW)
  · exact fw_lwS (me_L_low l g B) (fun _ _ _ _ h => h) wl_L_36 ws_L_low wz_RL wc_L_low rfl rfl (by decide +kernel) ⟨by decide, by decide⟩ ⟨by decide, by decide⟩ p e s m args below meth c cc nL Qs E hAmb hNC
  · exact fw_lwN (me_L_acts l g B htr) wl_L_146 ws_L_acts wz_RL wc_L_acts rfl rfl (by decide +kernel) ⟨by decide, by decide⟩ ⟨by decide, by decide⟩ ⟨by decide, by decide⟩ p e s m args below meth c cc nL Qs E hAmb hNC
  · exact fw_lwT (me_L_courierOf l g B htr) wl_L_124 ws_L_courierOf wz_RL wc_L_courierOf rfl rfl (by decide +kernel) ⟨by decide, by decide⟩ ⟨by decide, by decide⟩ p e s m args below meth c cc nL Qs E hAmb hNC
  · exact fw_lwT (me_L_parcelOf l g B htr) wl_L_127 ws_L_parcelOf wz_RL wc_L_parcelOf rfl rfl (by decide +kernel) ⟨by decide, by decide⟩ ⟨by decide, by decide⟩ p e s m args below meth c cc nL Qs E hAmb hNC
  · exact fw_lwT (me_L_valueOf l g B htr) wl_L_121 ws_L_valueOf wz_RL wc_L_valueOf rfl rfl (by decide +kernel) ⟨by decide, by decide⟩ ⟨by decide, by decide⟩ p e s m args below meth c cc nL Qs E hAmb hNC
theorem law_ret {p : Program} {l : Launch} {e : Env} {s : State} {m : MethodId} {below : List Frame} {meth : Method} {c : Code} {b : Nat} {g : fw_G} (hx : p.tables.exec = Jvm.exec) (hb : c.code = code) (hr : meth.sig.returnType = ret) (hlocks : meth.locks = false) :
    fw_RetOK p l e room_1 s m #[Value.ref b] below meth c code 10 s.heap.size g (fun n => 497 + n) (fun n => 4041 + 6 * n) (lw_Z below #[Value.ref b] s) (some .boolean) lwQ := by
  intro pc ls st M
  refine ⟨?_, ?_, ?_, ?_, ?_⟩
  · intro hd h
    unfold fw_endi at h
    split at h
    · first
      | (rename_i e1; cases e1; done)
      | (rename_i e1 _; cases e1; done)
      | (rename_i e1 _ _; cases e1; done)
      | (rename_i e1 _ _ _; cases e1; done)
    · obtain ⟨-, h1, h2⟩ := h
      cases h1
      intro H locs la hP hS hl
      refine va_forget hS.2.2 (W.widen (k := 730435) (n := 6910319) (by show 497 + M.2.2 ≤ 730435; omega) (by show 4041 + 6 * M.2.2 ≤ 6910319; omega) ?_)
      exact lw_ret hx hb hr hlocks hd
    · exact h.elim
  · intro hd h
    unfold fw_enda at h
    split at h
    · first
      | (rename_i e1; cases e1; done)
      | (rename_i e1 _; cases e1; done)
      | (rename_i e1 _ _; cases e1; done)
      | (rename_i e1 _ _ _; cases e1; done)
    · first
      | (rename_i e1; cases e1; done)
      | (rename_i e1 _; cases e1; done)
      | (rename_i e1 _ _; cases e1; done)
      | (rename_i e1 _ _ _; cases e1; done)
    · exact h.elim
  · intro hd h
    unfold fw_endl at h
    split at h
    · first
      | (rename_i e1; cases e1; done)
      | (rename_i e1 _; cases e1; done)
      | (rename_i e1 _ _; cases e1; done)
      | (rename_i e1 _ _ _; cases e1; done)
    · exact h.elim
  · intro hd h
    unfold fw_endd at h
    split at h
    · first
      | (rename_i e1; cases e1; done)
      | (rename_i e1 _; cases e1; done)
      | (rename_i e1 _ _; cases e1; done)
      | (rename_i e1 _ _ _; cases e1; done)
    · exact h.elim
  · intro hd h
    unfold fw_endv at h
    split at h
    · first
      | (rename_i e1; cases e1; done)
      | (rename_i e1 _; cases e1; done)
      | (rename_i e1 _ _; cases e1; done)
      | (rename_i e1 _ _ _; cases e1; done)
    · exact h.elim
theorem law_run {p : Program} {l : Launch} {e : Env} {s : State} {m : MethodId} {below : List Frame} {meth : Method} {c : Code} {b L : Nat} {xs : Nat → Int32} {g : fw_G} (h0 : g.2.2 = 0) (htr : l.stackTraces = false) (hL : L ≤ 260) (En : fw_Env p s m #[Value.ref b] c code 10 g RL) (hAmb : fw_Amb g s.heap.size s s.heap) (hNC : fw_NC s) (hr : meth.sig.returnType = ret) (hlocks : meth.locks = false) (hX : va_X b L xs s s.heap) (hbl : b < s.heap.size)
    {M : fw_M} {Z : Zs} (hZ : LZ s.heap.size (fw_st M (s.heap.size + 492) (1 : Int32).toNatClampNeg 10) Z) (hc : M.2.2 = 0) :
    fw_WW p l e room_1 s m #[Value.ref b] below meth c 10 s.heap.size g (fun n => 497 + n) (fun n => 4041 + 6 * n) (lw_Z below #[Value.ref b] s) 36 [some (.ref b), some (.ref s.heap.size), some (.ref (s.heap.size + 492)), some (.ref (s.heap.size + 493)), some (.ref (s.heap.size + 494)), some (.ref (s.heap.size + 495)), some (.ref (s.heap.size + 496)), none, none, none] [] M := by
  have hXs : fw_XS g s.heap.size b L xs s := ⟨hX, hbl, by omega⟩
  obtain ⟨F, hgo⟩ := lw_go (b := b) (L := L) (xs := xs) hZ hc
  exact fw_body (scr := none) (fld := []) (cal := cal_law s.heap.size b L xs) (thr := []) (Q := lwQ) (QX := fun _ _ => False) En kL_law_ok kL_law_cst (fun q hq => nomatch hq) trivial (fun q hq => law_cal l g s.heap.size b L xs h0 htr hL q hq p e s m _ below meth c code 10 _ En hAmb hNC hXs) (fun q hq => nomatch hq) (law_ret En.1 En.2.1 hr hlocks) (lwA s.heap.size b) lw_all hgo
end LS

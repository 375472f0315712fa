/-! THE START OF THE LAW -/
section ST
theorem wv_AO0 : Cond.arrayOver (.object RX0) ∈ lw_tbl := by decide +kernel
theorem wv_AO1 : Cond.arrayOver (.object RX1) ∈ lw_tbl := by decide +kernel
theorem wv_AO3 : Cond.arrayOver (.object RX3) ∈ lw_tbl := by decide +kernel
theorem law_K {args : Array Value} {s : State} (hts0 : ∀ w ∈ lw_tbl, w.before args s = true) : ∃ g : fw_G, g.2.2 = 0 ∧ va_K g.1 vwCl (fw_tys g) s := by
  have hts : ∀ w ∈ fw_LW, w.before args s = true := fun w hw => hts0 w (fw_LW_in hw)
  have k1 : ∀ ci : Nat, ∃ q : ClassId × (Nat → Nat), ci < 6 → u_Kn s (fw_cl ci).1 (fw_cl ci).2.1 (fw_cl ci).2.2 q.1 q.2 := by
    intro ci
    by_cases h : ci < 6
    · have hi : ∃ n, Cond.instantiable (fw_cl ci).1 n ∈ fw_LW := by
        rcases (show ci = 0 ∨ ci = 1 ∨ ci = 2 ∨ ci = 3 ∨ ci = 4 ∨ ci = 5 by omega) with y | y | y | y | y | y <;> subst y
        · exact ⟨_, wb_RX0⟩
        · exact ⟨_, wb_RX1⟩
        · exact ⟨_, wb_RX2⟩
        · exact ⟨_, wb_RX3⟩
        · exact ⟨_, wb_RX4⟩
        · exact ⟨_, wb_RX5⟩
      obtain ⟨n, hi⟩ := hi
      obtain ⟨cC, iS, hk⟩ := u_known hts (fw_cl_w ci h) (hts _ hi)
      exact ⟨(cC, iS), fun _ => hk⟩
    · exact ⟨(0, fun _ => 0), fun z => absurd z h⟩
  obtain ⟨f, hf⟩ := Classical.axiomOfChoice k1
  obtain ⟨cI, kI, compI, i1, i2, i3⟩ := Cond.arrayClass_spec (hts _ wa_int)
  obtain ⟨comp0, c0, k0, -, a1, a2, a3, a4, a5⟩ : ∃ comp c k, True ∧ _ := by
    obtain ⟨comp, c, k, q⟩ := Cond.arrayOver_spec (hts0 _ wv_AO0)
    exact ⟨comp, c, k, trivial, q⟩
  obtain ⟨comp1, c1, k1, -, b1, b2, b3, b4, b5⟩ : ∃ comp c k, True ∧ _ := by
    obtain ⟨comp, c, k, q⟩ := Cond.arrayOver_spec (hts0 _ wv_AO1)
    exact ⟨comp, c, k, trivial, q⟩
  obtain ⟨comp3, c3, k3, -, d1, d2, d3, d4, d5⟩ : ∃ comp c k, True ∧ _ := by
    obtain ⟨comp, c, k, q⟩ := Cond.arrayOver_spec (hts0 _ wv_AO3)
    exact ⟨comp, c, k, trivial, q⟩
  refine ⟨((fun c => (f c).1, fun c => (f c).2), (fun t => if t = 0 then cI else if t = 1 then c0 else if t = 2 then c1 else c3), 0), rfl, fun c q hq => ?_, fun k q hq => ?_⟩
  · have hc : c < 6 := by
      have := (List.getElem?_eq_some_iff.mp hq).1
      exact this
    have := fw_cl_get c hc
    rw [this] at hq
    cases hq
    exact hf c hc
  · have hk : k < 4 := (List.getElem?_eq_some_iff.mp hq).1
    rcases (show k = 0 ∨ k = 1 ∨ k = 2 ∨ k = 3 by omega) with y | y | y | y <;> subst y <;> cases hq
    · exact ⟨fun n z => ⟨fun k h => (by cases h), kI, i2, compI, i3⟩, i1⟩
    · exact ⟨fun n z => ⟨fun k h => (by cases h), k0, a3, comp0, a4⟩, k0, comp0, a3, a4, a1, a5⟩
    · exact ⟨fun n z => ⟨fun k h => (by cases h), k1, b3, comp1, b4⟩, k1, comp1, b3, b4, b1, b5⟩
    · exact ⟨fun n z => ⟨fun k h => (by cases h), k3, d3, comp3, d4⟩, k3, comp3, d3, d4, d1, d5⟩
theorem xw_tbl : ∀ w ∈ fw_xw, w ∈ lw_tbl := by
  intro w hw
  rcases List.mem_append.mp hw with h | h
  · obtain ⟨q, hq, rfl⟩ := List.mem_map.mp h
    exact fw_nest_in q hq
  · revert w
    intro w hw h
    have : ∀ w ∈ [Cond.declares (Bundle.init0 "java/lang/RuntimeException"), .declares (Bundle.init0 "java/lang/Exception"), .declares (Bundle.init0 Bundle.tN), .castable "java/lang/IllegalArgumentException" "java/lang/IllegalArgumentException", .castable "java/lang/IllegalStateException" "java/lang/IllegalStateException", .castable "java/lang/IndexOutOfBoundsException" "java/lang/IndexOutOfBoundsException"], w ∈ lw_tbl := by decide +kernel
    exact this w h
theorem law_NC {args : Array Value} {s : State} (hgv : (Jvm.Cond.and given_1 narrow_1).before args s = true) : fw_NC s :=
  ⟨va_Nc.of (flat_of_before _ hgv (.not (.castable "java/lang/IllegalStateException" "java/lang/IllegalArgumentException")) (by decide +kernel)), va_Nc.of (flat_of_before _ hgv (.not (.castable "java/lang/IllegalArgumentException" "java/lang/IndexOutOfBoundsException")) (by decide +kernel))⟩
theorem law_Z {args : Array Value} {s : State} (hts : ∀ w ∈ lw_tbl, w.before args s = true) (hgv : (Jvm.Cond.and given_1 narrow_1).before args s = true) : vx_Zq Bundle.tN "UNASSIGNED_STACK" Bundle.steD (fun q => s.heap.size ≤ q) s s.heap ∧ vx_Zq Bundle.tN "SUPPRESSED_SENTINEL" Bundle.listD (fun q => s.heap.size ≤ q) s s.heap :=
  ⟨vx_Zqof (hts (.laysStatic Bundle.tN "UNASSIGNED_STACK" Bundle.steD) (by decide +kernel)) (hts (.initialized Bundle.tN) (by decide +kernel)) (flat_of_before _ hgv (.isRef (.static Bundle.tN "UNASSIGNED_STACK" Bundle.steD)) (by decide +kernel)) (fun a h => by omega),
   vx_Zqof (hts (.laysStatic Bundle.tN "SUPPRESSED_SENTINEL" Bundle.listD) (by decide +kernel)) (hts (.initialized Bundle.tN) (by decide +kernel)) (flat_of_before _ hgv (.isRef (.static Bundle.tN "SUPPRESSED_SENTINEL" Bundle.listD)) (by decide +kernel)) (fun a h => by omega)⟩
theorem tr_off {l : Launch} (h : l.flags = flags0) : l.stackTraces = false := by
  unfold Launch.stackTraces
  rw [h]
  decide
theorem whole_start {p : Program} {e : Env} {s : State} {m : MethodId} {below : List Frame} {meth : Method} {c : Code} (l : Launch) (hflags : l.flags = flags0) {b L : Nat} {xs : Nat → Int32} (hL : L ≤ 260) (C0 : lw_At p s m meth c b L xs) : W p l e room_1 s m #[Value.ref b] below meth c s.heap [] 0 0 (lw_Z below #[Value.ref b] s) (entryFrame m ([Value.ref b] : List Value).toArray 10) := by
  obtain ⟨hx, hb, hr, hml, hown, hts0, hX, hbl, hlocks, hgv⟩ := C0
  have htr := tr_off hflags
  have hts : ∀ w ∈ fw_LW, w.before #[Value.ref b] s = true := fun w hw => hts0 w (fw_LW_in hw)
  obtain ⟨g, hg0, hK⟩ := law_K hts0
  have En : fw_Env p s m #[Value.ref b] c code 10 g RL := ⟨hx, hb, hml, hown, hts, hK⟩
  have hxw : ∀ w ∈ fw_xw, va_Nw w s := fun w hw => va_Nw.of (fw_xw_tab hw) (hts0 w (xw_tbl w hw))
  have hcA : fw_cA g s := ⟨hK, ⟨va_AO.of (hts0 _ wv_AO0), va_AO.of (hts0 _ wv_AO3), va_AO.of (hts0 _ wv_AO1)⟩, hxw⟩
  have hNC := law_NC hgv
  obtain ⟨hZ1, hZ2⟩ := law_Z hts0 hgv
  have hAmb : fw_Amb g s.heap.size s s.heap := ⟨hK, hxw, hZ1, hZ2⟩
  have hl := lv_entry ([Value.ref b]) (n := 10) (Nat.le_of_ble_eq_true rfl)
  rw [lg_entry_eq]
  generalize (lg_sl ([Value.ref b]) ++ List.replicate (10 - (lg_sl ([Value.ref b])).length) Slot.unset).toArray = la at hl ⊢
  have hl : lv_has la 10 [(0, .ref b)] := hl
  generalize hB : s.heap.size = B
  have hS0 : cS g B s.heap s.heap [] 0 (fun _ => eK g 0 0 0) := ⟨by rw [hB]; rfl, fun j hj => absurd hj (Nat.not_lt_zero j), fun _ _ => rfl, fun z hz => nomatch hz⟩
  refine cS_new (ci := 5) (index := 79) (fs := dF 5) En hS0 (by decide) wq_L_79 wb_RX5 wz_RX5 (by decide) (by decide) (show decode code 0 = .ok (.new 79, 3) by decide +kernel) (by decide +kernel) ?_
  intro H1 h1
  refine lv_dup hx hb (show decode code 3 = .ok (.dup, 1) by decide +kernel) rfl ?_
  refine cS_call (n := 492) (ci := 5) (k := 0) En hcA (in_X5 l g) hl.1 h1 rfl wl_L_137 wi_X5_init wz_RX5 wc_X5_init rfl rfl rfl (by decide +kernel) ⟨by decide, by decide⟩ ⟨by decide, by decide⟩ (Nat.le_of_ble_eq_true rfl) (show decode code 4 = .ok (.invokespecial 137, 3) by decide +kernel) ?_
  intro H2 locs2 h2
  refine lv_astore_n (i := 1) (lv' := [(1, .ref B), (0, .ref b)]) hx hb (show decode code 7 = .ok (.astore_n 1, 1) by decide +kernel) rfl hl (by decide) rfl ?_
  intro la0 hl0
  refine lv_bipush (v := 7) hx hb (show decode code 8 = .ok (.bipush 7, 2) by decide +kernel) (by decide) ?_
  refine cS_arr (atype := .int) (t := 0) (N := 7) (ty := .int) (a0 := (7, .inl (fun _ => 0))) (k := 492) En h2 wa_int rfl rfl (fun _ w => w) (fun _ => rfl) (by decide) (by decide) (by decide) (by decide) (by decide) (show decode code 10 = .ok (.newarray .int, 2) by decide +kernel) ?_
  intro H3 h3
  refine lv_astore_n (i := 2) (lv' := [(2, .ref (B + 492)), (1, .ref B), (0, .ref b)]) hx hb (show decode code 12 = .ok (.astore_n 2, 1) by decide +kernel) rfl hl0 (by decide) rfl ?_
  intro la1 hl1
  refine lv_bipush (v := 30) hx hb (show decode code 13 = .ok (.bipush 30, 2) by decide +kernel) (by decide) ?_
  refine cS_arr (atype := .int) (t := 0) (N := 30) (ty := .int) (a0 := (30, .inl (fun _ => 0))) (k := 493) En h3 wa_int rfl rfl (fun _ w => w) (fun _ => rfl) (by decide) (by decide) (by decide) (by decide) (by decide) (show decode code 15 = .ok (.newarray .int, 2) by decide +kernel) ?_
  intro H4 h4
  refine lv_astore_n (i := 3) (lv' := [(3, .ref (B + 493)), (2, .ref (B + 492)), (1, .ref B), (0, .ref b)]) hx hb (show decode code 17 = .ok (.astore_n 3, 1) by decide +kernel) rfl hl1 (by decide) rfl ?_
  intro la2 hl2
  refine lv_bipush (v := 64) hx hb (show decode code 18 = .ok (.bipush 64, 2) by decide +kernel) (by decide) ?_
  refine cS_arr (atype := .int) (t := 0) (N := 64) (ty := .int) (a0 := (64, .inl (fun _ => 0))) (k := 494) En h4 wa_int rfl rfl (fun _ w => w) (fun _ => rfl) (by decide) (by decide) (by decide) (by decide) (by decide) (show decode code 20 = .ok (.newarray .int, 2) by decide +kernel) ?_
  intro H5 h5
  refine lv_astore (i := 4) (lv' := [(4, .ref (B + 494)), (3, .ref (B + 493)), (2, .ref (B + 492)), (1, .ref B), (0, .ref b)]) hx hb (show decode code 22 = .ok (.astore 4, 2) by decide +kernel) hl2 (by decide) rfl ?_
  intro la3 hl3
  refine lv_bipush (v := 48) hx hb (show decode code 24 = .ok (.bipush 48, 2) by decide +kernel) (by decide) ?_
  refine cS_arr (atype := .int) (t := 0) (N := 48) (ty := .int) (a0 := (48, .inl (fun _ => 0))) (k := 495) En h5 wa_int rfl rfl (fun _ w => w) (fun _ => rfl) (by decide) (by decide) (by decide) (by decide) (by decide) (show decode code 26 = .ok (.newarray .int, 2) by decide +kernel) ?_
  intro H6 h6
  refine lv_astore (i := 5) (lv' := [(5, .ref (B + 495)), (4, .ref (B + 494)), (3, .ref (B + 493)), (2, .ref (B + 492)), (1, .ref B), (0, .ref b)]) hx hb (show decode code 28 = .ok (.astore 5, 2) by decide +kernel) hl3 (by decide) rfl ?_
  intro la4 hl4
  refine lv_bipush (v := 48) hx hb (show decode code 30 = .ok (.bipush 48, 2) by decide +kernel) (by decide) ?_
  refine cS_arr (atype := .int) (t := 0) (N := 48) (ty := .int) (a0 := (48, .inl (fun _ => 0))) (k := 496) En h6 wa_int rfl rfl (fun _ w => w) (fun _ => rfl) (by decide) (by decide) (by decide) (by decide) (by decide) (show decode code 32 = .ok (.newarray .int, 2) by decide +kernel) ?_
  intro H7 h7
  refine lv_astore (i := 6) (lv' := [(6, .ref (B + 496)), (5, .ref (B + 495)), (4, .ref (B + 494)), (3, .ref (B + 493)), (2, .ref (B + 492)), (1, .ref B), (0, .ref b)]) hx hb (show decode code 34 = .ok (.astore 6, 2) by decide +kernel) hl4 (by decide) rfl ?_
  intro la5 hl5
  have hP : va_P g.1 vwCl (fw_WL g B (mI B)) H7 := by
    intro k q hk
    rcases fw_WL_get' hk with ⟨hk9, rfl⟩ | ⟨-, -, h3⟩
    · have hat := h7.2.1 k hk9
      have e : fw_ct g B (mI B) k = _ := ct_eK hk9
      rw [e]
      refine Eq.mp (congrArg (fun e => va_at g.1 vwCl (B + k, e) H7) ?_) hat
      unfold cu
      dsimp only
      by_cases k6 : k = 496
      · subst k6; rw [if_pos rfl]; rfl
      · rw [if_neg k6]
        by_cases k5 : k = 495
        · subst k5; rw [if_pos rfl]; rfl
        · rw [if_neg k5]
          by_cases k4 : k = 494
          · subst k4; rw [if_pos rfl]; rfl
          · rw [if_neg k4]
            by_cases k3 : k = 493
            · subst k3; rw [if_pos rfl]; rfl
            · rw [if_neg k3]
              by_cases k2 : k = 492
              · subst k2; rw [if_pos rfl]; rfl
              · rw [if_neg k2, if_neg (Nat.not_lt_zero k), Nat.sub_zero]
    · unfold fw_xr at h3
      rw [hg0] at h3
      cases h3
  have hSS : va_S (fun q => s.heap.size ≤ q) s.heap H7 locs2 := ⟨by rw [h7.1, hB]; omega, fun q h1 h2 => h7.2.2.1 q (by omega), fun z hz => by rw [hB]; exact h7.2.2.2 z hz⟩
  subst hB
  have hlr : fw_lr [some (.ref b), some (.ref s.heap.size), some (.ref (s.heap.size + 492)), some (.ref (s.heap.size + 493)), some (.ref (s.heap.size + 494)), some (.ref (s.heap.size + 495)), some (.ref (s.heap.size + 496)), none, none, none] la5 10 := ⟨hl5.1, hl5.2.1, fun i v hi => by
    match i, hi with
    | 0, hi => cases hi; exact lv_at hl5 6 rfl
    | 1, hi => cases hi; exact lv_at hl5 5 rfl
    | 2, hi => cases hi; exact lv_at hl5 4 rfl
    | 3, hi => cases hi; exact lv_at hl5 3 rfl
    | 4, hi => cases hi; exact lv_at hl5 2 rfl
    | 5, hi => cases hi; exact lv_at hl5 1 rfl
    | 6, hi => cases hi; exact lv_at hl5 0 rfl
    | 7, hi => cases hi
    | 8, hi => cases hi
    | 9, hi => cases hi
    | n + 10, hi => cases hi⟩
  exact law_run (e := e) (below := below) (xs := xs) hg0 htr hL En hAmb hNC hr hlocks hX hbl LZ_0 rfl H7 locs2 la5 hP hSS hlr
end ST

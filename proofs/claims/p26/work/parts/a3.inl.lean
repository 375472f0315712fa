/-! CONSTRUCTORS: a row filled with new objects -/
section CL2
theorem arrV_ext {cA : ClassId} {n : Nat} {f f' : Nat → Value} (h : ∀ j, j < n → f j = f' j) : arrV cA n f = arrV cA n f' := by
  have e : (fun j : Fin n => f j.val) = (fun j : Fin n => f' j.val) := funext fun j => h j.val j.isLt
  unfold arrV
  rw [e]
theorem at_row {g : fw_G} {a n : Nat} {cA : ClassId} {f f' : Nat → Option Nat} {H : Heap} (h : ∀ j, j < n → f j = f' j) (hat : va_at g.1 vwCl (a, .inl (cA, n, .inr (.inr (.inr (.inr f))))) H) : va_at g.1 vwCl (a, .inl (cA, n, .inr (.inr (.inr (.inr f'))))) H := by
  have e : vp_cell cA (n, .inr (.inr (.inr (.inr f)))) = vp_cell cA (n, .inr (.inr (.inr (.inr f')))) := by
    rw [vp_cell_q, vp_cell_q]
    exact arrV_ext (fun j hj => by rw [h j hj])
  show H[a]? = some _
  rw [← e]
  exact hat
theorem cS_at {g : fw_G} {A k : Nat} {H0 H : Heap} {locs : List Loc} {E E' : Nat → va_E} (h : cS g A H0 H locs k E) (e : ∀ j, j < k → va_at g.1 vwCl (A + j, E j) H → va_at g.1 vwCl (A + j, E' j) H) : cS g A H0 H locs k E' :=
  ⟨h.1, fun j hj => e j hj (h.2.1 j hj), h.2.2⟩
def rof (A k0 n i : Nat) : Nat → Option Nat := fun j => if j < i then some (A + (k0 + n * j)) else none
theorem rof_up {A k0 n i : Nat} : va_up (rof A k0 n i) i (some (A + (k0 + n * i))) = rof A k0 n (i + 1) := by
  funext j
  unfold va_up rof
  by_cases e : j = i
  · subst e; rw [if_pos rfl, if_pos (Nat.lt_succ_self j)]
  · rw [if_neg e]
    by_cases e2 : j < i
    · rw [if_pos e2, if_pos (by omega)]
    · rw [if_neg e2, if_neg (by omega)]
theorem cS_row {p : Program} {l : Launch} {e : Env} {R : Room} {s : State} {m : MethodId} {args : Array Value} {below : List Frame} {meth : Method} {c : Code} {Q : State → Prop} {cc : ByteArray} {g : fw_G} {own : String} {A : Nat}
    {h ci0 fno fix jr t N k0 n ce ix mc ms ic c0 s0 : Nat} {off : Int} {fs : List Value} {fld : List (Nat × Nat × Nat)} {Er : Nat → Nat → va_E} {EFe : Nat → Nat → va_E}
    (En : fw_Env p s m args c cc 2 g own) (hfl : fw_Fld own fld) (hmem : (fix, ci0, fno) ∈ fld) (hfv : fs[fno]? = some (.ref (A + jr)))
    (ht : (fw_tys g)[t]? = some (g.2.1 t, .object (fw_cl ce).1)) (hce : ce < 6) (wcl : Cond.classLink own ic (fw_cl ce).1 ∈ fw_LW) (wi : Cond.instantiable (fw_cl ce).1 (fw_cl ce).2.2 ∈ fw_LW) (wz : Cond.initialized (fw_cl ce).1 ∈ fw_LW) (hdf : ∀ j, j < (fw_cl ce).2.2 → defaultValue (fw_ty ce j) = vp_V (dF ce) j)
    (hN : N < 2 ^ 31) (hjr : jr < k0) (hk0 : 0 < k0) (hE0 : ∀ i, Er i 0 = .inr (ci0, fs)) (hEr : ∀ i, Er i jr = .inl (g.2.1 t, N, .inr (.inr (.inr (.inr (rof A k0 n i))))))
    (hst : ∀ i, i < N → ∀ j, j < k0 + n * (i + 1) → j ≠ jr → (if j < k0 + n * i then Er i j else EFe (j - (k0 + n * i)) (A + j)) = Er (i + 1) j)
    (hrc : c0 + (1 + mc) * N ≤ R.cells) (hrs : s0 + ((fw_cl ce).2.2 + ms) * N ≤ R.slots)
    (d0 : decode cc h = .ok (.iload_n 1, 1)) (d1 : decode cc (h + 1) = .ok (.aload_n 0, 1)) (d2 : decode cc (h + 2) = .ok (.getfield fix, 3)) (d5 : decode cc (h + 5) = .ok (.arraylength, 1)) (d6 : decode cc (h + 6) = .ok (.if_icmp .ge 22, 3)) (d9 : decode cc (h + 9) = .ok (.aload_n 0, 1)) (d10 : decode cc (h + 10) = .ok (.getfield fix, 3)) (d13 : decode cc (h + 13) = .ok (.iload_n 1, 1)) (d14 : decode cc (h + 14) = .ok (.new ic, 3)) (d17 : decode cc (h + 17) = .ok (.dup, 1)) (d21 : decode cc (h + 21) = .ok (.aastore, 1)) (d22 : decode cc (h + 22) = .ok (.iinc 1 1, 3)) (d25 : decode cc (h + 25) = .ok (.goto off, 3)) (hoff : ((h + 25 : Nat) : Int) + off = (h : Int))
    (hcall : ∀ (H : Heap) (locs : List Loc) (E : Nat → va_E) (k cells slots : Nat) (la : Array Slot) (rest : List Value), la.size = 2 → (rest.map fun v => v.category).sum ≤ 8 → cS g A s.heap H locs (k + 1) E → E k = .inr (ce, dF ce) → cells + mc ≤ R.cells → slots + ms ≤ R.slots →
      (∀ (H1 : Heap) (locs1 : List Loc), cS g A s.heap H1 locs1 (k + n) (fun j => if j < k then E j else EFe (j - k) (A + j)) → W p l e R s m args below meth c H1 locs1 (cells + mc) (slots + ms) Q (F0 m (h + 18 + 3) la rest)) → W p l e R s m args below meth c H locs cells slots Q (F0 m (h + 18) la (.ref (A + k) :: rest)))
    (hEe : ∀ a, EFe 0 a = .inr (ce, match EFe 0 a with | .inr q => q.2 | _ => [])) (hn : 0 < n)
    (fin : ∀ (H : Heap) (locs : List Loc) (la : Array Slot), cS g A s.heap H locs (k0 + n * N) (Er N) → lv_has la 2 [(1, .int (nI N)), (0, .ref A)] → W p l e R s m args below meth c H locs (c0 + (1 + mc) * N) (s0 + ((fw_cl ce).2.2 + ms) * N) Q (F0 m (h + 28) la []))
    {H : Heap} {locs : List Loc} {la : Array Slot} (hS : cS g A s.heap H locs k0 (Er 0)) (hl : lv_has la 2 [(1, .int (nI 0)), (0, .ref A)]) : W p l e R s m args below meth c H locs c0 s0 Q (F0 m h la []) := by
  have hx := En.1
  have hb := En.2.1
  have loop : ∀ r i, i + r = N → ∀ (H : Heap) (locs : List Loc) (la : Array Slot), cS g A s.heap H locs (k0 + n * i) (Er i) → lv_has la 2 [(1, .int (nI i)), (0, .ref A)] → W p l e R s m args below meth c H locs (c0 + (1 + mc) * i) (s0 + ((fw_cl ce).2.2 + ms) * i) Q (F0 m h la []) := by
    intro r
    induction r with
    | zero =>
      intro i hi H locs la hS hl
      have ei : i = N := by omega
      subst ei
      refine lv_iload_n hx hb d0 rfl (lv_at hl 0 rfl) ?_
      refine lv_aload_n hx hb d1 rfl (lv_at hl 1 rfl) ?_
      refine cS_get (j0 := 0) En hS (by omega) (hE0 i) hfl hmem hfv d2 ?_
      refine cS_alen (v := nI i) En hS (by omega) (hEr i) ht rfl d5 ?_
      refine lv_icmp_ge (tgt := h + 28) hx hb d6 (by omega) (fun _ => fin H locs la hS hl) (fun w => ?_)
      exact absurd ((n_ge hN hN).mpr (Nat.le_refl i)) w
    | succ r ih =>
      intro i hi H locs la hS hl
      have hiN : i < N := by omega
      have hm1 : (1 + mc) * (i + 1) = (1 + mc) * i + (1 + mc) := Nat.mul_succ _ _
      have hm2 : ((fw_cl ce).2.2 + ms) * (i + 1) = ((fw_cl ce).2.2 + ms) * i + ((fw_cl ce).2.2 + ms) := Nat.mul_succ _ _
      have hm3 : (1 + mc) * (i + 1) ≤ (1 + mc) * N := Nat.mul_le_mul_left _ hiN
      have hm4 : ((fw_cl ce).2.2 + ms) * (i + 1) ≤ ((fw_cl ce).2.2 + ms) * N := Nat.mul_le_mul_left _ hiN
      have hm5 : n * (i + 1) = n * i + n := Nat.mul_succ _ _
      refine lv_iload_n hx hb d0 rfl (lv_at hl 0 rfl) ?_
      refine lv_aload_n hx hb d1 rfl (lv_at hl 1 rfl) ?_
      refine cS_get (j0 := 0) En hS (by omega) (hE0 i) hfl hmem hfv d2 ?_
      refine cS_alen (v := nI N) En hS (by omega) (hEr i) ht rfl d5 ?_
      refine lv_icmp_ge (tgt := h + 28) hx hb d6 (by omega) (fun w => ?_) (fun w => ?_)
      · rw [n_ge hN (by omega)] at w
        omega
      refine lv_aload_n hx hb d9 rfl (lv_at hl 1 rfl) ?_
      refine cS_get (j0 := 0) En hS (by omega) (hE0 i) hfl hmem hfv d10 ?_
      refine lv_iload_n hx hb d13 rfl (lv_at hl 0 rfl) ?_
      refine cS_new (ci := ce) (fs := dF ce) En hS hce wcl wi wz (by omega) (by omega) d14 hdf ?_
      intro H1 h1
      refine lv_dup hx hb d17 rfl ?_
      refine hcall H1 locs _ (k0 + n * i) _ _ la [.ref (A + (k0 + n * i)), .int (nI i), .ref (A + jr)] hl.1 (Nat.le_of_ble_eq_true rfl) h1 (if_pos rfl) (by omega) (by omega) ?_
      intro H2 locs2 h2
      have hjk : jr < k0 + n * i := by omega
      refine cS_aast (j0 := jr) (j1 := k0 + n * i) (t := t) (ci := ce) (n := N) (f := rof A k0 n i) (vs := match EFe 0 (A + (k0 + n * i)) with | .inr q => q.2 | _ => []) En h2 (by omega) ?_ (by omega) ?_ hce ht ?_ d21 ?_
      · rw [if_pos hjk]
        show cu _ _ _ jr = _
        unfold cu
        rw [if_neg (by omega)]
        exact hEr i
      · rw [if_neg (Nat.lt_irrefl _), Nat.sub_self]
        exact hEe _
      · exact vp_in_nI hiN hN
      intro H3 locs3 h3
      refine lv_iinc (v := nI (i + 1)) (lv' := [(1, .int (nI (i + 1))), (0, .ref A)]) hx hb d22 hl (k := 0) rfl (by rw [← nI_1]; rfl) (by decide) rfl ?_
      intro la2 hl2
      refine lv_goto hx hb d25 hoff ?_
      refine W.widen ?_ ?_ (ih (i + 1) (by omega) H3 locs3 la2 ?_ hl2)
      · rw [hm1]; omega
      · rw [hm2]; omega
      · have h4 := cS_to (E' := Er (i + 1)) h3 (fun j hj => ?_)
        · rw [show k0 + n * (i + 1) = k0 + n * i + n by omega]; exact h4
        · unfold cu
          dsimp only
          by_cases ej : j = jr
          · rw [if_pos ej, ej, n_cl (by omega), rof_up]
            exact (hEr (i + 1)).symm
          · rw [if_neg ej, ← hst i hiN j (by omega) ej]
            by_cases ej2 : j < k0 + n * i
            · rw [if_pos ej2, if_pos ej2, if_neg (by omega)]
            · rw [if_neg ej2, if_neg ej2]
  have := loop N 0 (by omega) H locs la (by rw [Nat.mul_zero]; exact hS) hl
  rw [Nat.mul_zero, Nat.mul_zero] at this
  exact this
end CL2

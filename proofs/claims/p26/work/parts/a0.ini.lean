/-! CONSTRUCTORS: cells made one behind the other, each at its place -/
section CI
def cS (g : fw_G) (A : Nat) (H0 H : Heap) (locs : List Loc) (k : Nat) (E : Nat → va_E) : Prop := H.size = A + k ∧ (∀ j, j < k → va_at g.1 vwCl (A + j, E j) H) ∧ (∀ q : Nat, q < A → H[q]? = H0[q]?) ∧ ∀ z ∈ locs, A ≤ z.base
def cu (E : Nat → va_E) (j0 : Nat) (e : va_E) : Nat → va_E := fun j => if j = j0 then e else E j
theorem at_kept {g : fw_G} {q : Nat × va_E} {H H1 : Heap} (h : va_at g.1 vwCl q H) (e : H1[q.1]? = H[q.1]?) : va_at g.1 vwCl q H1 := by
  obtain ⟨a, en⟩ := q
  cases en with
  | inl x =>
    show H1[a]? = _
    rw [show H1[a]? = H[a]? from e]
    exact h
  | inr o =>
    obtain ⟨r, h2, h3⟩ := h
    exact ⟨r, h2, h3.kept e⟩
theorem cS_upd {g : fw_G} {A k j0 : Nat} {H0 H H' : Heap} {locs : List Loc} {E : Nat → va_E} {e' : va_E} {z : Loc} (h : cS g A H0 H locs k E) (hat : va_at g.1 vwCl (A + j0, e') H') (hsz : H'.size = H.size) (ho : ∀ q : Nat, q ≠ A + j0 → H'[q]? = H[q]?) (hz : z.base = A + j0) : cS g A H0 H' (locs ++ [z]) k (cu E j0 e') := by
  obtain ⟨h1, h2, h3, h4⟩ := h
  refine ⟨hsz.trans h1, fun j hj => ?_, fun q hq => (ho q (by omega)).trans (h3 q hq), fun y hy => ?_⟩
  · unfold cu
    by_cases e : j = j0
    · subst e; rw [if_pos rfl]; exact hat
    · rw [if_neg e]; exact at_kept (h2 j hj) (ho _ (by show A + j ≠ A + j0; omega))
  · rcases List.mem_append.mp hy with y1 | y1
    · exact h4 y y1
    · rw [List.mem_singleton.mp y1, hz]; exact Nat.le_add_right A j0
theorem cS_push {g : fw_G} {A k : Nat} {H0 H H' : Heap} {locs : List Loc} {E : Nat → va_E} {e' : va_E} (h : cS g A H0 H locs k E) (hat : va_at g.1 vwCl (A + k, e') H') (hsz : H'.size = A + k + 1) (ho : ∀ q : Nat, q < A + k → H'[q]? = H[q]?) : cS g A H0 H' locs (k + 1) (cu E k e') := by
  obtain ⟨h1, h2, h3, h4⟩ := h
  refine ⟨hsz, fun j hj => ?_, fun q hq => (ho q (by omega)).trans (h3 q hq), h4⟩
  unfold cu
  by_cases e : j = k
  · subst e; rw [if_pos rfl]; exact hat
  · rw [if_neg e]; exact at_kept (h2 j (by omega)) (ho _ (by show A + j < A + k; omega))
theorem cS_to {g : fw_G} {A k : Nat} {H0 H : Heap} {locs : List Loc} {E E' : Nat → va_E} (h : cS g A H0 H locs k E) (e : ∀ j, j < k → E j = E' j) : cS g A H0 H locs k E' :=
  ⟨h.1, fun j hj => by rw [← e j hj]; exact h.2.1 j hj, h.2.2⟩
theorem cS_P {g : fw_G} {A k j0 : Nat} {H0 H : Heap} {locs : List Loc} {E : Nat → va_E} {e : va_E} (h : cS g A H0 H locs k E) (hj : j0 < k) (he : E j0 = e) : va_P g.1 vwCl [(A + j0, e)] H := by
  intro i q hq
  have hz : i < 1 := (List.getElem?_eq_some_iff.mp hq).1
  rw [show i = 0 by omega] at hq
  cases hq
  rw [← he]
  exact h.2.1 j0 hj
section C2
variable {p : Program} {l : Launch} {e : Env} {R : Room} {s : State} {m : MethodId} {args : Array Value} {below : List Frame} {meth : Method} {c : Code} {Q : State → Prop} {cc : ByteArray} {nL : Nat} {g : fw_G} {own : String}
variable {H0 H : Heap} {locs : List Loc} {cells slots pc A k j0 : Nat} {la : Array Slot} {rest : List Value} {E : Nat → va_E}
theorem cS_putF {fld : List (Nat × Nat × Nat)} {ci f index : Nat} {fs : List Value} {v : Value} {ty : FieldType} (En : fw_Env p s m args c cc nL g own) (hin : meth.name = "<init>") (h : cS g A H0 H locs k E) (hj : j0 < k) (he : E j0 = .inr (ci, fs)) (hown2 : (fw_cl ci).1 = own)
    (hfl : fw_Fld own fld) (hmem : (index, ci, f) ∈ fld) (hfin : ((fw_cl ci).2.1 f).2.2.2 = true) (hd : parseFieldDescriptor ((fw_cl ci).2.1 f).2.2.1 = some ty) (hn : narrow ty v = v) (hfit : fits ty v = true) (hl : fs.length = fw_nf ci) (hdg : decode cc pc = .ok (.putfield index, 3))
    (kk : ∀ (H1 : Heap) (locs1 : List Loc), cS g A H0 H1 locs1 k (cu E j0 (.inr (ci, fs.set f v))) → W p l e R s m args below meth c H1 locs1 cells slots Q (F0 m (pc + 3) la rest)) : W p l e R s m args below meth c H locs cells slots Q (F0 m pc la (v :: .ref (A + j0) :: rest)) := by
  obtain ⟨hx, hb, hml, hown, hts, hK⟩ := En
  obtain ⟨hci, hf, hT, hlk⟩ := hfl _ hmem
  dsimp only at hci hf hT hlk
  have hc := fw_cl_get ci hci
  have hN := fw_cl_n ci hci
  have hap := va_apart (own := own) hts (fw_cl_w ci hci) (fw_ty ci) (fw_ty_ok ci hci) (fw_nm_ok ci hci) hK hc
  have h2 := h.2.1 j0 hj
  rw [he] at h2
  obtain ⟨r, h1, cell, q1, q2, q3, q4⟩ := h2
  have hr : r = fw_cl ci := Option.some.inj (h1.symm.trans hc)
  subst hr
  obtain ⟨hS, hfc, kC, hkC, hkind⟩ := hK.1 ci _ hc
  have hk : f < (fw_cl ci).2.2 := by rw [hN]; exact hf
  obtain ⟨cf, kf, fi, fd, hi, hsl⟩ := hS f hk
  have hlay := hts _ (fw_cl_w ci hci _ (u_in_lay hk))
  unfold u_lay at hlay
  rw [if_pos hfin] at hlay
  have hst := (u_facts hfc hkC (u_lays hts (fw_cl_w ci hci) hk) hi).1
  have hcf : m.cls = cf := by
    obtain ⟨_, _, c', _, _, _, -, -, hf', -, -, -, hown3, -⟩ := Cond.laysFinal_spec hlay
    have e1 : c' = cf := by have := hi.symm.trans hf'; simp at this; exact this.1.symm
    rw [hT, hown2] at hown3
    rw [← e1]; exact Option.some.inj (hown.symm.trans hown3)
  have h6 := u_fits hfc hkC hkind (Or.inr hlay) hi hd hn hfit
  refine W.putFinK hx hb hown (hts _ hlk) (by rw [hT] at hi; exact hi) hst hcf hin (by rw [q2]; exact h6) q1 q3 (by rw [hsl]; exact k2_hasslot (q4 f hk)) rfl rfl hdg fun H' e1 e2 e3 => ?_
  rw [hsl] at e1 ⊢
  exact kk H' _ (cS_upd h ⟨_, hc, t_OB.to (V := updV (vp_V fs) f v) ⟨_, e1, q2, q3, t_set q4 hap hk v⟩ (fun j _ => vp_updV_set (by rw [hl]; exact hf) v j)⟩ e2 e3 rfl)
theorem cS_putN {fld : List (Nat × Nat × Nat)} {ci f index : Nat} {fs : List Value} {v : Value} {ty : FieldType} (En : fw_Env p s m args c cc nL g own) (h : cS g A H0 H locs k E) (hj : j0 < k) (he : E j0 = .inr (ci, fs))
    (hfl : fw_Fld own fld) (hmem : (index, ci, f) ∈ fld) (hfin : ((fw_cl ci).2.1 f).2.2.2 = false) (hd : parseFieldDescriptor ((fw_cl ci).2.1 f).2.2.1 = some ty) (hn : narrow ty v = v) (hfit : fits ty v = true) (hl : fs.length = fw_nf ci) (hdg : decode cc pc = .ok (.putfield index, 3))
    (kk : ∀ (H1 : Heap) (locs1 : List Loc), cS g A H0 H1 locs1 k (cu E j0 (.inr (ci, fs.set f v))) → W p l e R s m args below meth c H1 locs1 cells slots Q (F0 m (pc + 3) la rest)) : W p l e R s m args below meth c H locs cells slots Q (F0 m pc la (v :: .ref (A + j0) :: rest)) := by
  obtain ⟨hx, hb, hml, hown, hts, hK⟩ := En
  obtain ⟨hci, hf, hT, hlk⟩ := hfl _ hmem
  dsimp only at hci hf hT hlk
  have hc := fw_cl_get ci hci
  have hN := fw_cl_n ci hci
  have hap := va_apart (own := own) hts (fw_cl_w ci hci) (fw_ty ci) (fw_ty_ok ci hci) (fw_nm_ok ci hci) hK hc
  have h2 := h.2.1 j0 hj
  rw [he] at h2
  obtain ⟨r, h1, cell, q1, q2, q3, q4⟩ := h2
  have hr : r = fw_cl ci := Option.some.inj (h1.symm.trans hc)
  subst hr
  obtain ⟨hS, hfc, kC, hkC, hkind⟩ := hK.1 ci _ hc
  have hk : f < (fw_cl ci).2.2 := by rw [hN]; exact hf
  obtain ⟨cf, kf, fi, fd, hi, hsl⟩ := hS f hk
  have hlay := hts _ (fw_cl_w ci hci _ (u_in_lay hk))
  unfold u_lay at hlay
  rw [if_neg (by rw [hfin]; decide)] at hlay
  have hst := (u_facts hfc hkC (u_lays hts (fw_cl_w ci hci) hk) hi).1
  have h6 := u_store hfc hkC hkind hlay hi hd hn hfit
  refine W.putK hx hb (f := fd) ⟨hown, hts _ hlk, ⟨_, _, _, by rw [hT] at hi; exact hi⟩, hst⟩ (by rw [q2]; exact h6) q1 q3 (by rw [hsl]; exact k2_hasslot (q4 f hk)) rfl rfl hdg fun H' e1 e2 e3 => ?_
  rw [hsl] at e1 ⊢
  exact kk H' _ (cS_upd h ⟨_, hc, t_OB.to (V := updV (vp_V fs) f v) ⟨_, e1, q2, q3, t_set q4 hap hk v⟩ (fun j _ => vp_updV_set (by rw [hl]; exact hf) v j)⟩ e2 e3 rfl)
theorem cS_new {ci index : Nat} {fs : List Value} (En : fw_Env p s m args c cc nL g own) (h : cS g A H0 H locs k E) (hci : ci < 6) (wcl : Cond.classLink own index (fw_cl ci).1 ∈ fw_LW) (wi : Cond.instantiable (fw_cl ci).1 (fw_cl ci).2.2 ∈ fw_LW) (wz : Cond.initialized (fw_cl ci).1 ∈ fw_LW)
    (hcells : cells + 1 ≤ R.cells) (hslots : slots + (fw_cl ci).2.2 ≤ R.slots) (hdg : decode cc pc = .ok (.new index, 3)) (hfs : ∀ j, j < (fw_cl ci).2.2 → defaultValue (fw_ty ci j) = vp_V fs j)
    (kk : ∀ H1 : Heap, cS g A H0 H1 locs (k + 1) (cu E k (.inr (ci, fs))) → W p l e R s m args below meth c H1 locs (cells + 1) (slots + (fw_cl ci).2.2) Q (F0 m (pc + 3) la (.ref (A + k) :: rest))) : W p l e R s m args below meth c H locs cells slots Q (F0 m pc la rest) := by
  obtain ⟨hx, hb, hml, hown, hts, hK⟩ := En
  have hc := fw_cl_get ci hci
  have hKn := hK.1 ci _ hc
  refine W.newcK hx hb hown (hts _ wcl) (hts _ wi) (hts _ wz) rfl hdg hcells hslots hKn.2.1 h.1 fun H1 kC hkC e1 z1 o1 => ?_
  exact kk H1 (cS_push h ⟨_, hc, (u_born (fw_ty ci) hts (fw_cl_w ci hci) hKn hkC e1 (fw_ty_ok ci hci)).to hfs⟩ z1 o1)
theorem cS_arr {atype : ArrayType} {t N : Nat} {n : Int32} {ty : FieldType} {a0 : vp_A} (En : fw_Env p s m args c cc nL g own) (h : cS g A H0 H locs k E) (harr : Cond.arrayClass (newarray.typeOf atype) ∈ fw_LW) (hty : newarray.typeOf atype = ty) (ht : (fw_tys g)[t]? = some (g.2.1 t, ty)) (hnm : ∀ cA, va_RA s cA ty → s.vm.findClass ("[" ++ ty.toString) = some cA)
    (ha : ∀ cA : ClassId, vp_cell cA a0 = arrV cA N (fun _ => defaultValue ty)) (hn : ¬ n < 0) (hN : n.toNatClampNeg = N) (hbytes : N * componentBytes ty ≤ 536870912) (hcells : cells + 1 ≤ R.cells) (hslots : slots + N ≤ R.slots) (hdg : decode cc pc = .ok (.newarray atype, 2))
    (kk : ∀ H1 : Heap, cS g A H0 H1 locs (k + 1) (cu E k (.inl (g.2.1 t, a0))) → W p l e R s m args below meth c H1 locs (cells + 1) (slots + N) Q (F0 m (pc + 2) la (.ref (A + k) :: rest))) : W p l e R s m args below meth c H locs cells slots Q (F0 m pc la (.int n :: rest)) := by
  obtain ⟨hx, hb, hml, hown, hts, hK⟩ := En
  subst hty
  refine va_newaK hx hb (hts _ harr) rfl hdg rfl hn hN hbytes hcells hslots h.1 fun H1 cA e1 z1 o1 _ hNm => ?_
  have e2 : cA = g.2.1 t := Option.some.inj (hNm.symm.trans (hnm _ (hK.2 t _ ht).2))
  subst e2
  refine kk H1 (cS_push h ?_ z1 o1)
  show H1[A + k]? = some (vp_cell _ _)
  rw [ha]
  exact e1
theorem cS_anew {t N index : Nat} {n : Int32} {C : String} (En : fw_Env p s m args c cc nL g own) (h : cS g A H0 H locs k E) (wcl : Cond.classLink own index C ∈ fw_LW) (hover : va_AO C s) (ht : (fw_tys g)[t]? = some (g.2.1 t, .object C)) (hn : ¬ n < 0) (hN : n.toNatClampNeg = N) (hbytes : N * 4 ≤ 536870912) (hcells : cells + 1 ≤ R.cells) (hslots : slots + N ≤ R.slots) (hdg : decode cc pc = .ok (.anewarray index, 3))
    (kk : ∀ H1 : Heap, cS g A H0 H1 locs (k + 1) (cu E k (.inl (g.2.1 t, N, .inr (.inr (.inr (.inr (fun _ => none))))))) → W p l e R s m args below meth c H1 locs (cells + 1) (slots + N) Q (F0 m (pc + 3) la (.ref (A + k) :: rest))) : W p l e R s m args below meth c H locs cells slots Q (F0 m pc la (.int n :: rest)) := by
  obtain ⟨hx, hb, hml, hown, hts, hK⟩ := En
  subst hN
  refine W.anew hx hb hown (hts _ wcl) (va_AO.use hover) rfl hdg rfl hn hbytes hcells hslots fun cA kA comp f1 f2 f3 f4 => ?_
  obtain ⟨kA', comp', -, -, -, f5⟩ := (hK.2 t _ ht).2
  have e2 : cA = g.2.1 t := Option.some.inj (f1.symm.trans f5)
  subst e2
  rw [h.1]
  refine kk _ (cS_push h ?_ (by rw [Array.size_push, h.1]) (fun q hq => by rw [Array.getElem?_push, h.1, if_neg (by omega)]))
  show (H.push _)[A + k]? = some (vp_cell _ _)
  rw [← h.1, Array.getElem?_push_size, vp_cell_q, ← arrV_new]
  rfl
theorem cS_aast {t ci n j1 : Nat} {i : Int32} {f : Nat → Option Nat} {vs : List Value} (En : fw_Env p s m args c cc nL g own) (h : cS g A H0 H locs k E) (hj : j0 < k) (he : E j0 = .inl (g.2.1 t, n, .inr (.inr (.inr (.inr f))))) (hj1 : j1 < k) (he1 : E j1 = .inr (ci, vs)) (hci : ci < 6) (ht : (fw_tys g)[t]? = some (g.2.1 t, .object (fw_cl ci).1)) (hin : vp_in i n) (hdg : decode cc pc = .ok (.aastore, 1))
    (kk : ∀ (H1 : Heap) (locs1 : List Loc), cS g A H0 H1 locs1 k (cu E j0 (.inl (g.2.1 t, n, .inr (.inr (.inr (.inr (va_up f i.toNatClampNeg (some (A + j1)))))))) ) → W p l e R s m args below meth c H1 locs1 cells slots Q (F0 m (pc + 1) la rest)) : W p l e R s m args below meth c H locs cells slots Q (F0 m pc la (.ref (A + j1) :: .int i :: .ref (A + j0) :: rest)) := by
  obtain ⟨hx, hb, hml, hown, hts, hK⟩ := En
  have hc := fw_cl_get ci hci
  have hlt : i.toNatClampNeg < n := Nat.not_le.mp fun q => hin (Or.inr q)
  have h0 : ¬ i < 0 := fun q => hin (Or.inl q)
  have hv := h.2.1 j1 hj1
  rw [he1] at hv
  obtain ⟨r', hr', cellV, g1, g2, g3, -⟩ := hv
  have ha := h.2.1 j0 hj
  rw [he] at ha
  have hcls := (hK.1 ci _ hc).2
  obtain ⟨kA, comp, k1, k2, k3, -⟩ := (hK.2 t _ ht).2
  have hcomp : comp = g.1.1 ci := Option.some.inj (k3.symm.trans hcls.1)
  subst hcomp
  obtain ⟨kC, hkC, -⟩ := hcls.2
  refine W.aast hx hb ha (fun q h => by cases h) (fun h => by cases h) k1 k2 rfl hkC ⟨h0, by show _ < (arrV _ _ _).slots.size; rw [arrV_size]; exact hlt⟩ g1 (fun q h => by rw [g3] at h; cases h) (by rw [g2]; exact hkC) (by rw [g2]; exact va_assign hcls) rfl rfl hdg fun H1 e z oq => ?_
  refine kk H1 _ (cS_upd h ?_ z oq rfl)
  show H1[A + j0]? = some (vp_cell _ _)
  rw [e]
  rw [vp_cell_q, vp_cell_q, arrV_store]
  congr 2
  funext q
  by_cases hq : q = i.toNatClampNeg
  · subst hq
    simp [updV, va_up, va_rf]
  · simp [updV, va_up, hq]
theorem cS_iast {n : Nat} {i x : Int32} {f : Nat → Int32} (En : fw_Env p s m args c cc nL g own) (h : cS g A H0 H locs k E) (hj : j0 < k) (he : E j0 = .inl (g.2.1 0, n, .inl f)) (hin : vp_in i n) (hdg : decode cc pc = .ok (.iastore, 1))
    (kk : ∀ (H1 : Heap) (locs1 : List Loc), cS g A H0 H1 locs1 k (cu E j0 (.inl (g.2.1 0, n, .inl (upd f i.toNatClampNeg x)))) → W p l e R s m args below meth c H1 locs1 cells slots Q (F0 m (pc + 1) la rest)) : W p l e R s m args below meth c H locs cells slots Q (F0 m pc la (.int x :: .int i :: .ref (A + j0) :: rest)) := by
  obtain ⟨hx, hb, hml, hown, hts, hK⟩ := En
  have ha := h.2.1 j0 hj
  rw [he] at ha
  refine W.iast hx hb ha ((hK.2 0 _ rfl).1 n (fun j => .int (f j))) (fun q => by cases q) (by show ¬ (i < 0 ∨ (arrV _ _ _).slots.size ≤ _); rw [arrV_size]; exact hin) rfl rfl hdg fun H1 e z oq => ?_
  refine kk H1 _ (cS_upd h ?_ z oq rfl)
  show H1[A + j0]? = some (vp_cell _ _)
  rw [e]
  rw [vp_cell_i, vp_cell_i, arrV_store]
  congr 2
  funext q
  by_cases hq : q = i.toNatClampNeg
  · subst hq
    simp [updV, upd]
  · simp [updV, upd, hq]
theorem cS_get {fld : List (Nat × Nat × Nat)} {ci f index : Nat} {fs : List Value} {v : Value} (En : fw_Env p s m args c cc nL g own) (h : cS g A H0 H locs k E) (hj : j0 < k) (he : E j0 = .inr (ci, fs)) (hfl : fw_Fld own fld) (hmem : (index, ci, f) ∈ fld) (hv : fs[f]? = some v) (hdg : decode cc pc = .ok (.getfield index, 3))
    (kk : W p l e R s m args below meth c H locs cells slots Q (F0 m (pc + 3) la (v :: rest))) : W p l e R s m args below meth c H locs cells slots Q (F0 m pc la (.ref (A + j0) :: rest)) := by
  obtain ⟨hx, hb, hml, hown, hts, hK⟩ := En
  obtain ⟨hci, hf, hT, hlk⟩ := hfl _ hmem
  dsimp only at hci hf hT hlk
  exact va_get (D := g.1) (cl := vwCl) (tys := fw_tys g) (ws := [(A + j0, .inr (ci, fs))]) (C := (fw_cl ci).1) (T := (fw_cl ci).2.1) (N := (fw_cl ci).2.2) (ref := (fw_cl ci).1) (ci := ci) hx hb hts (fw_cl_w ci hci) hown hK (cS_P h hj he) 0 rfl (fw_cl_get ci hci) f (by rw [fw_cl_n ci hci]; exact hf) (hts _ hlk) (fun x hx => by rw [hT] at hx; exact hx) hv hdg kk
theorem cS_alen {t : Nat} {x : vp_A} {ty : FieldType} {v : Int32} (En : fw_Env p s m args c cc nL g own) (h : cS g A H0 H locs k E) (hj : j0 < k) (he : E j0 = .inl (g.2.1 t, x)) (ht : (fw_tys g)[t]? = some (g.2.1 t, ty)) (hv : Int32.ofNat x.1 = v) (hdg : decode cc pc = .ok (.arraylength, 1))
    (kk : W p l e R s m args below meth c H locs cells slots Q (F0 m (pc + 1) la (.int v :: rest))) : W p l e R s m args below meth c H locs cells slots Q (F0 m pc la (.ref (A + j0) :: rest)) := by
  obtain ⟨hx, hb, hml, hown, hts, hK⟩ := En
  exact va_alen (D := g.1) (cl := vwCl) (tys := fw_tys g) (ws := [(A + j0, .inl (g.2.1 t, x))]) hx hb hK (cS_P h hj he) 0 t rfl ht hv hdg kk
end C2
end CI

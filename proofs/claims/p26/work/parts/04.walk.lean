/-! THE WALKER: what must hold before a stretch of code so that it ends as asked; a number a decoded instruction, no machine in it -/
section WK
abbrev fw_L : Type := List (Option Value)
/-- pc, length, instruction, its number, its target -/
abbrev fw_Ent : Type := Nat × Nat × Instr × Int32 × Nat
/-- what a callee does: from its arguments and the memory to what must hold behind it -/
abbrev fw_CT : Type := List Value → fw_M → (Option Value → fw_M → Prop) → Prop
/-- index; kind (0 virtual, 1 static), the receiver's kind, how many arguments, how many cells come, what it does -/
abbrev fw_Cal : Type := Nat × Nat × Nat × Nat × Nat × fw_CT
abbrev fw_K : Type := Nat → Option (List Bool × (fw_L → List Value → fw_M → Prop))
/-- a side condition, kept whole -/
def fw_sd (P : Prop) : Prop := P ∨ False
theorem fw_sd_e {P : Prop} (h : fw_sd P) : P := h.elim id False.elim
theorem fw_sd_i {P : Prop} (h : P) : fw_sd P := Or.inl h
def fw_lg : fw_L → Nat → Option Value
  | [], _ => none
  | o :: _, 0 => o
  | _ :: t, i + 1 => fw_lg t i
def fw_c2 : Option Value → Bool
  | some (.long _) => true
  | some (.double _) => true
  | _ => false
def fw_s1 : fw_L → Nat → Value → fw_L
  | [], _, _ => []
  | _ :: t, 0, v => some v :: t
  | o :: t, 1, v => (bif fw_c2 o then none else o) :: fw_s1 t 0 v
  | o :: t, i + 2, v => o :: fw_s1 t (i + 1) v
def fw_s2 : fw_L → Nat → Value → fw_L
  | [], _, _ => []
  | [_], 0, _ => []
  | _ :: _ :: t, 0, v => some v :: none :: t
  | o :: t, 1, v => (bif fw_c2 o then none else o) :: fw_s2 t 0 v
  | o :: t, i + 2, v => o :: fw_s2 t (i + 1) v
def fw_find {α : Type} (i : Nat) : List (Nat × α) → Option α
  | [] => none
  | q :: t => bif Nat.beq q.1 i then some q.2 else fw_find i t
def fw_findC (i : Nat) : List fw_Cal → Option (Nat × Nat × Nat × Nat × fw_CT)
  | [] => none
  | q :: t => bif Nat.beq q.1 i then some q.2 else fw_findC i t
def fw_seek (t : Nat) : List fw_Ent → List fw_Ent
  | [] => []
  | e :: r => bif Nat.beq e.1 t then e :: r else fw_seek t r
def fw_mk : List Bool → fw_L → fw_L
  | b :: bs, o :: ls => (bif b then o else none) :: fw_mk bs ls
  | _, _ => []
/-! shapes of the stack -/
def fw_i (st : List Value) (f : Int32 → List Value → Prop) : Prop := match st with
  | .int x :: r => f x r
  | _ => False
def fw_ii (st : List Value) (f : Int32 → Int32 → List Value → Prop) : Prop := match st with
  | .int y :: .int x :: r => f x y r
  | _ => False
def fw_r (st : List Value) (f : Nat → List Value → Prop) : Prop := match st with
  | .ref a :: r => f a r
  | _ => False
def fw_ri (st : List Value) (f : Nat → Int32 → List Value → Prop) : Prop := match st with
  | .int i :: .ref a :: r => f a i r
  | _ => False
def fw_rii (st : List Value) (f : Nat → Int32 → Int32 → List Value → Prop) : Prop := match st with
  | .int x :: .int i :: .ref a :: r => f a i x r
  | _ => False
def fw_ril (st : List Value) (f : Nat → Int32 → Int64 → List Value → Prop) : Prop := match st with
  | .long x :: .int i :: .ref a :: r => f a i x r
  | _ => False
def fw_l (st : List Value) (f : Int64 → List Value → Prop) : Prop := match st with
  | .long x :: r => f x r
  | _ => False
def fw_ll (st : List Value) (f : Int64 → Int64 → List Value → Prop) : Prop := match st with
  | .long y :: .long x :: r => f x y r
  | _ => False
def fw_d (st : List Value) (f : UInt64 → List Value → Prop) : Prop := match st with
  | .double x :: r => f x r
  | _ => False
def fw_dd (st : List Value) (f : UInt64 → UInt64 → List Value → Prop) : Prop := match st with
  | .double y :: .double x :: r => f x y r
  | _ => False
def fw_a (st : List Value) (f : Value → List Value → Prop) (n : List Value → Prop) : Prop := match st with
  | .ref a :: r => f (.ref a) r
  | .null :: r => n r
  | _ => False
/-- one word on top -/
def fw_w (st : List Value) (f : Value → List Value → Prop) : Prop := match st with
  | .int x :: r => f (.int x) r
  | .ref a :: r => f (.ref a) r
  | .null :: r => f .null r
  | _ => False
theorem fw_i_e {st : List Value} {f : Int32 → List Value → Prop} (h : fw_i st f) : ∃ x r, st = .int x :: r ∧ f x r := by
  unfold fw_i at h
  split at h
  · exact ⟨_, _, rfl, h⟩
  · exact h.elim
theorem fw_ii_e {st : List Value} {f : Int32 → Int32 → List Value → Prop} (h : fw_ii st f) : ∃ x y r, st = .int y :: .int x :: r ∧ f x y r := by
  unfold fw_ii at h
  split at h
  · exact ⟨_, _, _, rfl, h⟩
  · exact h.elim
theorem fw_r_e {st : List Value} {f : Nat → List Value → Prop} (h : fw_r st f) : ∃ x r, st = .ref x :: r ∧ f x r := by
  unfold fw_r at h
  split at h
  · exact ⟨_, _, rfl, h⟩
  · exact h.elim
theorem fw_ri_e {st : List Value} {f : Nat → Int32 → List Value → Prop} (h : fw_ri st f) : ∃ a i r, st = .int i :: .ref a :: r ∧ f a i r := by
  unfold fw_ri at h
  split at h
  · exact ⟨_, _, _, rfl, h⟩
  · exact h.elim
theorem fw_rii_e {st : List Value} {f : Nat → Int32 → Int32 → List Value → Prop} (h : fw_rii st f) : ∃ a i x r, st = .int x :: .int i :: .ref a :: r ∧ f a i x r := by
  unfold fw_rii at h
  split at h
  · exact ⟨_, _, _, _, rfl, h⟩
  · exact h.elim
theorem fw_ril_e {st : List Value} {f : Nat → Int32 → Int64 → List Value → Prop} (h : fw_ril st f) : ∃ a i x r, st = .long x :: .int i :: .ref a :: r ∧ f a i x r := by
  unfold fw_ril at h
  split at h
  · exact ⟨_, _, _, _, rfl, h⟩
  · exact h.elim
theorem fw_l_e {st : List Value} {f : Int64 → List Value → Prop} (h : fw_l st f) : ∃ x r, st = .long x :: r ∧ f x r := by
  unfold fw_l at h
  split at h
  · exact ⟨_, _, rfl, h⟩
  · exact h.elim
theorem fw_ll_e {st : List Value} {f : Int64 → Int64 → List Value → Prop} (h : fw_ll st f) : ∃ x y r, st = .long y :: .long x :: r ∧ f x y r := by
  unfold fw_ll at h
  split at h
  · exact ⟨_, _, _, rfl, h⟩
  · exact h.elim
theorem fw_d_e {st : List Value} {f : UInt64 → List Value → Prop} (h : fw_d st f) : ∃ x r, st = .double x :: r ∧ f x r := by
  unfold fw_d at h
  split at h
  · exact ⟨_, _, rfl, h⟩
  · exact h.elim
theorem fw_dd_e {st : List Value} {f : UInt64 → UInt64 → List Value → Prop} (h : fw_dd st f) : ∃ x y r, st = .double y :: .double x :: r ∧ f x y r := by
  unfold fw_dd at h
  split at h
  · exact ⟨_, _, _, rfl, h⟩
  · exact h.elim
theorem fw_a_e {st : List Value} {f : Value → List Value → Prop} {n : List Value → Prop} (h : fw_a st f n) : (∃ a r, st = .ref a :: r ∧ f (.ref a) r) ∨ ∃ r, st = .null :: r ∧ n r := by
  unfold fw_a at h
  split at h
  · exact Or.inl ⟨_, _, rfl, h⟩
  · exact Or.inr ⟨_, rfl, h⟩
  · exact h.elim
theorem fw_w_e {st : List Value} {f : Value → List Value → Prop} (h : fw_w st f) : ∃ v r, st = v :: r ∧ v.category = 1 ∧ f v r := by
  unfold fw_w at h
  split at h
  · exact ⟨_, _, rfl, rfl, h⟩
  · exact ⟨_, _, rfl, rfl, h⟩
  · exact ⟨_, _, rfl, rfl, h⟩
  · exact h.elim
def fw_li (o : Option Value) (f : Int32 → Prop) : Prop := match o with
  | some (.int x) => f x
  | _ => False
def fw_la (o : Option Value) (f : Value → Prop) : Prop := match o with
  | some (.ref a) => f (.ref a)
  | some .null => f .null
  | _ => False
def fw_lo64 (o : Option Value) (f : Int64 → Prop) : Prop := match o with
  | some (.long x) => f x
  | _ => False
def fw_ld64 (o : Option Value) (f : UInt64 → Prop) : Prop := match o with
  | some (.double x) => f x
  | _ => False
theorem fw_li_e {o : Option Value} {f : Int32 → Prop} (h : fw_li o f) : ∃ x, o = some (.int x) ∧ f x := by
  unfold fw_li at h
  split at h
  · exact ⟨_, rfl, h⟩
  · exact h.elim
theorem fw_la_e {o : Option Value} {f : Value → Prop} (h : fw_la o f) : (∃ a, o = some (.ref a) ∧ f (.ref a)) ∨ (o = some .null ∧ f .null) := by
  unfold fw_la at h
  split at h
  · exact Or.inl ⟨_, rfl, h⟩
  · exact Or.inr ⟨rfl, h⟩
  · exact h.elim
theorem fw_lo64_e {o : Option Value} {f : Int64 → Prop} (h : fw_lo64 o f) : ∃ x, o = some (.long x) ∧ f x := by
  unfold fw_lo64 at h
  split at h
  · exact ⟨_, rfl, h⟩
  · exact h.elim
theorem fw_ld64_e {o : Option Value} {f : UInt64 → Prop} (h : fw_ld64 o f) : ∃ x, o = some (.double x) ∧ f x := by
  unfold fw_ld64 at h
  split at h
  · exact ⟨_, rfl, h⟩
  · exact h.elim
/-- a call: enough on the stack, not too much left, a receiver of the right kind -/
def fw_rcv (B kind ci : Nat) (as : List Value) (P : Prop) : Prop := match kind, as with
  | 0, .ref b :: _ => fw_kd B b = ci ∧ P
  | 1, _ => P
  | _, _ => False
/-- the memory behind a call: where cells come (in the law alone) they are counted -/
def fw_inc : Nat → fw_M → fw_M → fw_M
  | 0, _, M' => M'
  | n + 1, M, M' => (M'.1, M'.2.1, M.2.2 + (n + 1))
def fw_cti (inc : Nat) (ct : fw_CT) (as : List Value) (M : fw_M) (k : Option Value → fw_M → Prop) : Prop := match inc with
  | 0 => ct as M k
  | n + 1 => ct as M (fun r M' => k r (M'.1, M'.2.1, M.2.2 + (n + 1)))
theorem fw_cti_e {inc : Nat} {ct : fw_CT} {as : List Value} {M : fw_M} {k : Option Value → fw_M → Prop} (h : fw_cti inc ct as M k) : ct as M (fun r M' => k r (fw_inc inc M M')) := by
  cases inc <;> exact h
def fw_call (B kind : Nat) (en : Option (Nat × Nat × Nat × Nat × fw_CT)) (st : List Value) (M : fw_M) (k : List Value → fw_M → Prop) : Prop := match en with
  | some (kd, ci, n, inc, ct) => bif Nat.beq kd kind && Nat.ble n st.length && Nat.ble (((st.drop n).map fun v => v.category).sum) 8 then fw_rcv B kind ci (st.take n).reverse (fw_cti inc ct (st.take n).reverse M (fun r M' => k (r.toList ++ st.drop n) M')) else False
  | none => False
/-- a switch's rows -/
def fw_tsw (x : Int32) (pc : Nat) (jp : Nat → Prop) : List Int → Int → Prop
  | [], _ => True
  | o :: os, v => (x.toInt = v → jp ((pc : Int) + o).toNat) ∧ fw_tsw x pc jp os (v + 1)
def fw_lsw (x : Int32) (jp : Int → Prop) (d : Int) : List (Int × Int) → Prop
  | [] => jp d
  | q :: qs => (x.toInt = q.1 → jp q.2) ∧ (¬ x.toInt = q.1 → fw_lsw x jp d qs)
section STP
variable (B : Nat) (fld : List (Nat × Nat × Nat)) (cal : List fw_Cal) (thr : List (Nat × String)) (cst : List (Nat × Value)) (scr : Option (Nat × Nat × Option (Nat → Int32))) (rt : Option FieldType) (Q : Option Value → fw_M → Prop) (QX : String → fw_M → Prop)
def fw_get (B : Nat) (q : Option (Nat × Nat)) (a : Nat) (M : fw_M) (k : Value → Prop) : Prop := match q with
  | some (ci, j) => fw_kd B a = ci ∧ k (fw_fv ci j a M)
  | none => False
def fw_putv (B : Nat) (q : Option (Nat × Nat)) (st : List Value) (M : fw_M) (k : List Value → fw_M → Prop) : Prop := match q, st with
  | some (ci, j), .int x :: .ref a :: r => bif Nat.beq (fw_fc ci j) 0 then fw_kd B a = ci ∧ k r (fw_st M a j x) else False
  | _, _ => False
def fw_iald (B : Nat) (scr : Option (Nat × Nat × Option (Nat → Int32))) (a : Nat) (i : Int32) (M : fw_M) (k : Int32 → Prop) : Prop := match scr with
  | none => fw_kd B a = 7 ∧ fw_sd (vp_in i (fw_len B a)) ∧ k (M.1 a i.toNatClampNeg)
  | some (b, L, some xs) => a = b ∧ fw_sd (vp_in i L) ∧ k (xs i.toNatClampNeg)
  | some (b, L, none) => (a = b ∧ fw_sd (vp_in i L) ∧ k (M.1 b i.toNatClampNeg)) ∨ (fw_kd B a = 7 ∧ fw_sd (vp_in i (fw_len B a)) ∧ k (M.1 a i.toNatClampNeg))
/-- a place of a row is written -/
def fw_iast (B : Nat) (scr : Option (Nat × Nat × Option (Nat → Int32))) (a : Nat) (i x : Int32) (M : fw_M) (k : fw_M → Prop) : Prop := match scr with
  | some (b, L, none) => (a = b ∧ fw_sd (vp_in i L) ∧ k (fw_st M b i.toNatClampNeg x)) ∨ (fw_kd B a = 7 ∧ fw_sd (vp_in i (fw_len B a)) ∧ k (fw_st M a i.toNatClampNeg x))
  | _ => fw_kd B a = 7 ∧ fw_sd (vp_in i (fw_len B a)) ∧ k (fw_st M a i.toNatClampNeg x)
def fw_aln (B a : Nat) : Nat := if fw_kd B a = 7 then fw_len B a else fw_al (fw_kd B a)
def fw_alen (B : Nat) (scr : Option (Nat × Nat × Option (Nat → Int32))) (a : Nat) (k : Int32 → Prop) : Prop := match scr with
  | none => 7 ≤ fw_kd B a ∧ fw_kd B a ≤ 10 ∧ k (Int32.ofNat (fw_aln B a))
  | some (b, L, some _) => a = b ∧ k (Int32.ofNat L)
  | some (_, _, none) => False
def fw_endi (rt : Option FieldType) (Q : Option Value → fw_M → Prop) (st : List Value) (M : fw_M) : Prop := match rt, st with
  | some .int, [.int x] => Q (some (.int x)) M
  | some .boolean, [.int x] => (x = 0 ∨ x = 1) ∧ Q (some (.int x)) M
  | _, _ => False
def fw_enda (rt : Option FieldType) (Q : Option Value → fw_M → Prop) (st : List Value) (M : fw_M) : Prop := match rt, st with
  | some (.object _), [.ref a] => Q (some (.ref a)) M
  | some (.object _), [.null] => Q (some .null) M
  | _, _ => False
def fw_endl (rt : Option FieldType) (Q : Option Value → fw_M → Prop) (st : List Value) (M : fw_M) : Prop := match rt, st with
  | some .long, [.long x] => Q (some (.long x)) M
  | _, _ => False
def fw_endd (rt : Option FieldType) (Q : Option Value → fw_M → Prop) (st : List Value) (M : fw_M) : Prop := match rt, st with
  | some .double, [.double x] => Q (some (.double x)) M
  | _, _ => False
def fw_endv (rt : Option FieldType) (Q : Option Value → fw_M → Prop) (st : List Value) (M : fw_M) : Prop := match rt, st with
  | none, [] => Q none M
  | _, _ => False
def fw_newx (QX : String → fw_M → Prop) (q : Option String) (st : List Value) (M : fw_M) : Prop := match q, st with
  | some E, [] => QX E M
  | _, _ => False
def fw_stp (e : fw_Ent) (ls : fw_L) (st : List Value) (M : fw_M) (nx : fw_L → List Value → fw_M → Prop) (jp : Nat → fw_L → List Value → fw_M → Prop) : Prop := match e.2.2.1 with
  | .aconst_null => nx ls (.null :: st) M
  | .iconst _ => nx ls (.int e.2.2.2.1 :: st) M
  | .bipush _ => nx ls (.int e.2.2.2.1 :: st) M
  | .sipush _ => nx ls (.int e.2.2.2.1 :: st) M
  | .ldc _ => nx ls (.int e.2.2.2.1 :: st) M
  | .ldc_w _ => nx ls (.int e.2.2.2.1 :: st) M
  | .ldc2_w i => (match fw_find i cst with | some (.long v) => nx ls (.long v :: st) M | _ => False)
  | .dconst _ => nx ls (.double FP.dconst1 :: st) M
  | .iload_n k => fw_li (fw_lg ls k.val) fun x => nx ls (.int x :: st) M
  | .iload k => fw_li (fw_lg ls k) fun x => nx ls (.int x :: st) M
  | .aload_n k => fw_la (fw_lg ls k.val) fun x => nx ls (x :: st) M
  | .aload k => fw_la (fw_lg ls k) fun x => nx ls (x :: st) M
  | .lload_n k => fw_lo64 (fw_lg ls k.val) fun x => nx ls (.long x :: st) M
  | .lload k => fw_lo64 (fw_lg ls k) fun x => nx ls (.long x :: st) M
  | .dload_n k => fw_ld64 (fw_lg ls k.val) fun x => nx ls (.double x :: st) M
  | .dload k => fw_ld64 (fw_lg ls k) fun x => nx ls (.double x :: st) M
  | .istore_n k => fw_i st fun x r => nx (fw_s1 ls k.val (.int x)) r M
  | .istore k => fw_i st fun x r => nx (fw_s1 ls k (.int x)) r M
  | .astore_n k => fw_a st (fun x r => nx (fw_s1 ls k.val x) r M) (fun r => nx (fw_s1 ls k.val .null) r M)
  | .astore k => fw_a st (fun x r => nx (fw_s1 ls k x) r M) (fun r => nx (fw_s1 ls k .null) r M)
  | .lstore_n k => fw_l st fun x r => nx (fw_s2 ls k.val (.long x)) r M
  | .lstore k => fw_l st fun x r => nx (fw_s2 ls k (.long x)) r M
  | .dstore_n k => fw_d st fun x r => nx (fw_s2 ls k.val (.double x)) r M
  | .dstore k => fw_d st fun x r => nx (fw_s2 ls k (.double x)) r M
  | .iinc k _ => fw_li (fw_lg ls k) fun x => nx (fw_s1 ls k (.int (x + e.2.2.2.1))) st M
  | .iadd => fw_ii st fun x y r => nx ls (.int (x + y) :: r) M
  | .isub => fw_ii st fun x y r => nx ls (.int (x - y) :: r) M
  | .imul => fw_ii st fun x y r => nx ls (.int (x * y) :: r) M
  | .iand => fw_ii st fun x y r => nx ls (.int (x &&& y) :: r) M
  | .ior => fw_ii st fun x y r => nx ls (.int (x ||| y) :: r) M
  | .ixor => fw_ii st fun x y r => nx ls (.int (x ^^^ y) :: r) M
  | .ishl => fw_ii st fun x y r => nx ls (.int (x <<< (y &&& 31)) :: r) M
  | .ishr => fw_ii st fun x y r => nx ls (.int (x >>> (y &&& 31)) :: r) M
  | .idiv => fw_ii st fun x y r => fw_sd (¬ y = 0) ∧ nx ls (.int (x / y) :: r) M
  | .irem => fw_ii st fun x y r => fw_sd (¬ y = 0) ∧ nx ls (.int (x - x / y * y) :: r) M
  | .ineg => fw_i st fun x r => nx ls (.int (-x) :: r) M
  | .i2l => fw_i st fun x r => nx ls (.long x.toInt64 :: r) M
  | .i2d => fw_i st fun x r => nx ls (.double (FP.i2d x) :: r) M
  | .ladd => fw_ll st fun x y r => nx ls (.long (x + y) :: r) M
  | .lmul => fw_ll st fun x y r => nx ls (.long (x * y) :: r) M
  | .lcmp => fw_ll st fun x y r => nx ls (.int (lg_cmp x y) :: r) M
  | .ddiv => fw_dd st fun x y r => vf_n64 (FP.ddiv x y) ∧ nx ls (.double (FP.ddiv x y) :: r) M
  | .dcmp op => fw_dd st fun x y r => nx ls (.int (Op.cmpValue (FP.dcmp x y) op) :: r) M
  | .dup => fw_w st fun v r => nx ls (v :: v :: r) M
  | .pop => fw_w st fun _ r => nx ls r M
  | .dup2 => fw_w st fun v r => fw_w r fun u r => nx ls (v :: u :: v :: u :: r) M
  | .if_icmp .eq _ => fw_ii st fun x y r => (x = y → jp e.2.2.2.2 ls r M) ∧ (¬ x = y → nx ls r M)
  | .if_icmp .ne _ => fw_ii st fun x y r => (¬ x = y → jp e.2.2.2.2 ls r M) ∧ (x = y → nx ls r M)
  | .if_icmp .lt _ => fw_ii st fun x y r => (x < y → jp e.2.2.2.2 ls r M) ∧ (¬ x < y → nx ls r M)
  | .if_icmp .ge _ => fw_ii st fun x y r => (y ≤ x → jp e.2.2.2.2 ls r M) ∧ (¬ y ≤ x → nx ls r M)
  | .if_icmp .gt _ => fw_ii st fun x y r => (y < x → jp e.2.2.2.2 ls r M) ∧ (¬ y < x → nx ls r M)
  | .if_icmp .le _ => fw_ii st fun x y r => (x ≤ y → jp e.2.2.2.2 ls r M) ∧ (¬ x ≤ y → nx ls r M)
  | .ifCond .eq _ => fw_i st fun x r => (x = 0 → jp e.2.2.2.2 ls r M) ∧ (¬ x = 0 → nx ls r M)
  | .ifCond .ne _ => fw_i st fun x r => (¬ x = 0 → jp e.2.2.2.2 ls r M) ∧ (x = 0 → nx ls r M)
  | .ifCond .lt _ => fw_i st fun x r => (x < 0 → jp e.2.2.2.2 ls r M) ∧ (¬ x < 0 → nx ls r M)
  | .ifCond .ge _ => fw_i st fun x r => (0 ≤ x → jp e.2.2.2.2 ls r M) ∧ (¬ 0 ≤ x → nx ls r M)
  | .ifCond .gt _ => fw_i st fun x r => (0 < x → jp e.2.2.2.2 ls r M) ∧ (¬ 0 < x → nx ls r M)
  | .ifCond .le _ => fw_i st fun x r => (x ≤ 0 → jp e.2.2.2.2 ls r M) ∧ (¬ x ≤ 0 → nx ls r M)
  | .ifnull _ => fw_a st (fun _ r => nx ls r M) (fun r => jp e.2.2.2.2 ls r M)
  | .ifnonnull _ => fw_a st (fun _ r => jp e.2.2.2.2 ls r M) (fun r => nx ls r M)
  | .goto _ => jp e.2.2.2.2 ls st M
  | .tableswitch d lo hi offs => fw_i st fun x r => fw_tsw x e.1 (fun t => jp t ls r M) offs.toList lo ∧ (x.toInt < lo ∨ hi < x.toInt → jp ((e.1 : Int) + d).toNat ls r M)
  | .lookupswitch d ps => fw_i st fun x r => fw_lsw x (fun o => jp ((e.1 : Int) + o).toNat ls r M) d ps.toList
  | .getfield i => fw_r st fun a r => fw_get B (fw_find i fld) a M fun v => nx ls (v :: r) M
  | .putfield i => fw_putv B (fw_find i fld) st M fun r M' => nx ls r M'
  | .iaload => fw_ri st fun a i r => fw_iald B scr a i M fun x => nx ls (.int x :: r) M
  | .iastore => fw_rii st fun a i x r => fw_iast B scr a i x M fun M' => nx ls r M'
  | .aaload => fw_ri st fun a i r => 8 ≤ fw_kd B a ∧ fw_kd B a ≤ 10 ∧ fw_sd (vp_in i (fw_al (fw_kd B a))) ∧ nx ls (.ref (fw_el (fw_kd B a) a i.toNatClampNeg) :: r) M
  | .arraylength => fw_r st fun a r => fw_alen B scr a fun x => nx ls (.int x :: r) M
  | .invokevirtual i => fw_call B 0 (fw_findC i cal) st M fun r M' => nx ls r M'
  | .invokestatic i => fw_call B 1 (fw_findC i cal) st M fun r M' => nx ls r M'
  | .new i => fw_newx QX (fw_find i thr) st M
  | .ireturn => fw_endi rt Q st M
  | .areturn => fw_enda rt Q st M
  | .lreturn => fw_endl rt Q st M
  | .dreturn => fw_endd rt Q st M
  | .return_ => fw_endv rt Q st M
  | _ => False
variable (code : List fw_Ent) (K : fw_K)
def fw_wp : Nat → Bool → List fw_Ent → fw_L → List Value → fw_M → Prop
  | 0, _, _, _, _, _ => False
  | _ + 1, _, [], _, _, _ => False
  | n + 1, b, e :: tl, ls, st, M => match b, K e.1 with
    | false, some q => q.2 (fw_mk q.1 ls) st M
    | _, _ => fw_stp B fld cal thr cst scr rt Q QX e ls st M (fun ls st M => fw_wp n false tl ls st M) (fun t ls st M => fw_wp n false (fw_seek t code) ls st M)
end STP
end WK

/-! THE CLASS'S FACE: what its methods do -/
section FC
/-- the class holds Z -/
def RC (B : Nat) (M : fw_M) (Z : Zs) : Prop := Rep M.1 (B + 1) Z.1 ∧ HS B M Z.2.1 Z.2.2.1 ∧ TS B M Z.2.2.2.1 Z.2.2.2.2
def JZ (Z : Zs) : Prop := J Z.1 ∧ ∀ i, i < Z.2.1 → J (Z.2.2.1 i)
/-- nothing but the class's own has changed -/
def FC (B : Nat) (M M' : fw_M) : Prop := (∀ b, B + 492 ≤ b → M'.1 b = M.1 b) ∧ M'.2 = M.2
/-- what a call throws -/
def exA : Nat → String
  | 1 => "java/lang/IllegalArgumentException"
  | _ => "java/lang/IllegalStateException"
def exB : Nat → String
  | 1 => "java/lang/IndexOutOfBoundsException"
  | _ => "java/lang/IllegalArgumentException"
def exC : Nat → String := fun _ => "java/lang/IllegalStateException"
def ctC (B : Nat) (op : Op) (ex : Nat → String) (a : Nat) (M : fw_M) (Q : Option Value → fw_M → Prop) (QX : String → fw_M → Prop) : Prop := a = B ∧ ∃ Z, RC B M Z ∧ GZ Z ∧ JZ Z ∧ ((op Z).1 = 0 → ∀ M', RC B M' (op Z).2.2 → FC B M M' → Q (some (.int (op Z).2.1)) M') ∧ ((op Z).1 ≠ 0 → QX (ex (op Z).1) M)
def ct_X5_addCourier (B : Nat) : fw_CTX := fun as M Q QX => match as with
  | [.ref a, .int x, .int y] => ctC B (opAdd x y) exA a M Q QX
  | _ => False
def ct_X5_setArea (B : Nat) : fw_CTX := fun as M Q QX => match as with
  | [.ref a, .int x, .int y] => ctC B (opArea x y) exB a M Q QX
  | _ => False
def ct_X5_give (B : Nat) : fw_CTX := fun as M Q QX => match as with
  | [.ref a, .int x, .int y, .int z, .int u] => ctC B (opGive x y z u) exA a M Q QX
  | _ => False
def ct_X5_setGrace (B : Nat) : fw_CTX := fun as M Q QX => match as with
  | [.ref a, .int x] => ctC B (opGrace x) exA a M Q QX
  | _ => False
def ct_X5_drop (B : Nat) : fw_CTX := fun as M Q QX => match as with
  | [.ref a, .int x] => ctC B (opDrop x) exB a M Q QX
  | _ => False
def ct_X5_run (B : Nat) : fw_CTX := fun as M Q QX => match as with
  | [.ref a, .int x] => ctC B (opRun x) exA a M Q QX
  | _ => False
def ct_X5_value (B : Nat) : fw_CTX := fun as M Q QX => match as with
  | [.ref a, .int x] => ctC B (opValue x) exA a M Q QX
  | _ => False
def ct_X5_courier (B : Nat) : fw_CTX := fun as M Q QX => match as with
  | [.ref a, .int x, .int y] => ctC B (opCourier x y) exB a M Q QX
  | _ => False
def ct_X5_parcel (B : Nat) : fw_CTX := fun as M Q QX => match as with
  | [.ref a, .int x, .int y] => ctC B (opParcel x y) exB a M Q QX
  | _ => False
def ct_X5_legs (B : Nat) : fw_CTX := fun as M Q QX => match as with
  | [.ref a, .int x, .int y, .int z] => ctC B (opLegs x y z) exB a M Q QX
  | _ => False
def ct_X5_distance (B : Nat) : fw_CTX := fun as M Q QX => match as with
  | [.ref a, .int x, .int y] => ctC B (opDist x y) exB a M Q QX
  | _ => False
def ct_X5_suited (B : Nat) : fw_CTX := fun as M Q QX => match as with
  | [.ref a, .int x] => ctC B (opSuited x) exB a M Q QX
  | _ => False
def ct_X5_leastRelay (B : Nat) : fw_CTX := fun as M Q QX => match as with
  | [.ref a, .int x] => ctC B (opRelay x) exB a M Q QX
  | _ => False
def ct_X5_paidIn (B : Nat) : fw_CTX := fun as M Q QX => match as with
  | [.ref a, .int x] => ctC B (opPaid x) exA a M Q QX
  | _ => False
def ct_X5_bestZone (B : Nat) : fw_CTX := fun as M Q QX => match as with
  | [.ref a, .int x, .int y] => ctC B (opBest x y) exB a M Q QX
  | _ => False
def ct_X5_worth (B : Nat) : fw_CTX := fun as M Q QX => match as with
  | [.ref a, .int x, .int y] => ctC B (opWorth x y) exB a M Q QX
  | _ => False
def ct_X5_doneIn (B : Nat) : fw_CTX := fun as M Q QX => match as with
  | [.ref a] => ctC B opDone exA a M Q QX
  | _ => False
def ct_X5_append (B : Nat) : fw_CTX := fun as M Q QX => match as with
  | [.ref a, .int x] => ctC B (opAppend x) exA a M Q QX
  | _ => False
def ct_X5_clearText (B : Nat) : fw_CTX := fun as M Q QX => match as with
  | [.ref a] => ctC B opClear exA a M Q QX
  | _ => False
def ct_X5_undo (B : Nat) : fw_CTX := fun as M Q QX => match as with
  | [.ref a] => ctC B opUndo exC a M Q QX
  | _ => False
def ct_X5_punctuality (B : Nat) : fw_CTX := fun as M Q _ => match as with
  | [.ref a] => a = B ∧ ∃ Z, RC B M Z ∧ GZ Z ∧ Q (some (.double (punS Z.1))) M
  | _ => False
def ct_X5_digest (B : Nat) : fw_CTX := fun as M Q _ => match as with
  | [.ref a] => a = B ∧ ∃ Z, RC B M Z ∧ GZ Z ∧ Q (some (.long (dgst Z))) M
  | _ => False
theorem kB {B : Nat} : fw_kd B B = 5 := kd_at (o := 0) (by decide)
theorem FC_id {B : Nat} {M : fw_M} : FC B M M := ⟨fun _ _ => rfl, rfl⟩
theorem FC_tr {B : Nat} {M M1 M2 : fw_M} (h1 : FC B M M1) (h2 : FC B M1 M2) : FC B M M2 := ⟨fun b hb => (h2.1 b hb).trans (h1.1 b hb), h2.2.trans h1.2⟩
theorem FC_x {B x : Nat} {M M' : fw_M} (h : FX x M M') (hx : x ≤ B + 411) : FC B M M' := ⟨fun b hb => h.1 b (Or.inr (by omega)), h.2⟩
theorem FC_s {B : Nat} {M M' : fw_M} (g2 : ∀ c, c < B + 163 ∨ B + 489 ≤ c → M'.1 c = M.1 c) (g3 : M'.2 = M.2) : FC B M M' := ⟨fun b hb => g2 b (Or.inr (by omega)), g3⟩
theorem FC_t {B : Nat} {M M' : fw_M} (h : FT B M M') : FC B M M' := ⟨fun b hb => h.1 b (by omega) (by omega), h.2.2⟩
theorem HS_fr {B n : Nat} {M M' : fw_M} {H : Nat → Sx} (h : HS B M n H) (e : ∀ c, B + 163 ≤ c → c < B + 489 → M'.1 c = M.1 c) : HS B M' n H := by
  obtain ⟨o, ho, e1, e2, hn, hR⟩ := h
  refine ⟨o, ho, by rw [e _ (by omega) (by omega)]; exact e1, by rw [e _ (by omega) (by omega)]; exact e2, hn, fun i hi => ?_⟩
  have hl := pl_lo (B := B) (k := (o + i) % 4) (Nat.mod_lt _ (by decide))
  exact Rep_fr (hR i hi) (fun c h1 h2 => e c (by omega) (by omega))
theorem TS_eq {B tl : Nat} {M M' : fw_M} {tx : Nat → Int32} (h : TS B M tl tx) (e1 : M'.1 (B + 489) = M.1 (B + 489)) (e2 : M'.1 (B + 490) = M.1 (B + 490)) : TS B M' tl tx :=
  ⟨by rw [e1]; exact h.1, h.2.1, fun i hi => by rw [e2]; exact h.2.2 i hi⟩
theorem RC_save {B : Nat} {M M' : fw_M} {Z : Zs} (h : RC B M Z) (g1 : HS B M' (phN Z.2.1) (phH Z.2.1 Z.2.2.1 Z.1)) (g2 : ∀ c, c < B + 163 ∨ B + 489 ≤ c → M'.1 c = M.1 c) : RC B M' (phZ Z Z.1) :=
  ⟨Rep_fr h.1 (fun c h1 h2 => g2 c (Or.inl (by omega))), g1, TS_eq h.2.2 (g2 _ (Or.inr (by omega))) (g2 _ (Or.inr (by omega)))⟩
theorem RC_now {B : Nat} {M M' : fw_M} {Z : Zs} {S' : Sx} (h : RC B M Z) (g : Rep M'.1 (B + 1) S') (f : FX (B + 1) M M') : RC B M' (S', Z.2) :=
  ⟨g, HS_fr h.2.1 (fun c h1 h2 => f.1 c (by omega)), TS_eq h.2.2 (f.1 _ (by omega)) (f.1 _ (by omega))⟩
theorem RC_tri {B : Nat} {M M' : fw_M} {Z : Zs} (h : RC B M Z) (f : FX (B + 82) M M') : RC B M' Z :=
  ⟨Rep_fr h.1 (fun c h1 h2 => f.1 c (by omega)), HS_fr h.2.1 (fun c h1 h2 => f.1 c (by omega)), TS_eq h.2.2 (f.1 _ (by omega)) (f.1 _ (by omega))⟩
theorem RC_txt {B : Nat} {M M' : fw_M} {Z : Zs} (h : RC B M Z) (f : FT B M M') : RC B M' Z :=
  ⟨Rep_fr h.1 (fun c h1 h2 => f.1 c (by omega) (by omega)), HS_fr h.2.1 (fun c h1 h2 => f.1 c (by omega) (by omega)), TS_fr h.2.2 f⟩
theorem cF_act {B : Nat} {op : Op} {Z : Zs} {r : Int32} {S' : Sx} {M M1 M2 : fw_M} {Q : Option Value → fw_M → Prop} (e : op Z = (0, r, phZ Z S')) (hR : RC B M Z) (g1 : HS B M1 (phN Z.2.1) (phH Z.2.1 Z.2.2.1 Z.1)) (g2 : ∀ c, c < B + 163 ∨ B + 489 ≤ c → M1.1 c = M.1 c) (g3 : M1.2 = M.2)
    (f1 : Rep M2.1 (B + 1) S') (f2 : FX (B + 1) M1 M2) (hq : (op Z).1 = 0 → ∀ M', RC B M' (op Z).2.2 → FC B M M' → Q (some (.int (op Z).2.1)) M') : Q (some (.int r)) M2 := by
  rw [e] at hq
  exact hq rfl M2 (RC_now (RC_save hR g1 g2) f1 f2) (FC_tr (FC_s g2 g3) (FC_x f2 (by omega)))
theorem cF_tell {B : Nat} {op : Op} {Z : Zs} {r : Int32} {M M' : fw_M} {Q : Option Value → fw_M → Prop} (e : op Z = (0, r, Z)) (hR : RC B M' Z) (hF : FC B M M')
    (hq : (op Z).1 = 0 → ∀ M', RC B M' (op Z).2.2 → FC B M M' → Q (some (.int (op Z).2.1)) M') : Q (some (.int r)) M' := by
  rw [e] at hq
  exact hq rfl M' hR hF
theorem cF_thr {op : Op} {Z : Zs} {k : Nat} {M : fw_M} {ex : Nat → String} {QX : String → fw_M → Prop} (e : op Z = (k, 0, Z)) (hk : k ≠ 0) (hx : (op Z).1 ≠ 0 → QX (ex (op Z).1) M) : QX (ex k) M := by
  rw [e] at hx
  exact hx hk
theorem cr_dec {b : Nat} {S : Sx} (hW : WF b S) (c : Int32) : (∃ k, k < cn S ∧ c = nI k ∧ isCr S c = true ∧ c.toNatClampNeg = k) ∨ (isCr S c = false ∧ ∀ k, k < cn S → c ≠ nI k) := by
  cases e : isCr S c with
  | true =>
    obtain ⟨k, h1, h2, h3⟩ := isCr_n hW e
    exact Or.inl ⟨k, h1, h2, rfl, h3⟩
  | false =>
    refine Or.inr ⟨rfl, fun k hk ek => ?_⟩
    have hn := hW.2.1
    have : isCr S c = true := by
      unfold isCr okN
      rw [hW.1, ek, show (1 : Int32) = nI 1 from rfl, pk_sub (by omega), show (0 : Int32) = nI 0 from rfl, decide_eq_true ((n_ge (by decide) (by omega)).mpr (Nat.zero_le k)), decide_eq_true ((n_ge (by omega) (by omega)).mpr (by omega))]
      rfl
    rw [this] at e
    cases e
theorem pc_dec {b : Nat} {S : Sx} (hW : WF b S) (c : Int32) : (∃ k, k < pn S ∧ c = nI k ∧ isPc S c = true ∧ c.toNatClampNeg = k) ∨ (isPc S c = false ∧ ∀ k, k < pn S → c ≠ nI k) := by
  cases e : isPc S c with
  | true =>
    obtain ⟨k, h1, h2, h3⟩ := isPc_n hW e
    exact Or.inl ⟨k, h1, h2, rfl, h3⟩
  | false =>
    refine Or.inr ⟨rfl, fun k hk ek => ?_⟩
    have hn := hW.2.2.2.1
    have : isPc S c = true := by
      unfold isPc okN
      rw [hW.2.2.1, ek, show (1 : Int32) = nI 1 from rfl, pk_sub (by omega), show (0 : Int32) = nI 0 from rfl, decide_eq_true ((n_ge (by decide) (by omega)).mpr (Nat.zero_le k)), decide_eq_true ((n_ge (by omega) (by omega)).mpr (by omega))]
      rfl
    rw [this] at e
    cases e
end FC

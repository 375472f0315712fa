/-! WHAT THE REFERENCE'S METHODS DO (the rest) -/
section CN
/-- the reference holds Z -/
def RM (B : Nat) (M : fw_M) (Z : Zs) : Prop := M.1 (B + 493) = Z.1 ∧ M.1 (B + 492) 4 = nI Z.2.1 ∧ Z.2.1 ≤ 4 ∧ (∀ i, i < Z.2.1 → ∀ k, k < 517 → M.1 (B + 494) (517 * i + k) = Z.2.2.1 i k) ∧ M.1 (B + 492) 6 = nI Z.2.2.2.1 ∧ Z.2.2.2.1 ≤ 150 ∧ ∀ k, k < Z.2.2.2.1 → M.1 (B + 497) k = Z.2.2.2.2 k
/-- nothing but the reference's own has changed -/
def Fr (B : Nat) (M M' : fw_M) : Prop := (∀ b, b < B + 492 ∨ B + 498 ≤ b → M'.1 b = M.1 b) ∧ M'.2.1 1 = M.2.1 1 ∧ M'.2.2 = M.2.2
def GS (S : Sx) : Prop := ∃ t, t ≤ 2000 ∧ S 0 = nI t ∧ WF (6 * t) S ∧ ∀ k, 517 ≤ k → S k = 0
def GZ (Z : Zs) : Prop := GS Z.1 ∧ ∀ i, i < Z.2.1 → GS (Z.2.2.1 i)
/-- the contract of a method of the face -/
def ctM (B : Nat) (op : Op) (a : Nat) (M : fw_M) (Q : Option Value → fw_M → Prop) : Prop := a = B + 492 ∧ ∃ Z, RM B M Z ∧ GZ Z ∧ ∀ r M', ((op Z).1 = 0 → r = (op Z).2.1) → RM B M' (op Z).2.2 → M'.1 (B + 492) 7 = nI (op Z).1 → Fr B M M' → Q (some (.int r)) M'
theorem Fr_id {B : Nat} {M : fw_M} : Fr B M M := ⟨fun _ _ => rfl, rfl, rfl⟩
theorem Fr_tr {B : Nat} {M M1 M2 : fw_M} (h1 : Fr B M M1) (h2 : Fr B M1 M2) : Fr B M M2 := ⟨fun b hb => (h2.1 b hb).trans (h1.1 b hb), h2.2.1.trans h1.2.1, h2.2.2.trans h1.2.2⟩
theorem Fr_row {B o : Nat} {M : fw_M} {f : Nat → Int32} (h1 : 492 ≤ o) (h2 : o < 498) : Fr B M (fw_row M (B + o) f) := ⟨fun b hb => row_n (by omega), rfl, rfl⟩
theorem Fr_st {B k : Nat} {M : fw_M} {v : Int32} : Fr B M (fw_st M (B + 492) k v) := Fr_row (by decide) (by decide)
theorem Fr_K {B : Nat} {M : fw_M} {S : Sx} : Fr B M (mK B M S) := Fr_row (by decide) (by decide)
theorem Fr_h {B : Nat} {M : fw_M} {x : Int64} : Fr B M (fw_stl M 0 x) := ⟨fun _ _ => rfl, by show vp_updL M.2.1 0 x 1 = _; unfold vp_updL; rw [if_neg (by decide)], rfl⟩
theorem RM_K {B : Nat} {M : fw_M} {Z : Zs} {S : Sx} (h : RM B M Z) : RM B (mK B M S) (S, Z.2) := by
  obtain ⟨h1, h2, h3, h4, h5, h6, h7⟩ := h
  refine ⟨row_1, ?_, h3, fun i hi k hk => ?_, ?_, h6, fun k hk => ?_⟩
  · rw [row_n (by omega)]; exact h2
  · rw [row_n (by omega)]; exact h4 i hi k hk
  · rw [row_n (by omega)]; exact h5
  · rw [row_n (by omega)]; exact h7 k hk
theorem RM_row {B o : Nat} {M : fw_M} {Z : Zs} {f : Nat → Int32} (h : RM B M Z) (ho : o = 495 ∨ o = 496) : RM B (fw_row M (B + o) f) Z := by
  obtain ⟨h1, h2, h3, h4, h5, h6, h7⟩ := h
  refine ⟨?_, ?_, h3, fun i hi k hk => ?_, ?_, h6, fun k hk => ?_⟩
  · rw [row_n (by omega)]; exact h1
  · rw [row_n (by omega)]; exact h2
  · rw [row_n (by omega)]; exact h4 i hi k hk
  · rw [row_n (by omega)]; exact h5
  · rw [row_n (by omega)]; exact h7 k hk
theorem RM_st {B k : Nat} {M : fw_M} {Z : Zs} {v : Int32} (h : RM B M Z) (hk : k ≠ 4 ∧ k ≠ 6) : RM B (fw_st M (B + 492) k v) Z := by
  obtain ⟨h1, h2, h3, h4, h5, h6, h7⟩ := h
  rw [st_row]
  refine ⟨?_, ?_, h3, fun i hi k hk => ?_, ?_, h6, fun k hk => ?_⟩
  · rw [row_n (by omega)]; exact h1
  · rw [row_1, upd_n (by omega)]; exact h2
  · rw [row_n (by omega)]; exact h4 i hi k hk
  · rw [row_1, upd_n (by omega)]; exact h5
  · rw [row_n (by omega)]; exact h7 k hk
theorem RM_h {B : Nat} {M : fw_M} {Z : Zs} {x : Int64} (h : RM B M Z) : RM B (fw_stl M 0 x) Z := h
theorem st_s {M : fw_M} {a k : Nat} {v : Int32} : (fw_st M a k v).1 a k = v := by rw [st_row, row_1, upd_s]
theorem st_n {M : fw_M} {a k j : Nat} {v : Int32} (h : j ≠ k) : (fw_st M a k v).1 a j = M.1 a j := by rw [st_row, row_1, upd_n h]
theorem st_o {M : fw_M} {a b k : Nat} {v : Int32} (h : b ≠ a) : (fw_st M a k v).1 b = M.1 b := by rw [st_row, row_n h]
theorem GZ_wf {Z : Zs} (h : GZ Z) : ∃ t, t ≤ 2000 ∧ Z.1 0 = nI t ∧ WF (6 * t) Z.1 := by
  obtain ⟨t, h1, h2, h3, -⟩ := h.1
  exact ⟨t, h1, h2, h3⟩
def ct_X6_ends (B : Nat) : fw_CTX := fun as M Q _ => match as with
  | [.ref a, .int v] => a = B + 492 ∧ ∃ Z S0, RM B M Z ∧ (∀ k, k < 517 → M.1 (B + 495) k = S0 k) ∧ ∀ M', RM B M' (Z.1, phN Z.2.1, phH Z.2.1 Z.2.2.1 S0, Z.2.2.2.1, Z.2.2.2.2) → M'.1 (B + 492) 7 = 0 → Fr B M M' → Q (some (.int v)) M'
  | _ => False
def ct_X6_inState (B : Nat) : fw_CTX := fun as M Q _ => match as with
  | [.ref a, .int q] => a = B + 492 ∧ mS B M 3 = nI (pn (mS B M)) ∧ pn (mS B M) ≤ 24 ∧ Q (some (.int (inSt (mS B M) q (pn (mS B M))))) M
  | _ => False
def ct_X6_comes (B : Nat) : fw_CTX := fun as M Q _ => match as with
  | [.ref a, .int o, .int g, .int k, .int t] => a = B + 492 ∧ mS B M 3 = nI (pn (mS B M)) ∧ pn (mS B M) < 24 ∧ Q none (mK B M (comS (mS B M) o g k t))
  | _ => False
def ct_X6_drops (B : Nat) : fw_CTX := fun as M Q _ => match as with
  | [.ref a, .int x] => a = B + 492 ∧ ∃ b c, WF b (mS B M) ∧ c < cn (mS B M) ∧ x = nI c ∧ Q (some (.int (sC (mS B M) c 4))) (mK B M (drS (mS B M) c))
  | _ => False
def ct_X6_valueOf (B : Nat) : fw_CTX := fun as M Q _ => match as with
  | [.ref a, .int x] => a = B + 492 ∧ mS B M 3 = nI (pn (mS B M)) ∧ pn (mS B M) ≤ 24 ∧ ∃ w, w ≤ 10 ∧ x = nI w ∧ Q (some (.int (valS (mS B M) w))) M
  | _ => False
def ct_X6_courierOf (B : Nat) : fw_CTX := fun as M Q _ => match as with
  | [.ref a, .int x, .int y] => a = B + 492 ∧ mS B M 3 = nI (pn (mS B M)) ∧ pn (mS B M) ≤ 24 ∧ ∃ c w, c < 6 ∧ w ≤ 5 ∧ x = nI c ∧ y = nI w ∧ Q (some (.int (crS (mS B M) c w))) M
  | _ => False
def ct_X6_parcelOf (B : Nat) : fw_CTX := fun as M Q _ => match as with
  | [.ref a, .int x, .int y] => a = B + 492 ∧ ∃ p w, p < 24 ∧ w ≤ 8 ∧ x = nI p ∧ y = nI w ∧ Q (some (.int (paS (mS B M) p w))) M
  | _ => False
def ct_X6_apart (B : Nat) : fw_CTX := fun as M Q _ => match as with
  | [.int x, .int y] => Q (some (.int (aprt x y))) M
  | _ => False
def ct_X6_reach (B : Nat) : fw_CTX := fun as M Q _ => match as with
  | [.ref a, .int x, .int f, .int t] => a = B + 492 ∧ ∃ c i j, c < 6 ∧ i < 16 ∧ j < 16 ∧ x = nI c ∧ f = nI i ∧ t = nI j ∧ Q (some (.int (rch (mS B M) c f t))) M
  | _ => False
def ct_X6_relays (B : Nat) : fw_CTX := fun as M Q _ => match as with
  | [.ref a, .int x] => a = B + 492 ∧ ∃ b p, WF b (mS B M) ∧ p < pn (mS B M) ∧ x = nI p ∧ Q (some (.int (rel (mS B M) p))) M
  | _ => False
/-- a what-if question: the row is played on and put back -/
def ct_X6_more (B : Nat) : fw_CTX := fun as M Q _ => match as with
  | [.ref a, .int x] => a = B + 492 ∧ ∃ t n S0, t + 6 * n ≤ 40000 ∧ x = nI n ∧ WF t (mS B M) ∧ (∀ k, k < 517 → M.1 (B + 496) k = S0 k) ∧ (∀ k, 517 ≤ k → mS B M k = 0 ∧ S0 k = 0) ∧ Q (some (.int (payN (mS B M) n))) (mK B M S0)
  | _ => False
def ct_X6_paidBy (B : Nat) : fw_CTX := fun as M Q _ => match as with
  | [.ref a, .int x] => a = B + 492 ∧ ∃ t n, t + 6 * n ≤ 40000 ∧ x = nI n ∧ WF t (mS B M) ∧ (∀ k, 517 ≤ k → mS B M k = 0) ∧ ∀ M', mS B M' = mS B M → (∀ k, k < 517 → M'.1 (B + 496) k = mS B M k) → (∀ Z, RM B M Z → RM B M' Z) → Fr B M M' → Q (some (.int (payN (mS B M) n))) M'
  | _ => False
def ct_X6_isDone (B : Nat) : fw_CTX := fun as M Q _ => match as with
  | [.ref a] => a = B + 492 ∧ mS B M 3 = nI (pn (mS B M)) ∧ pn (mS B M) ≤ 24 ∧ Q (some (.int (bi (dnB (mS B M))))) M
  | _ => False
def ct_X6_addCourier (B : Nat) : fw_CTX := fun as M Q _ => match as with
  | [.ref a, .int x, .int y] => ctM B (opAdd x y) a M Q
  | _ => False
def ct_X6_setArea (B : Nat) : fw_CTX := fun as M Q _ => match as with
  | [.ref a, .int x, .int y] => ctM B (opArea x y) a M Q
  | _ => False
def ct_X6_give (B : Nat) : fw_CTX := fun as M Q _ => match as with
  | [.ref a, .int x, .int y, .int z, .int u] => ctM B (opGive x y z u) a M Q
  | _ => False
def ct_X6_setGrace (B : Nat) : fw_CTX := fun as M Q _ => match as with
  | [.ref a, .int x] => ctM B (opGrace x) a M Q
  | _ => False
def ct_X6_drop (B : Nat) : fw_CTX := fun as M Q _ => match as with
  | [.ref a, .int x] => ctM B (opDrop x) a M Q
  | _ => False
def ct_X6_run (B : Nat) : fw_CTX := fun as M Q _ => match as with
  | [.ref a, .int x] => ctM B (opRun x) a M Q
  | _ => False
def ct_X6_value (B : Nat) : fw_CTX := fun as M Q _ => match as with
  | [.ref a, .int x] => ctM B (opValue x) a M Q
  | _ => False
def ct_X6_courier (B : Nat) : fw_CTX := fun as M Q _ => match as with
  | [.ref a, .int x, .int y] => ctM B (opCourier x y) a M Q
  | _ => False
def ct_X6_parcel (B : Nat) : fw_CTX := fun as M Q _ => match as with
  | [.ref a, .int x, .int y] => ctM B (opParcel x y) a M Q
  | _ => False
def ct_X6_legs (B : Nat) : fw_CTX := fun as M Q _ => match as with
  | [.ref a, .int x, .int y, .int z] => ctM B (opLegs x y z) a M Q
  | _ => False
def ct_X6_distance (B : Nat) : fw_CTX := fun as M Q _ => match as with
  | [.ref a, .int x, .int y] => ctM B (opDist x y) a M Q
  | _ => False
def ct_X6_suited (B : Nat) : fw_CTX := fun as M Q _ => match as with
  | [.ref a, .int x] => ctM B (opSuited x) a M Q
  | _ => False
def ct_X6_leastRelay (B : Nat) : fw_CTX := fun as M Q _ => match as with
  | [.ref a, .int x] => ctM B (opRelay x) a M Q
  | _ => False
def ct_X6_punctuality (B : Nat) : fw_CTX := fun as M Q _ => match as with
  | [.ref a] => a = B + 492 ∧ ∃ Z, RM B M Z ∧ GZ Z ∧ ∀ M', RM B M' Z → Fr B M M' → Q (some (.double (punS Z.1))) M'
  | _ => False
def ct_X6_paidIn (B : Nat) : fw_CTX := fun as M Q _ => match as with
  | [.ref a, .int x] => ctM B (opPaid x) a M Q
  | _ => False
def ct_X6_bestZone (B : Nat) : fw_CTX := fun as M Q _ => match as with
  | [.ref a, .int x, .int y] => ctM B (opBest x y) a M Q
  | _ => False
def ct_X6_worth (B : Nat) : fw_CTX := fun as M Q _ => match as with
  | [.ref a, .int x, .int y] => ctM B (opWorth x y) a M Q
  | _ => False
def ct_X6_doneIn (B : Nat) : fw_CTX := fun as M Q _ => match as with
  | [.ref a] => ctM B opDone a M Q
  | _ => False
def ct_X6_append (B : Nat) : fw_CTX := fun as M Q _ => match as with
  | [.ref a, .int x] => ctM B (opAppend x) a M Q
  | _ => False
def ct_X6_clearText (B : Nat) : fw_CTX := fun as M Q _ => match as with
  | [.ref a] => ctM B opClear a M Q
  | _ => False
def ct_X6_undo (B : Nat) : fw_CTX := fun as M Q _ => match as with
  | [.ref a] => ctM B opUndo a M Q
  | _ => False
end CN

/-! WHAT THE LAW ASKS AND DOES: contracts; what the checks rest on -/
section CTI
def IG (S : Sx) : Prop := ∃ t, t ≤ 2000 ∧ S 0 = nI t ∧ WF (6 * t) S ∧ IV (6 * t) S
def LZ (B : Nat) (M : fw_M) (Z : Zs) : Prop := RC B M Z ∧ KZ Z ∧ RW B M Z.1 ∧ IG Z.1 ∧ pn Z.1 ≤ 8
theorem LZ_to {B : Nat} {M M1 : fw_M} {Z Z' : Zs} (h : LZ B M Z) (e : Z' = Z) (q1 : RC B M1 Z') (q2 : ∀ b, B + 492 ≤ b → M1.1 b = M.1 b) : LZ B M1 Z := by
  subst e
  exact ⟨q1, h.2.1, RW_cg h.2.2.1 (fun b h1 _ => q2 b h1), h.2.2.2⟩
theorem LZ_st {B D k : Nat} {M : fw_M} {Z : Zs} {v : Int32} (h : LZ B M Z) (hD : B + 497 ≤ D) : LZ B (fw_st M D k v) Z :=
  ⟨RC_hi h.1 (fun b hb => st_o (by omega)), h.2.1, RW_cg h.2.2.1 (fun b h1 h2 => st_o (by omega)), h.2.2.2⟩
theorem LZ_row {B D : Nat} {M : fw_M} {Z : Zs} {f : Nat → Int32} (h : LZ B M Z) (hD : B + 497 ≤ D) : LZ B (fw_row M D f) Z :=
  ⟨RC_hi h.1 (fun b hb => row_n (by omega)), h.2.1, RW_cg h.2.2.1 (fun b h1 h2 => row_n (by omega)), h.2.2.2⟩
def ct_L_cell (b _ : Nat) (_ : Nat → Int32) : fw_CTX := fun as M Q _ => match as with
  | [.ref a, .int k] => a = b ∧ ∃ j, j < 1000 ∧ k = nI j ∧ ∀ v, Q (some (.int v)) M
  | _ => False
def ct_L_isSo (B : Nat) : fw_CTX := fun as M Q _ => match as with
  | [.ref o, .ref g, .ref c, .ref p, .ref l, .ref h] => o = B ∧ g = B + 492 ∧ c = B + 493 ∧ p = B + 494 ∧ l = B + 495 ∧ h = B + 496 ∧ ∃ Z, LZ B M Z ∧ ∀ M', LZ B M' Z → Q (some (.int 1)) M'
  | _ => False
def ct_L_acts (B : Nat) : fw_CTX := fun as M Q _ => match as with
  | [.ref o, .ref g, .ref c, .ref p, .ref l, .ref h, .int _] => o = B ∧ g = B + 492 ∧ c = B + 493 ∧ p = B + 494 ∧ l = B + 495 ∧ h = B + 496 ∧ ∃ Z, LZ B M Z ∧ ∀ Z' M', LZ B M' Z' → Q (some (.int 1)) M'
  | _ => False
/-! what the helpers answer -/
theorem okN_n {w a b : Nat} (h1 : a ≤ w) (h2 : w ≤ b) (hb : b < 2 ^ 31) : okN (nI w) (nI a) (nI b) = true := by
  unfold okN
  rw [decide_eq_true ((n_ge (by omega) (by omega)).mpr h1), decide_eq_true ((n_ge (by omega) hb).mpr h2)]
  rfl
theorem isCr_y {b : Nat} {S : Sx} (hW : WF b S) {k : Nat} (hk : k < cn S) : isCr S (nI k) = true := by
  rcases cr_dec hW (nI k) with ⟨_, _, _, h, _⟩ | ⟨_, h⟩
  · exact h
  · exact absurd rfl (h k hk)
theorem isPc_y {b : Nat} {S : Sx} (hW : WF b S) {k : Nat} (hk : k < pn S) : isPc S (nI k) = true := by
  rcases pc_dec hW (nI k) with ⟨_, _, _, h, _⟩ | ⟨_, h⟩
  · exact h
  · exact absurd rfl (h k hk)
theorem hv_value {Z : Zs} {w : Nat} {k1 k2 : Int32} (hw : w ≤ 10) : hv k1 k2 (opValue (nI w) Z) = valS Z.1 w := by
  unfold opValue
  rw [if_pos (show okN (nI w) 0 10 = true from okN_n (a := 0) (b := 10) (Nat.zero_le _) hw (by decide)), n_cl (by omega)]
  rfl
theorem hv_courier {b : Nat} {Z : Zs} {k w : Nat} {k1 k2 : Int32} (hW : WF b Z.1) (hk : k < cn Z.1) (hw : w ≤ 5) : hv k1 k2 (opCourier (nI k) (nI w) Z) = crS Z.1 k w := by
  have hn := hW.2.1
  unfold opCourier
  rw [if_pos (isCr_y hW hk), if_pos (show okN (nI w) 0 5 = true from okN_n (a := 0) (b := 5) (Nat.zero_le _) hw (by decide)), n_cl (by omega), n_cl (by omega)]
  rfl
theorem hv_parcel {b : Nat} {Z : Zs} {k w : Nat} {k1 k2 : Int32} (hW : WF b Z.1) (hk : k < pn Z.1) (hw : w ≤ 8) : hv k1 k2 (opParcel (nI k) (nI w) Z) = paS Z.1 k w := by
  have hn := hW.2.2.2.1
  unfold opParcel
  rw [if_pos (isPc_y hW hk), if_pos (show okN (nI w) 0 8 = true from okN_n (a := 0) (b := 8) (Nat.zero_le _) hw (by decide)), n_cl (by omega), n_cl (by omega)]
  rfl
theorem hv_legs {b : Nat} {Z : Zs} {m k : Nat} {s : Int32} {k1 k2 : Int32} (hW : WF b Z.1) (hm : m < pn Z.1) (hk : k < cn Z.1) : hv k1 k2 (opLegs (nI m) (nI k) s Z) = sP Z.1 m ((if s = 0 then 8 else 14) + k) := by
  have hn := hW.2.1
  have hp := hW.2.2.2.1
  unfold opLegs
  rw [if_pos (by rw [isPc_y hW hm, isCr_y hW hk]; rfl), n_cl (by omega), n_cl (by omega)]
  rfl
theorem hv_dist {Z : Zs} {a b : Nat} {k1 k2 : Int32} (ha : a < 16) (hb : b < 16) : hv k1 k2 (opDist (nI a) (nI b) Z) = dist (nI a) (nI b) := by
  unfold opDist
  rw [if_pos (by rw [show okN (nI a) 0 15 = true from okN_n (a := 0) (b := 15) (Nat.zero_le _) (by omega) (by decide), show okN (nI b) 0 15 = true from okN_n (a := 0) (b := 15) (Nat.zero_le _) (by omega) (by decide)]; rfl)]
  rfl
/-! carriers and carried -/
theorem sI_swap {f : Nat → Nat → Int32} {a : Nat} : ∀ b, sI (fun k => sI (fun m => f k m) a) b = sI (fun m => sI (fun k => f k m) b) a := by
  intro b
  induction b with
  | zero =>
    symm
    exact sI_zero a (fun _ _ => rfl)
  | succ b ih =>
    show sI (fun k => sI (fun m => f k m) a) b + sI (fun m => f b m) a = sI (fun m => sI (fun k => f k m) b + f b m) a
    rw [ih, sI_add (f := fun m => sI (fun k => f k m) b) (g := fun m => f b m)]
theorem inSt_sI {S : Sx} {q : Int32} : ∀ n, inSt S q n = sI (fun m => if sP S m 4 = q then 1 else 0) n := by
  intro n
  induction n with
  | zero => rfl
  | succ n ih => unfold inSt sI; rw [ih]
theorem carried_eq {b b0 : Nat} {S : Sx} (h : IV b S) (hW : WF b0 S) : sI (fun k => if sC S k 3 = 2 then 1 else 0) (cn S) = inSt S 1 (pn S) := by
  have hm := hW.2.2.2.1
  have e1 : sI (fun k => if sC S k 3 = 2 then 1 else 0) (cn S) = sI (fun k => sI (fun m => cr2 S m k) (pn S)) (cn S) := by
    refine sI_cg _ (fun k hk => ?_)
    by_cases h3 : sC S k 3 = 2
    · show (if sC S k 3 = 2 then (1 : Int32) else 0) = _
      rw [if_pos h3]
      obtain ⟨q, hq, e4, -⟩ := WF_with hW hk (by rw [h3]; decide)
      rw [sI_one (f := fun _ => 0) (g := fun m => cr2 S m k) (i := q) (d := 1) (pn S) hq ?_ (fun m hm2 hne => ?_), sI_zero (pn S) (fun _ _ => rfl)]
      · decide
      · show cr2 S q k - 0 = 1
        rw [show cr2 S q k = 1 from if_pos ⟨h3, e4⟩]
        decide
      · show cr2 S m k = 0
        exact if_neg (fun y => hne (by have := y.2; rw [e4, nI_eq (by omega) (by omega)] at this; exact this.symm))
    · show (if sC S k 3 = 2 then (1 : Int32) else 0) = _
      rw [if_neg h3]
      symm
      exact sI_zero _ (fun m _ => if_neg (fun y => h3 y.1))
  rw [e1, sI_swap (f := fun k m => cr2 S m k), inSt_sI]
  exact sI_cg _ (fun m hm2 => h.2.2.2.1 m hm2)
theorem legs_le {b : Nat} {S : Sx} (hb : b < 2 ^ 31) (h : IV b S) : sI (fun k => lgC S k (pn S)) (cn S) ≤ S 5 := by
  obtain ⟨a, n, a1, a2, a3, a4⟩ := h.2.2.1
  rw [sI_cg (g := fun k => sI (fun m => sP S m (8 + k)) (pn S)) _ (fun k _ => lgC_sI (pn S))]
  show lgT S ≤ S 5
  rw [a1, a2, n_ge (by omega) (by omega)]
  exact a3
end CTI

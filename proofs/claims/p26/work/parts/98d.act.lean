/-! THE LAW'S CALLS: what the class answers to each, and what holds then -/
section ACT
theorem ar_ab : ∀ a, a < 4 → ∀ b, b < 4 → okN ((((15 : Int32) <<< ((4 * nI a) &&& 31)) ||| ((15 : Int32) <<< ((4 * nI b) &&& 31))) ||| (((4369 : Int32) <<< (nI a &&& 31)) ||| ((4369 : Int32) <<< (nI b &&& 31)))) 0 65535 = true := by decide +kernel
theorem ar_b : ∀ a, a < 4 → ∀ b, b < 4 → okN (((4369 : Int32) <<< (nI a &&& 31)) ||| ((4369 : Int32) <<< (nI b &&& 31))) 0 65535 = true := by decide +kernel
theorem ar_ok {j : Nat} (hj : j < 100000) : okN (arN (nI j)) 0 65535 = true := by
  have e4 : nI j - nI j / 4 * 4 = nI (j % 4) := pk_rem (d := 4) (by omega) (by decide) (by decide)
  have q4 : nI j / 4 = nI (j / 4) := pk_div (d := 4) (by omega) (by decide) (by decide)
  have e44 : nI (j / 4) - nI (j / 4) / 4 * 4 = nI (j / 4 % 4) := pk_rem (d := 4) (by omega) (by decide) (by decide)
  have l1 : j % 4 < 4 := Nat.mod_lt _ (by decide)
  have l2 : j / 4 % 4 < 4 := Nat.mod_lt _ (by decide)
  unfold arN
  split
  · obtain ⟨i, hi, ei⟩ := pk_andE (nI j * 7) (m := 65535) 16 (by decide)
    rw [ei]
    exact okN_n (a := 0) (b := 65535) (Nat.zero_le _) (by omega) (by decide)
  · split
    · decide
    · split
      · rw [e4, q4, e44]
        exact ar_ab _ l1 _ l2
      · rw [e4, q4, e44]
        exact ar_b _ l1 _ l2
theorem ps_pn {b : Nat} {S : Sx} (hW : WF b S) (hp : pn S ≤ 8) : ¬ S 3 = 24 := by
  rw [hW.2.2.1]
  intro e
  have e : nI (pn S) = nI 24 := e
  rw [nI_eq (by omega) (by decide)] at e
  omega
/-- after a call: what holds of the new state -/
theorem IG_of {S : Sx} (hG : GS S) (h : ∀ t, t ≤ 2000 → S 0 = nI t → IV (6 * t) S) : IG S := by
  obtain ⟨t, h1, h2, h3, -⟩ := hG
  exact ⟨t, h1, h2, h3, h t h1 h2⟩
theorem LZ_new {B : Nat} {M : fw_M} {Z : Zs} {S' : Sx} (hL : IG Z.1) (hK : KZ (phZ Z S')) (h1 : RC B M (phZ Z S')) (h2 : RW B M S') (e0 : S' 0 = Z.1 0) (hI : ∀ t, WF (6 * t) Z.1 → IV (6 * t) Z.1 → IV (6 * t) S') (hp : pn S' ≤ 8) : LZ B M (phZ Z S') := by
  refine ⟨h1, hK, h2, IG_of (hK.1.1 : GS S') (fun t ht e => ?_), hp⟩
  obtain ⟨t', g1, g2, g3, g4⟩ := hL
  have e : S' 0 = nI t := e
  rw [e0, g2, nI_eq (by omega) (by omega)] at e
  subst e
  exact hI t' g3 g4
theorem op_add_full {Z : Zs} {ar z : Int32} (h1 : okN ar 0 65535 = true) (h2 : okN z 0 15 = true) (h : Z.1 2 = 6) : opAdd ar z Z = (2, 0, Z) := by
  unfold opAdd
  rw [if_pos (by rw [h1, h2]; rfl), if_pos h]
theorem op_add {Z : Zs} {ar z : Int32} (h1 : okN ar 0 65535 = true) (h2 : okN z 0 15 = true) (h : ¬ Z.1 2 = 6) : opAdd ar z Z = (0, Z.1 2, phZ Z (addS Z.1 ar z)) := by
  unfold opAdd
  rw [if_pos (by rw [h1, h2]; rfl), if_neg h]
theorem cr_none {b : Nat} {S : Sx} (hW : WF b S) {x : Int32} (h : ∀ k, k < cn S → x ≠ nI k) : isCr S x = false := by
  rcases cr_dec hW x with ⟨k, h1, h2, -⟩ | ⟨h1, -⟩
  · exact absurd h2 (h k h1)
  · exact h1
theorem pc_none {b : Nat} {S : Sx} (hW : WF b S) {x : Int32} (h : ∀ k, k < pn S → x ≠ nI k) : isPc S x = false := by
  rcases pc_dec hW x with ⟨k, h1, h2, -⟩ | ⟨h1, -⟩
  · exact absurd h2 (h k h1)
  · exact h1
theorem op_area_no {Z : Zs} {x ar : Int32} (h : isCr Z.1 x = false) : opArea x ar Z = (1, 0, Z) := by
  unfold opArea
  rw [if_neg (by rw [h]; decide)]
theorem op_area {b : Nat} {Z : Zs} {k : Nat} {ar : Int32} (hW : WF b Z.1) (hk : k < cn Z.1) (h1 : okN ar 0 65535 = true) : opArea (nI k) ar Z = (0, sC Z.1 k 0, phZ Z (uC Z.1 k 0 ar)) := by
  have hn := hW.2.1
  unfold opArea
  rw [if_pos (isCr_y hW hk), if_pos h1, n_cl (by omega)]
theorem op_drop_no {Z : Zs} {x : Int32} (h : isCr Z.1 x = false) : opDrop x Z = (1, 0, Z) := by
  unfold opDrop
  rw [if_neg (by rw [h]; decide)]
theorem op_drop {b : Nat} {Z : Zs} {k : Nat} (hW : WF b Z.1) (hk : k < cn Z.1) : opDrop (nI k) Z = (0, sC Z.1 k 4, phZ Z (drS Z.1 k)) := by
  have hn := hW.2.1
  unfold opDrop
  rw [if_pos (isCr_y hW hk), n_cl (by omega)]
theorem op_give_no {Z : Zs} {a k t : Int32} : opGive a a k t Z = (1, 0, Z) := by
  unfold opGive
  rw [if_neg (by rw [show decide (a ≠ a) = false from decide_eq_false (fun y => y rfl), Bool.and_false]; decide)]
theorem op_give {Z : Zs} {a b k t : Nat} (ha : a < 16) (hb : b < 16) (hne : a ≠ b) (hk1 : 1 ≤ k) (hk : k ≤ 999) (ht : t ≤ 1000) (h3 : ¬ Z.1 3 = 24) : opGive (nI a) (nI b) (nI k) (nI t) Z = (0, Z.1 3, phZ Z (comS Z.1 (nI a) (nI b) (nI k) (nI t))) := by
  unfold opGive
  rw [if_pos ?_, if_neg h3]
  rw [show okN (nI a) 0 15 = true from okN_n (a := 0) (b := 15) (Nat.zero_le _) (by omega) (by decide), show okN (nI b) 0 15 = true from okN_n (a := 0) (b := 15) (Nat.zero_le _) (by omega) (by decide), show okN (nI k) 1 999 = true from okN_n (a := 1) (b := 999) hk1 hk (by decide), show okN (nI t) 0 1000 = true from okN_n (a := 0) (b := 1000) (Nat.zero_le _) ht (by decide), show decide (nI a ≠ nI b) = true from decide_eq_true (fun e => hne (by rw [nI_eq (by omega) (by omega)] at e; exact e))]
  rfl
theorem op_grace {Z : Zs} {x : Nat} (hx : x ≤ 100) : opGrace (nI x) Z = (0, Z.1 1, phZ Z (upd Z.1 1 (nI x))) := by
  unfold opGrace
  rw [if_pos (show okN (nI x) 0 100 = true from okN_n (a := 0) (b := 100) (Nat.zero_le _) hx (by decide))]
theorem op_run_no {Z : Zs} {n t : Nat} (hn : n ≤ 200) (h0 : Z.1 0 = nI t) (ht : t ≤ 2000) (h : 2000 < t + n) : opRun (nI n) Z = (2, 0, Z) := by
  unfold opRun
  rw [if_pos (show okN (nI n) 0 200 = true from okN_n (a := 0) (b := 200) (Nat.zero_le _) hn (by decide)), if_pos (by rw [h0, n_add]; exact (n_lt (a := 2000) (by decide) (by omega)).mpr h)]
theorem op_run {Z : Zs} {n t : Nat} (hn : n ≤ 200) (h0 : Z.1 0 = nI t) (ht : t ≤ 2000) (h : t + n ≤ 2000) : opRun (nI n) Z = (0, inSt (tkN Z.1 n) 2 (pn Z.1) - inSt Z.1 2 (pn Z.1), phZ Z (tkN Z.1 n)) := by
  unfold opRun
  rw [if_pos (show okN (nI n) 0 200 = true from okN_n (a := 0) (b := 200) (Nat.zero_le _) hn (by decide)), if_neg (by rw [h0, n_add]; exact fun y => absurd ((n_lt (a := 2000) (by decide) (by omega)).mp y) (by omega)), n_cl (by omega)]
theorem com_rw {B b0 : Nat} {M : fw_M} {S : Sx} {b : Nat} {o g k t : Int32} (hI : IV b S) (hW : WF b0 S) (hp : pn S < 8) (h : RW B M (upd (uP (uP (uP (uP (uP (uP (uP (uP S (pn S) 0 o) (pn S) 1 g) (pn S) 2 k) (pn S) 3 t) (pn S) 4 0) (pn S) 5 o) (pn S) 6 (-1)) (pn S) 7 0) 3 (S 3 + 1))) : RW B M (comS S o g k t) := by
  refine RW_eq h (fun j hj => ?_) (fun c w hc hw => ?_) (fun m w hm hw => ?_)
  · by_cases e : j = 3
    · subst e; unfold comS; rw [upd_s, upd_s]
    · rw [com_lo hj e, upd_n e, uP_lo (by omega), uP_lo (by omega), uP_lo (by omega), uP_lo (by omega), uP_lo (by omega), uP_lo (by omega), uP_lo (by omega), uP_lo (by omega)]
  · rw [com_C hc hw, gCu (by decide), gCP hc hw, gCP hc hw, gCP hc hw, gCP hc hw, gCP hc hw, gCP hc hw, gCP hc hw, gCP hc hw]
  · rw [com_P hw, gPu (by decide), gPP hw (by decide), gPP hw (by decide), gPP hw (by decide), gPP hw (by decide), gPP hw (by decide), gPP hw (by decide), gPP hw (by decide), gPP hw (by decide)]
    by_cases e : m = pn S
    · subst e
      have hz := hI.2.2.2.2.2.2 (pn S) w (Nat.le_refl _) (by omega) hw
      rw [if_pos rfl, hz]
      by_cases l : w < 8
      · rcases (show w = 0 ∨ w = 1 ∨ w = 2 ∨ w = 3 ∨ w = 4 ∨ w = 5 ∨ w = 6 ∨ w = 7 by omega) with y | y | y | y | y | y | y | y <;> subst y <;> simp
      · rw [if_neg (by omega), if_neg (by omega), if_neg (by omega), if_neg (by omega), if_neg (by omega), if_neg (by omega), if_neg (by omega), if_neg (by omega), if_neg (by omega), if_neg (by omega), if_neg (by omega), if_neg (by omega), if_neg (by omega), if_neg (by omega)]
    · rw [if_neg e, if_neg (fun y => e y.1), if_neg (fun y => e y.1), if_neg (fun y => e y.1), if_neg (fun y => e y.1), if_neg (fun y => e y.1), if_neg (fun y => e y.1), if_neg (fun y => e y.1), if_neg (fun y => e y.1)]
end ACT

/-! THE START: the first memory, the first state -/
section I0
def iv (kd : Nat) (q : Bool) (k : Nat) : Int32 := if kd = 0 ∧ k = 4 then -1 else if kd = 1 ∧ k = 1 then 10 else if kd = 7 ∧ q = true ∧ k = 1 then 10 else 0
def mI (B : Nat) : fw_M := (fun a k => iv (fw_kd B a) (a == B + 493) k, fun _ => 0, 0)
theorem mI_k {B a kd k : Nat} (h : fw_kd B a = kd) (h7 : kd ≠ 7) : (mI B).1 a k = iv kd false k := by
  show iv (fw_kd B a) (a == B + 493) k = _
  rw [h]
  unfold iv
  simp only [h7, false_and, if_false]
theorem fs_0 {B a : Nat} (h : fw_kd B a = 0) : fw_fs 0 a (mI B) = [.int 0, .int 0, .int 0, .int 0, .int (-1)] := by
  show [Value.int ((mI B).1 a 0), .int ((mI B).1 a 1), .int ((mI B).1 a 2), .int ((mI B).1 a 3), .int ((mI B).1 a 4)] = _
  simp only [mI_k h (by decide)]
  rfl
theorem fs_1 {B a : Nat} (h : fw_kd B a = 1) : fw_fs 1 a (mI B) = [.int 0, .int 10, .int 0, .int 0, .int 0, .int 0, .int 0, .ref (a + 1), .ref (a + 2)] := by
  show [Value.int ((mI B).1 a 0), .int ((mI B).1 a 1), .int ((mI B).1 a 2), .int ((mI B).1 a 3), .int ((mI B).1 a 4), .int ((mI B).1 a 5), .int ((mI B).1 a 6), .ref (a + 1), .ref (a + 2)] = _
  simp only [mI_k h (by decide)]
  rfl
theorem fs_2 {B a : Nat} (h : fw_kd B a = 2) : fw_fs 2 a (mI B) = [.ref (a + 1), .int 0, .int 0] := by
  show [Value.ref (a + 1), .int ((mI B).1 a 1), .int ((mI B).1 a 2)] = _
  simp only [mI_k h (by decide)]
  rfl
theorem fs_3 {B a : Nat} (h : fw_kd B a = 3) : fw_fs 3 a (mI B) = [.int 0, .int 0, .int 0, .int 0, .int 0, .int 0, .int 0, .int 0, .ref (a + 1), .ref (a + 2)] := by
  show [Value.int ((mI B).1 a 0), .int ((mI B).1 a 1), .int ((mI B).1 a 2), .int ((mI B).1 a 3), .int ((mI B).1 a 4), .int ((mI B).1 a 5), .int ((mI B).1 a 6), .int ((mI B).1 a 7), .ref (a + 1), .ref (a + 2)] = _
  simp only [mI_k h (by decide)]
  rfl
theorem fs_4 {B a : Nat} (h : fw_kd B a = 4) : fw_fs 4 a (mI B) = [.ref (a + 1), .ref (a + 2), .int 0, .int 0, .int 0] := by
  show [Value.ref (a + 1), .ref (a + 2), .int ((mI B).1 a 2), .int ((mI B).1 a 3), .int ((mI B).1 a 4)] = _
  simp only [mI_k h (by decide)]
  rfl
theorem fs_6 {B a : Nat} (h : fw_kd B a = 6) : fw_fs 6 a (mI B) = [.ref (a + 1), .ref (a + 2), .ref (a + 3), .ref (a + 4), .int 0, .ref (a + 5), .int 0, .int 0, .int 0, .int 0, .long 0] := by
  show [Value.ref (a + 1), .ref (a + 2), .ref (a + 3), .ref (a + 4), .int ((mI B).1 a 4), .ref (a + 5), .int ((mI B).1 a 6), .int ((mI B).1 a 7), .int ((mI B).1 a 8), .int ((mI B).1 a 9), .long 0] = _
  simp only [mI_k h (by decide)]
  rfl
theorem ko_le : ∀ o, o < 499 → fw_ko o ≤ 11 := by decide +kernel
theorem ct_eK {g : fw_G} {B o : Nat} (ho : o < 499) (h3 : o ≠ 493) : fw_ct g B (mI B) o = eK g (fw_ko o) (fw_lo o) (B + o) := by
  have hle := ko_le o ho
  have hkd : fw_kd B (B + o) = fw_ko o := kd_at rfl
  generalize hko : fw_ko o = kd at hle hkd
  rcases (show kd = 0 ∨ kd = 1 ∨ kd = 2 ∨ kd = 3 ∨ kd = 4 ∨ kd = 5 ∨ kd = 6 ∨ kd = 7 ∨ kd = 8 ∨ kd = 9 ∨ kd = 10 ∨ kd = 11 by omega) with y | y | y | y | y | y | y | y | y | y | y | y <;> subst y
  · rw [fw_ct_obj hko (by decide), fs_0 hkd]; rfl
  · rw [fw_ct_obj hko (by decide), fs_1 hkd]; rfl
  · rw [fw_ct_obj hko (by decide), fs_2 hkd]; rfl
  · rw [fw_ct_obj hko (by decide), fs_3 hkd]; rfl
  · rw [fw_ct_obj hko (by decide), fs_4 hkd]; rfl
  · rw [fw_ct_obj hko (by decide)]; rfl
  · rw [fw_ct_obj hko (by decide), fs_6 hkd]; rfl
  · rw [fw_ct_7 hko]
    have e : (mI B).1 (B + o) = fun _ => 0 := by
      funext k
      show iv (fw_kd B (B + o)) (B + o == B + 493) k = 0
      have e2 : (B + o == B + 493) = false := by rw [beq_eq_false_iff_ne]; omega
      rw [hkd, e2]
      unfold iv
      simp
    rw [e]
    rfl
  · unfold fw_ct; rw [hko]; rfl
  · unfold fw_ct; rw [hko]; rfl
  · unfold fw_ct; rw [hko]; rfl
  · unfold fw_ct; rw [hko]; rfl
theorem mI_493 {B : Nat} : (mI B).1 (B + 493) = upd (fun _ => 0) 1 10 := by
  funext k
  show iv (fw_kd B (B + 493)) (B + 493 == B + 493) k = _
  rw [show fw_kd B (B + 493) = 7 from kd_at (by decide), beq_self_eq_true]
  unfold iv upd
  simp
theorem ct_493 {g : fw_G} {B : Nat} : fw_ct g B (mI B) 493 = .inl (g.2 0, 517, .inl (upd (fun _ => 0) 1 10)) := by
  rw [fw_ct_7 (by decide), mI_493]
  rfl
def S00 : Sx := upd (fun _ => 0) 1 10
def Z00 : Zs := (S00, 0, fun _ _ => 0, 0, fun _ => 0)
theorem S00_n {k : Nat} (h : k ≠ 1) : S00 k = 0 := upd_n h
theorem RC_0 {B : Nat} : RC B (mI B) Z00 := by
  refine ⟨⟨by decide, by decide, fun j hj => ?_⟩, ⟨0, by decide, ?_, ?_, by decide, fun i hi => absurd hi (Nat.not_lt_zero i)⟩, ?_, by decide, fun i hi => absurd hi (Nat.not_lt_zero i)⟩
  · have h7 : j < 7 := by
      have e1 : cn Z00.1 = 0 := by decide
      have e2 : pn Z00.1 = 0 := by decide
      rw [e1, e2] at hj
      omega
    have kx : fw_kd B (B + 1) = 1 := kX EX_now
    unfold lo1
    rw [if_pos h7, mI_k kx (by decide)]
    rcases (show j = 0 ∨ j = 1 ∨ j = 2 ∨ j = 3 ∨ j = 4 ∨ j = 5 ∨ j = 6 by omega) with y | y | y | y | y | y | y <;> subst y <;> decide
  · rw [mI_k k163 (by decide)]; decide
  · rw [mI_k k163 (by decide)]; decide
  · rw [mI_k k489 (by decide)]; decide
theorem RM_0 {B : Nat} : RM B (mI B) Z00 := by
  refine ⟨mI_493, ?_, by decide, fun i hi => absurd hi (Nat.not_lt_zero i), ?_, by decide, fun k hk => absurd hk (Nat.not_lt_zero k)⟩
  · rw [mI_k k492 (by decide)]; decide
  · rw [mI_k k492 (by decide)]; decide
theorem KZ_0 : KZ Z00 := by
  have e1 : cn S00 = 0 := by decide
  have e2 : pn S00 = 0 := by decide
  refine ⟨⟨⟨0, by decide, by decide, ⟨by decide, by show cn S00 ≤ 6; rw [e1]; decide, by decide, by show pn S00 ≤ 24; rw [e2]; decide, fun c hc => ?_, fun c d hc => ?_, fun p hp => ?_⟩, fun k hk => S00_n (by omega)⟩, fun i hi => absurd hi (Nat.not_lt_zero i)⟩, ⟨⟨fun c d p hc => ?_, fun c p hc => ?_⟩, fun i hi => absurd hi (Nat.not_lt_zero i)⟩⟩
  · rw [show cn Z00.1 = 0 from e1] at hc; omega
  · rw [show cn Z00.1 = 0 from e1] at hc; omega
  · rw [show pn Z00.1 = 0 from e2] at hp; omega
  · rw [show cn Z00.1 = 0 from e1] at hc; omega
  · rw [show cn Z00.1 = 0 from e1] at hc; omega
end I0

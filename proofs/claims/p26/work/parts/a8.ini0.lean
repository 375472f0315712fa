/-! THE START: the first memory, the first state -/
section I0
def iv (kd k : Nat) : Int32 := if kd = 0 ∧ k = 4 then -1 else if kd = 1 ∧ k = 1 then 10 else 0
def mI (B : Nat) : fw_M := (fun a k => iv (fw_kd B a) k, fun _ => 0, 0)
theorem mI_k {B a kd k : Nat} (h : fw_kd B a = kd) : (mI B).1 a k = iv kd k := by
  show iv (fw_kd B a) k = _
  rw [h]
theorem mI_7 {B a : Nat} (h : fw_kd B a = 7) : (mI B).1 a = fun _ => 0 := by
  funext k
  rw [mI_k h]
  unfold iv
  simp
theorem fs_0 {B a : Nat} (h : fw_kd B a = 0) : fw_fs 0 a (mI B) = [.int 0, .int 0, .int 0, .int 0, .int (-1)] := by
  show [Value.int ((mI B).1 a 0), .int ((mI B).1 a 1), .int ((mI B).1 a 2), .int ((mI B).1 a 3), .int ((mI B).1 a 4)] = _
  simp only [mI_k h]
  rfl
theorem fs_1 {B a : Nat} (h : fw_kd B a = 1) : fw_fs 1 a (mI B) = [.int 0, .int 10, .int 0, .int 0, .int 0, .int 0, .int 0, .ref (a + 1), .ref (a + 2)] := by
  show [Value.int ((mI B).1 a 0), .int ((mI B).1 a 1), .int ((mI B).1 a 2), .int ((mI B).1 a 3), .int ((mI B).1 a 4), .int ((mI B).1 a 5), .int ((mI B).1 a 6), .ref (a + 1), .ref (a + 2)] = _
  simp only [mI_k h]
  rfl
theorem fs_2 {B a : Nat} (h : fw_kd B a = 2) : fw_fs 2 a (mI B) = [.ref (a + 1), .int 0, .int 0] := by
  show [Value.ref (a + 1), .int ((mI B).1 a 1), .int ((mI B).1 a 2)] = _
  simp only [mI_k h]
  rfl
theorem fs_3 {B a : Nat} (h : fw_kd B a = 3) : fw_fs 3 a (mI B) = [.int 0, .int 0, .int 0, .int 0, .int 0, .int 0, .int 0, .int 0, .ref (a + 1), .ref (a + 2)] := by
  show [Value.int ((mI B).1 a 0), .int ((mI B).1 a 1), .int ((mI B).1 a 2), .int ((mI B).1 a 3), .int ((mI B).1 a 4), .int ((mI B).1 a 5), .int ((mI B).1 a 6), .int ((mI B).1 a 7), .ref (a + 1), .ref (a + 2)] = _
  simp only [mI_k h]
  rfl
theorem fs_4 {B a : Nat} (h : fw_kd B a = 4) : fw_fs 4 a (mI B) = [.ref (a + 1), .ref (a + 2), .int 0, .int 0, .int 0] := by
  show [Value.ref (a + 1), .ref (a + 2), .int ((mI B).1 a 2), .int ((mI B).1 a 3), .int ((mI B).1 a 4)] = _
  simp only [mI_k h]
  rfl
theorem ko_le : ∀ o, o < 497 → fw_ko o ≤ 10 := by decide +kernel
theorem ct_eK {g : fw_G} {B o : Nat} (ho : o < 497) : fw_ct g B (mI B) o = eK g (fw_ko o) (fw_lo o) (B + o) := by
  have hle := ko_le o ho
  have hkd : fw_kd B (B + o) = fw_ko o := kd_at rfl
  have h6 : fw_ko o ≠ 6 := by
    have k : ∀ o, o < 497 → fw_ko o ≠ 6 := by decide +kernel
    exact k o ho
  generalize hko : fw_ko o = kd at hle hkd h6
  rcases (show kd = 0 ∨ kd = 1 ∨ kd = 2 ∨ kd = 3 ∨ kd = 4 ∨ kd = 5 ∨ kd = 7 ∨ kd = 8 ∨ kd = 9 ∨ kd = 10 by omega) with y | y | y | y | y | y | y | y | y | y <;> subst y
  · rw [fw_ct_obj hko (by decide), fs_0 hkd]; rfl
  · rw [fw_ct_obj hko (by decide), fs_1 hkd]; rfl
  · rw [fw_ct_obj hko (by decide), fs_2 hkd]; rfl
  · rw [fw_ct_obj hko (by decide), fs_3 hkd]; rfl
  · rw [fw_ct_obj hko (by decide), fs_4 hkd]; rfl
  · rw [fw_ct_obj hko (by decide)]; rfl
  · rw [fw_ct_7 hko, mI_7 hkd]; rfl
  · unfold fw_ct; rw [hko]; rfl
  · unfold fw_ct; rw [hko]; rfl
  · unfold fw_ct; rw [hko]; rfl
def S00 : Sx := upd (fun _ => 0) 1 10
def Z00 : Zs := (S00, 0, fun _ _ => 0, 0, fun _ => 0)
theorem S00_n {k : Nat} (h : k ≠ 1) : S00 k = 0 := upd_n h
theorem RC_0 {B : Nat} : RC B (mI B) Z00 := by
  refine ⟨⟨by decide, by decide, fun j hj => ?_⟩, ⟨0, by decide, ?_, ?_, by decide, fun i hi => absurd hi (Nat.not_lt_zero i)⟩, ?_, by decide, fun i hi => absurd hi (Nat.not_lt_zero i)⟩
  · have h7 : j < 7 := by
      have e1 : cn Z00.1 = 0 := by decide
      have e2 : pn Z00.1 = 0 := by decide
      rw [e1, e2] at hj
      omega
    have kx : fw_kd B (B + 1) = 1 := kX EX_now
    unfold lo1
    rw [if_pos h7, mI_k kx]
    rcases (show j = 0 ∨ j = 1 ∨ j = 2 ∨ j = 3 ∨ j = 4 ∨ j = 5 ∨ j = 6 by omega) with y | y | y | y | y | y | y <;> subst y <;> decide
  · rw [mI_k k163]; decide
  · rw [mI_k k163]; decide
  · rw [mI_k (kd_at (B := B) (k := 4) (o := 489) (by decide))]; decide
theorem KZ_0 : KZ Z00 := by
  have e1 : cn S00 = 0 := by decide
  have e2 : pn S00 = 0 := by decide
  refine ⟨⟨⟨0, by decide, by decide, ⟨by decide, by show cn S00 ≤ 6; rw [e1]; decide, by decide, by show pn S00 ≤ 24; rw [e2]; decide, fun c hc => ?_, fun c d hc => ?_, fun p hp => ?_⟩, fun k hk => S00_n (by omega)⟩, fun i hi => absurd hi (Nat.not_lt_zero i)⟩, ⟨⟨fun c d p hc => ?_, fun c p hc => ?_⟩, fun i hi => absurd hi (Nat.not_lt_zero i)⟩⟩
  · rw [show cn Z00.1 = 0 from e1] at hc; omega
  · rw [show cn Z00.1 = 0 from e1] at hc; omega
  · rw [show pn Z00.1 = 0 from e2] at hp; omega
  · rw [show cn Z00.1 = 0 from e1] at hc; omega
  · rw [show cn Z00.1 = 0 from e1] at hc; omega
theorem RW_00 {B : Nat} : RW B (mI B) (fun _ => 0) := by
  refine ⟨fun k hk => ?_, fun c w hc hw => ?_, fun m w hm hw => ?_, fun m w hm hw => ?_, fun m w hm hw => ?_⟩
  · rw [mI_7 kd_492]
  · rw [mI_7 kd_493]; rfl
  · rw [mI_7 kd_494]; rfl
  · rw [mI_7 kd_495]; rfl
  · rw [mI_7 kd_496]; rfl
theorem LZ_0 {B : Nat} : LZ B (fw_st (mI B) (B + 492) (1 : Int32).toNatClampNeg 10) Z00 := by
  have e2 : pn S00 = 0 := by decide
  refine ⟨RC_hi RC_0 (fun b hb => st_o (by omega)), KZ_0, wrg1 RW_00 rfl, ?_, by show pn S00 ≤ 8; rw [e2]; decide⟩
  obtain ⟨t, h1, h2, h3, -⟩ := KZ_0.1.1
  have h2 : S00 0 = nI t := h2
  rw [S00_n (by decide), show (0 : Int32) = nI 0 from rfl, nI_eq (by decide) (by omega)] at h2
  subst h2
  show IG S00
  have h3 : WF 0 S00 := h3
  exact ⟨0, by decide, S00_n (by decide), h3, IV_0 (S00_n (by decide)) (S00_n (by decide)) (S00_n (by decide)) (S00_n (by decide)) (fun m w _ _ => S00_n (by omega))⟩
end I0

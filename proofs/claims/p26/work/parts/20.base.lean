/-! PLAIN FACTS that the walks use: places, rows of the memory, small numbers -/
section BS
theorem kd_at {B o k : Nat} (h : fw_ko o = k) : fw_kd B (B + o) = k := by
  unfold fw_kd
  rw [if_neg (by omega), Nat.add_sub_cancel_left]
  exact h
theorem kd_492 {B : Nat} : fw_kd B (B + 492) = 7 := kd_at (by decide)
theorem kd_493 {B : Nat} : fw_kd B (B + 493) = 7 := kd_at (by decide)
theorem kd_494 {B : Nat} : fw_kd B (B + 494) = 7 := kd_at (by decide)
theorem kd_495 {B : Nat} : fw_kd B (B + 495) = 7 := kd_at (by decide)
theorem kd_496 {B : Nat} : fw_kd B (B + 496) = 7 := kd_at (by decide)
theorem ln_at {B o k : Nat} (h : fw_lo o = k) : fw_len B (B + o) = k := by
  unfold fw_len
  rw [Nat.add_sub_cancel_left]
  exact h
theorem ln_493 {B : Nat} : fw_len B (B + 493) = 30 := ln_at (by decide)
theorem ln_494 {B : Nat} : fw_len B (B + 494) = 64 := ln_at (by decide)
theorem ln_495 {B : Nat} : fw_len B (B + 495) = 48 := ln_at (by decide)
theorem ln_496 {B : Nat} : fw_len B (B + 496) = 48 := ln_at (by decide)
theorem ln_492 {B : Nat} : fw_len B (B + 492) = 7 := ln_at (by decide)
theorem row_1 {M : fw_M} {a : Nat} {f : Nat → Int32} : (fw_row M a f).1 a = f := if_pos rfl
theorem row_n {M : fw_M} {a b : Nat} {f : Nat → Int32} (h : b ≠ a) : (fw_row M a f).1 b = M.1 b := if_neg h
theorem row_2 {M : fw_M} {a : Nat} {f : Nat → Int32} : (fw_row M a f).2 = M.2 := rfl
theorem row_row {M : fw_M} {a : Nat} {f f' : Nat → Int32} : fw_row (fw_row M a f) a f' = fw_row M a f' := by
  unfold fw_row
  refine Prod.ext (funext fun b => ?_) rfl
  dsimp only
  by_cases h : b = a
  · rw [if_pos h, if_pos h]
  · rw [if_neg h, if_neg h, if_neg h]
theorem row_self {M : fw_M} {a : Nat} : fw_row M a (M.1 a) = M := by
  refine Prod.ext (funext fun b => ?_) rfl
  show (if b = a then M.1 a else M.1 b) = M.1 b
  by_cases h : b = a
  · rw [if_pos h, h]
  · rw [if_neg h]
theorem row_comm {M : fw_M} {a b : Nat} {f f' : Nat → Int32} (h : a ≠ b) : fw_row (fw_row M a f) b f' = fw_row (fw_row M b f') a f := by
  refine Prod.ext (funext fun c => ?_) rfl
  show (if c = b then f' else if c = a then f else M.1 c) = (if c = a then f else if c = b then f' else M.1 c)
  by_cases h1 : c = b
  · subst h1
    rw [if_pos rfl, if_neg (Ne.symm h), if_pos rfl]
  · rw [if_neg h1, if_neg h1]
theorem st_row {M : fw_M} {a k : Nat} {x : Int32} : fw_st M a k x = fw_row M a (upd (M.1 a) k x) := rfl
theorem stl_1 {M : fw_M} {j : Nat} {x : Int64} : (fw_stl M j x).1 = M.1 := rfl
theorem upd_s {f : Nat → Int32} {k : Nat} {x : Int32} : upd f k x k = x := if_pos rfl
theorem upd_n {f : Nat → Int32} {k j : Nat} {x : Int32} (h : j ≠ k) : upd f k x j = f j := if_neg h
theorem upd_upd {f : Nat → Int32} {k : Nat} {x y : Int32} : upd (upd f k x) k y = upd f k y := by
  funext j
  unfold upd
  by_cases h : j = k
  · rw [if_pos h, if_pos h]
  · rw [if_neg h, if_neg h, if_neg h]
theorem upd_comm {f : Nat → Int32} {k j : Nat} {x y : Int32} (h : k ≠ j) : upd (upd f k x) j y = upd (upd f j y) k x := by
  funext i
  unfold upd
  by_cases h1 : i = j
  · subst h1
    rw [if_pos rfl, if_neg (Ne.symm h), if_pos rfl]
  · rw [if_neg h1, if_neg h1]
theorem upd_self {f : Nat → Int32} {k : Nat} : upd f k (f k) = f := by
  funext j
  unfold upd
  by_cases h : j = k
  · rw [if_pos h, h]
  · rw [if_neg h]
/-- one or zero -/
def bi (b : Bool) : Int32 := bif b then 1 else 0
theorem bi_0 {b : Bool} : bi b = 0 ↔ b = false := by cases b <;> decide
theorem bi_n0 {b : Bool} : ¬ bi b = 0 ↔ b = true := by cases b <;> decide
theorem bi_1 {b : Bool} : bi b = 1 ↔ b = true := by cases b <;> decide
theorem bi_01 {b : Bool} : bi b = 0 ∨ bi b = 1 := by cases b <;> decide
theorem bi_t : bi true = 1 := rfl
theorem bi_f : bi false = 0 := rfl
/-- the first n of one, the rest of another -/
def cpN (n : Nat) (f g : Nat → Int32) : Nat → Int32 := fun k => if k < n then f k else g k
theorem cpN_0 {f g : Nat → Int32} : cpN 0 f g = g := by funext k; simp [cpN]
theorem cpN_s {n : Nat} {f g : Nat → Int32} : upd (cpN n f g) n (f n) = cpN (n + 1) f g := by
  funext k
  unfold upd cpN
  by_cases h : k = n
  · subst h; simp
  · rw [if_neg h]
    by_cases h2 : k < n
    · rw [if_pos h2, if_pos (by omega)]
    · rw [if_neg h2, if_neg (by omega)]
theorem n_ge {a b : Nat} (ha : a < 2 ^ 31) (hb : b < 2 ^ 31) : nI a ≤ nI b ↔ a ≤ b := nI_leI ha hb
theorem n_lt {a b : Nat} (ha : a < 2 ^ 31) (hb : b < 2 ^ 31) : nI a < nI b ↔ a < b := nI_ltI ha hb
theorem n_add (a b : Nat) : nI a + nI b = nI (a + b) := nI_add a b
theorem n_mul (a b : Nat) : nI a * nI b = nI (a * b) := pk_mul a b
theorem n_cl {n : Nat} (h : n < 2 ^ 31) : (nI n).toNatClampNeg = n := nI_clamp h
theorem n_in {n N : Nat} (h : n < N) (hN : N < 2 ^ 31) : vp_in (nI n) N := vp_in_nI h hN
/-- the places of the reference's row -/
theorem ixC {c w : Nat} : (7 : Int32) + 5 * nI c + nI w = nI (7 + 5 * c + w) := by
  rw [show (7 : Int32) = nI 7 from rfl, show (5 : Int32) = nI 5 from rfl, n_mul, n_add, n_add]
theorem ixP {p w : Nat} : (37 : Int32) + 20 * nI p + nI w = nI (37 + 20 * p + w) := by
  rw [show (37 : Int32) = nI 37 from rfl, show (20 : Int32) = nI 20 from rfl, n_mul, n_add, n_add]
end BS

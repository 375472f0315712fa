/-! the places of the reference's row, with the numbers as the code has them -/
section B2
theorem cx0 {c : Nat} : (7 : Int32) + 5 * nI c + 0 = nI (7 + 5 * c + 0) := ixC
theorem vC0 {c : Nat} (h : c < 6) : fw_sd (vp_in ((7 : Int32) + 5 * nI c + 0) 517) := by rw [cx0]; exact fw_sd_i (n_in (by omega) (by decide))
theorem cx1 {c : Nat} : (7 : Int32) + 5 * nI c + 1 = nI (7 + 5 * c + 1) := ixC
theorem vC1 {c : Nat} (h : c < 6) : fw_sd (vp_in ((7 : Int32) + 5 * nI c + 1) 517) := by rw [cx1]; exact fw_sd_i (n_in (by omega) (by decide))
theorem cx2 {c : Nat} : (7 : Int32) + 5 * nI c + 2 = nI (7 + 5 * c + 2) := ixC
theorem vC2 {c : Nat} (h : c < 6) : fw_sd (vp_in ((7 : Int32) + 5 * nI c + 2) 517) := by rw [cx2]; exact fw_sd_i (n_in (by omega) (by decide))
theorem cx3 {c : Nat} : (7 : Int32) + 5 * nI c + 3 = nI (7 + 5 * c + 3) := ixC
theorem vC3 {c : Nat} (h : c < 6) : fw_sd (vp_in ((7 : Int32) + 5 * nI c + 3) 517) := by rw [cx3]; exact fw_sd_i (n_in (by omega) (by decide))
theorem cx4 {c : Nat} : (7 : Int32) + 5 * nI c + 4 = nI (7 + 5 * c + 4) := ixC
theorem vC4 {c : Nat} (h : c < 6) : fw_sd (vp_in ((7 : Int32) + 5 * nI c + 4) 517) := by rw [cx4]; exact fw_sd_i (n_in (by omega) (by decide))
theorem px0 {p : Nat} : (37 : Int32) + 20 * nI p + 0 = nI (37 + 20 * p + 0) := ixP
theorem vP0 {p : Nat} (h : p < 24) : fw_sd (vp_in ((37 : Int32) + 20 * nI p + 0) 517) := by rw [px0]; exact fw_sd_i (n_in (by omega) (by decide))
theorem px1 {p : Nat} : (37 : Int32) + 20 * nI p + 1 = nI (37 + 20 * p + 1) := ixP
theorem vP1 {p : Nat} (h : p < 24) : fw_sd (vp_in ((37 : Int32) + 20 * nI p + 1) 517) := by rw [px1]; exact fw_sd_i (n_in (by omega) (by decide))
theorem px2 {p : Nat} : (37 : Int32) + 20 * nI p + 2 = nI (37 + 20 * p + 2) := ixP
theorem vP2 {p : Nat} (h : p < 24) : fw_sd (vp_in ((37 : Int32) + 20 * nI p + 2) 517) := by rw [px2]; exact fw_sd_i (n_in (by omega) (by decide))
theorem px3 {p : Nat} : (37 : Int32) + 20 * nI p + 3 = nI (37 + 20 * p + 3) := ixP
theorem vP3 {p : Nat} (h : p < 24) : fw_sd (vp_in ((37 : Int32) + 20 * nI p + 3) 517) := by rw [px3]; exact fw_sd_i (n_in (by omega) (by decide))
theorem px4 {p : Nat} : (37 : Int32) + 20 * nI p + 4 = nI (37 + 20 * p + 4) := ixP
theorem vP4 {p : Nat} (h : p < 24) : fw_sd (vp_in ((37 : Int32) + 20 * nI p + 4) 517) := by rw [px4]; exact fw_sd_i (n_in (by omega) (by decide))
theorem px5 {p : Nat} : (37 : Int32) + 20 * nI p + 5 = nI (37 + 20 * p + 5) := ixP
theorem vP5 {p : Nat} (h : p < 24) : fw_sd (vp_in ((37 : Int32) + 20 * nI p + 5) 517) := by rw [px5]; exact fw_sd_i (n_in (by omega) (by decide))
theorem px6 {p : Nat} : (37 : Int32) + 20 * nI p + 6 = nI (37 + 20 * p + 6) := ixP
theorem vP6 {p : Nat} (h : p < 24) : fw_sd (vp_in ((37 : Int32) + 20 * nI p + 6) 517) := by rw [px6]; exact fw_sd_i (n_in (by omega) (by decide))
theorem px7 {p : Nat} : (37 : Int32) + 20 * nI p + 7 = nI (37 + 20 * p + 7) := ixP
theorem vP7 {p : Nat} (h : p < 24) : fw_sd (vp_in ((37 : Int32) + 20 * nI p + 7) 517) := by rw [px7]; exact fw_sd_i (n_in (by omega) (by decide))
theorem pxL {p c : Nat} : (37 : Int32) + 20 * nI p + (8 + nI c) = nI (37 + 20 * p + (8 + c)) := by
  rw [show (8 : Int32) = nI 8 from rfl, n_add]
  exact ixP
theorem vPL {p c : Nat} (h : p < 24) (h2 : c < 6) : fw_sd (vp_in ((37 : Int32) + 20 * nI p + (8 + nI c)) 517) := by rw [pxL]; exact fw_sd_i (n_in (by omega) (by decide))
theorem pxS {p c : Nat} : (37 : Int32) + 20 * nI p + (14 + nI c) = nI (37 + 20 * p + (14 + c)) := by
  rw [show (14 : Int32) = nI 14 from rfl, n_add]
  exact ixP
theorem vPS {p c : Nat} (h : p < 24) (h2 : c < 6) : fw_sd (vp_in ((37 : Int32) + 20 * nI p + (14 + nI c)) 517) := by rw [pxS]; exact fw_sd_i (n_in (by omega) (by decide))
theorem vn_i {i n : Nat} (h : i < n) (hn : n < 2 ^ 31) : fw_sd (vp_in (nI i) n) := fw_sd_i (n_in h hn)
theorem cl0 : (0 : Int32).toNatClampNeg = 0 := by decide
theorem cl1 : (1 : Int32).toNatClampNeg = 1 := by decide
theorem cl2 : (2 : Int32).toNatClampNeg = 2 := by decide
theorem cl3 : (3 : Int32).toNatClampNeg = 3 := by decide
theorem cl4 : (4 : Int32).toNatClampNeg = 4 := by decide
theorem cl5 : (5 : Int32).toNatClampNeg = 5 := by decide
theorem cl6 : (6 : Int32).toNatClampNeg = 6 := by decide
theorem cl7 : (7 : Int32).toNatClampNeg = 7 := by decide
theorem cl8 : (8 : Int32).toNatClampNeg = 8 := by decide
theorem cl9 : (9 : Int32).toNatClampNeg = 9 := by decide
theorem cl10 : (10 : Int32).toNatClampNeg = 10 := by decide
theorem b493 {B : Nat} : B + 492 + 1 = B + 493 := rfl
theorem b494 {B : Nat} : B + 492 + 2 = B + 494 := rfl
theorem b495 {B : Nat} : B + 492 + 3 = B + 495 := rfl
theorem b496 {B : Nat} : B + 492 + 4 = B + 496 := rfl
theorem b497 {B : Nat} : B + 492 + 5 = B + 497 := rfl
theorem n_sub4 (j : Nat) : nI (j + 4) - (4 : Int32) = nI j := by
  rw [show (4 : Int32) = nI 4 from rfl, pk_sub (by omega), Nat.add_sub_cancel]
end B2

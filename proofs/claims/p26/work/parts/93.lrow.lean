/-! THE LAW'S ROWS: time and counts, couriers, parcels, legs, shares, as the words of a state -/
section LR
def RW (B : Nat) (M : fw_M) (S : Sx) : Prop := (∀ k, k < 7 → M.1 (B + 492) k = S k) ∧ (∀ c w, c < 6 → w < 5 → M.1 (B + 493) (5 * c + w) = sC S c w) ∧ (∀ m w, m < 8 → w < 8 → M.1 (B + 494) (8 * m + w) = sP S m w) ∧ (∀ m k, m < 8 → k < 6 → M.1 (B + 495) (6 * m + k) = sP S m (8 + k)) ∧ (∀ m k, m < 8 → k < 6 → M.1 (B + 496) (6 * m + k) = sP S m (14 + k))
/-- nothing but the law's rows has changed -/
def FL (B : Nat) (M M' : fw_M) : Prop := (∀ b, b < B + 492 ∨ B + 497 ≤ b → M'.1 b = M.1 b) ∧ M'.2 = M.2
theorem FL_id {B : Nat} {M : fw_M} : FL B M M := ⟨fun _ _ => rfl, rfl⟩
theorem FL_tr {B : Nat} {M M1 M2 : fw_M} (h1 : FL B M M1) (h2 : FL B M1 M2) : FL B M M2 := ⟨fun b hb => (h2.1 b hb).trans (h1.1 b hb), h2.2.trans h1.2⟩
theorem FL_s {B r k : Nat} {M M1 : fw_M} {v : Int32} (h : FL B M M1) (h1 : 492 ≤ r := by decide) (h2 : r < 497 := by decide) : FL B M (fw_st M1 (B + r) k v) := FL_tr h ⟨fun b hb => fw_up_ne (by omega), rfl⟩
def toW (B : Nat) (M : fw_M) (S' : Sx) (Q : fw_M → Prop) : Prop := ∀ M', RW B M' S' → FL B M M' → Q M'
theorem RW_g {B k : Nat} {M : fw_M} {S : Sx} {v : Int32} (h : RW B M S) (hk : k < 7) : RW B (fw_st M (B + 492) k v) (upd S k v) := by
  obtain ⟨h1, h2, h3, h4, h5⟩ := h
  refine ⟨fun j hj => ?_, fun c w hc hw => ?_, fun m w hm hw => ?_, fun m w hm hw => ?_, fun m w hm hw => ?_⟩
  · by_cases e : j = k
    · subst e; rw [st_s, upd_s]
    · rw [st_n e, upd_n e]; exact h1 j hj
  · rw [st_o (by omega), gCu hk]; exact h2 c w hc hw
  · rw [st_o (by omega), gPu (by omega)]; exact h3 m w hm hw
  · rw [st_o (by omega), gPu (by omega)]; exact h4 m w hm hw
  · rw [st_o (by omega), gPu (by omega)]; exact h5 m w hm hw
theorem RW_c {B c w : Nat} {M : fw_M} {S : Sx} {v : Int32} (h : RW B M S) (hc : c < 6) (hw : w < 5) : RW B (fw_st M (B + 493) (5 * c + w) v) (uC S c w v) := by
  obtain ⟨h1, h2, h3, h4, h5⟩ := h
  refine ⟨fun j hj => ?_, fun d x hd hx => ?_, fun m x hm hx => ?_, fun m x hm hx => ?_, fun m x hm hx => ?_⟩
  · rw [st_o (by omega), uC_lo hj]; exact h1 j hj
  · rw [gCC hx hw]
    by_cases e : d = c ∧ x = w
    · rw [if_pos e, e.1, e.2, st_s]
    · rw [if_neg e, st_n (by omega)]; exact h2 d x hd hx
  · rw [st_o (by omega), gPC hc hw]; exact h3 m x hm hx
  · rw [st_o (by omega), gPC hc hw]; exact h4 m x hm hx
  · rw [st_o (by omega), gPC hc hw]; exact h5 m x hm hx
theorem RW_p {B m w : Nat} {M : fw_M} {S : Sx} {v : Int32} (h : RW B M S) (hm : m < 8) (hw : w < 8) : RW B (fw_st M (B + 494) (8 * m + w) v) (uP S m w v) := by
  obtain ⟨h1, h2, h3, h4, h5⟩ := h
  refine ⟨fun j hj => ?_, fun d x hd hx => ?_, fun q x hq hx => ?_, fun q x hq hx => ?_, fun q x hq hx => ?_⟩
  · rw [st_o (by omega), uP_lo (by omega)]; exact h1 j hj
  · rw [st_o (by omega), gCP hd hx]; exact h2 d x hd hx
  · rw [gPP (by omega) (by omega)]
    by_cases e : q = m ∧ x = w
    · rw [if_pos e, e.1, e.2, st_s]
    · rw [if_neg e, st_n (by omega)]; exact h3 q x hq hx
  · rw [st_o (by omega), gPP (by omega) (by omega), if_neg (by omega)]; exact h4 q x hq hx
  · rw [st_o (by omega), gPP (by omega) (by omega), if_neg (by omega)]; exact h5 q x hq hx
theorem RW_l {B m w : Nat} {M : fw_M} {S : Sx} {v : Int32} (h : RW B M S) (hm : m < 8) (hw : w < 6) : RW B (fw_st M (B + 495) (6 * m + w) v) (uP S m (8 + w) v) := by
  obtain ⟨h1, h2, h3, h4, h5⟩ := h
  refine ⟨fun j hj => ?_, fun d x hd hx => ?_, fun q x hq hx => ?_, fun q x hq hx => ?_, fun q x hq hx => ?_⟩
  · rw [st_o (by omega), uP_lo (by omega)]; exact h1 j hj
  · rw [st_o (by omega), gCP hd hx]; exact h2 d x hd hx
  · rw [st_o (by omega), gPP (by omega) (by omega), if_neg (by omega)]; exact h3 q x hq hx
  · rw [gPP (by omega) (by omega)]
    by_cases e : q = m ∧ x = w
    · rw [if_pos ⟨e.1, by omega⟩, e.1, e.2, st_s]
    · rw [if_neg (by omega), st_n (by omega)]; exact h4 q x hq hx
  · rw [st_o (by omega), gPP (by omega) (by omega), if_neg (by omega)]; exact h5 q x hq hx
theorem RW_h {B m w : Nat} {M : fw_M} {S : Sx} {v : Int32} (h : RW B M S) (hm : m < 8) (hw : w < 6) : RW B (fw_st M (B + 496) (6 * m + w) v) (uP S m (14 + w) v) := by
  obtain ⟨h1, h2, h3, h4, h5⟩ := h
  refine ⟨fun j hj => ?_, fun d x hd hx => ?_, fun q x hq hx => ?_, fun q x hq hx => ?_, fun q x hq hx => ?_⟩
  · rw [st_o (by omega), uP_lo (by omega)]; exact h1 j hj
  · rw [st_o (by omega), gCP hd hx]; exact h2 d x hd hx
  · rw [st_o (by omega), gPP (by omega) (by omega), if_neg (by omega)]; exact h3 q x hq hx
  · rw [st_o (by omega), gPP (by omega) (by omega), if_neg (by omega)]; exact h4 q x hq hx
  · rw [gPP (by omega) (by omega)]
    by_cases e : q = m ∧ x = w
    · rw [if_pos ⟨e.1, by omega⟩, e.1, e.2, st_s]
    · rw [if_neg (by omega), st_n (by omega)]; exact h5 q x hq hx
theorem RW_cg {B : Nat} {M M' : fw_M} {S : Sx} (h : RW B M S) (e : ∀ b, B + 492 ≤ b → b < B + 497 → M'.1 b = M.1 b) : RW B M' S := by
  obtain ⟨h1, h2, h3, h4, h5⟩ := h
  refine ⟨fun k hk => ?_, fun c w hc hw => ?_, fun m w hm hw => ?_, fun m w hm hw => ?_, fun m w hm hw => ?_⟩
  · rw [e _ (by omega) (by omega)]; exact h1 k hk
  · rw [e _ (by omega) (by omega)]; exact h2 c w hc hw
  · rw [e _ (by omega) (by omega)]; exact h3 m w hm hw
  · rw [e _ (by omega) (by omega)]; exact h4 m w hm hw
  · rw [e _ (by omega) (by omega)]; exact h5 m w hm hw
theorem RC_hi {B : Nat} {M M' : fw_M} {Z : Zs} (h : RC B M Z) (e : ∀ b, b < B + 492 → M'.1 b = M.1 b) : RC B M' Z :=
  ⟨Rep_fr h.1 (fun c h1 h2 => e c (by omega)), HS_fr h.2.1 (fun c h1 h2 => e c (by omega)), TS_eq h.2.2 (e _ (by omega)) (e _ (by omega))⟩
theorem vrg0 {B : Nat} : fw_sd (vp_in (0 : Int32) (fw_len B (B + 492))) := by rw [ln_492]; exact vn_i (i := 0) (by decide) (by decide)
theorem rrg0 {B : Nat} {M : fw_M} {S : Sx} (h : RW B M S) : M.1 (B + 492) (0 : Int32).toNatClampNeg = S 0 := h.1 0 (by decide)
theorem wrg0 {B : Nat} {M : fw_M} {S : Sx} {v v' : Int32} (h : RW B M S) (e : v = v') : RW B (fw_st M (B + 492) (0 : Int32).toNatClampNeg v) (upd S 0 v') := by subst e; exact RW_g (k := 0) h (by decide)
theorem vrg1 {B : Nat} : fw_sd (vp_in (1 : Int32) (fw_len B (B + 492))) := by rw [ln_492]; exact vn_i (i := 1) (by decide) (by decide)
theorem rrg1 {B : Nat} {M : fw_M} {S : Sx} (h : RW B M S) : M.1 (B + 492) (1 : Int32).toNatClampNeg = S 1 := h.1 1 (by decide)
theorem wrg1 {B : Nat} {M : fw_M} {S : Sx} {v v' : Int32} (h : RW B M S) (e : v = v') : RW B (fw_st M (B + 492) (1 : Int32).toNatClampNeg v) (upd S 1 v') := by subst e; exact RW_g (k := 1) h (by decide)
theorem vrg2 {B : Nat} : fw_sd (vp_in (2 : Int32) (fw_len B (B + 492))) := by rw [ln_492]; exact vn_i (i := 2) (by decide) (by decide)
theorem rrg2 {B : Nat} {M : fw_M} {S : Sx} (h : RW B M S) : M.1 (B + 492) (2 : Int32).toNatClampNeg = S 2 := h.1 2 (by decide)
theorem wrg2 {B : Nat} {M : fw_M} {S : Sx} {v v' : Int32} (h : RW B M S) (e : v = v') : RW B (fw_st M (B + 492) (2 : Int32).toNatClampNeg v) (upd S 2 v') := by subst e; exact RW_g (k := 2) h (by decide)
theorem vrg3 {B : Nat} : fw_sd (vp_in (3 : Int32) (fw_len B (B + 492))) := by rw [ln_492]; exact vn_i (i := 3) (by decide) (by decide)
theorem rrg3 {B : Nat} {M : fw_M} {S : Sx} (h : RW B M S) : M.1 (B + 492) (3 : Int32).toNatClampNeg = S 3 := h.1 3 (by decide)
theorem wrg3 {B : Nat} {M : fw_M} {S : Sx} {v v' : Int32} (h : RW B M S) (e : v = v') : RW B (fw_st M (B + 492) (3 : Int32).toNatClampNeg v) (upd S 3 v') := by subst e; exact RW_g (k := 3) h (by decide)
theorem vrg4 {B : Nat} : fw_sd (vp_in (4 : Int32) (fw_len B (B + 492))) := by rw [ln_492]; exact vn_i (i := 4) (by decide) (by decide)
theorem rrg4 {B : Nat} {M : fw_M} {S : Sx} (h : RW B M S) : M.1 (B + 492) (4 : Int32).toNatClampNeg = S 4 := h.1 4 (by decide)
theorem wrg4 {B : Nat} {M : fw_M} {S : Sx} {v v' : Int32} (h : RW B M S) (e : v = v') : RW B (fw_st M (B + 492) (4 : Int32).toNatClampNeg v) (upd S 4 v') := by subst e; exact RW_g (k := 4) h (by decide)
theorem vrg5 {B : Nat} : fw_sd (vp_in (5 : Int32) (fw_len B (B + 492))) := by rw [ln_492]; exact vn_i (i := 5) (by decide) (by decide)
theorem rrg5 {B : Nat} {M : fw_M} {S : Sx} (h : RW B M S) : M.1 (B + 492) (5 : Int32).toNatClampNeg = S 5 := h.1 5 (by decide)
theorem wrg5 {B : Nat} {M : fw_M} {S : Sx} {v v' : Int32} (h : RW B M S) (e : v = v') : RW B (fw_st M (B + 492) (5 : Int32).toNatClampNeg v) (upd S 5 v') := by subst e; exact RW_g (k := 5) h (by decide)
theorem vrg6 {B : Nat} : fw_sd (vp_in (6 : Int32) (fw_len B (B + 492))) := by rw [ln_492]; exact vn_i (i := 6) (by decide) (by decide)
theorem rrg6 {B : Nat} {M : fw_M} {S : Sx} (h : RW B M S) : M.1 (B + 492) (6 : Int32).toNatClampNeg = S 6 := h.1 6 (by decide)
theorem wrg6 {B : Nat} {M : fw_M} {S : Sx} {v v' : Int32} (h : RW B M S) (e : v = v') : RW B (fw_st M (B + 492) (6 : Int32).toNatClampNeg v) (upd S 6 v') := by subst e; exact RW_g (k := 6) h (by decide)
theorem xrc {k : Nat} : (5 : Int32) * nI k = nI (5 * k + 0) := by rw [show (5 : Int32) = nI 5 from rfl, n_mul]; rfl
theorem vrc {B k : Nat} (h : k < 6) : fw_sd (vp_in ((5 : Int32) * nI k) (fw_len B (B + 493))) := by rw [xrc, ln_493]; exact vn_i (by omega) (by decide)
theorem rrc {B k : Nat} {M : fw_M} {S : Sx} (h : RW B M S) (hk : k < 6) : M.1 (B + 493) ((5 : Int32) * nI k).toNatClampNeg = sC S k 0 := by rw [xrc, n_cl (by omega)]; exact h.2.1 k 0 hk (by decide)
theorem wrc {B k : Nat} {M : fw_M} {S : Sx} {v v' : Int32} (h : RW B M S) (hk : k < 6) (e : v = v') : RW B (fw_st M (B + 493) ((5 : Int32) * nI k).toNatClampNeg v) (uC S k 0 v') := by subst e; rw [xrc, n_cl (by omega)]; exact RW_c h hk (by decide)
theorem xrc0 {k : Nat} : (5 : Int32) * nI k + 0 = nI (5 * k + 0) := by rw [show (5 : Int32) = nI 5 from rfl, show (0 : Int32) = nI 0 from rfl, n_mul, n_add]
theorem vrc0 {B k : Nat} (h : k < 6) : fw_sd (vp_in ((5 : Int32) * nI k + 0) (fw_len B (B + 493))) := by rw [xrc0, ln_493]; exact vn_i (by omega) (by decide)
theorem rrc0 {B k : Nat} {M : fw_M} {S : Sx} (h : RW B M S) (hk : k < 6) : M.1 (B + 493) ((5 : Int32) * nI k + 0).toNatClampNeg = sC S k 0 := by rw [xrc0, n_cl (by omega)]; exact h.2.1 k 0 hk (by decide)
theorem wrc0 {B k : Nat} {M : fw_M} {S : Sx} {v v' : Int32} (h : RW B M S) (hk : k < 6) (e : v = v') : RW B (fw_st M (B + 493) ((5 : Int32) * nI k + 0).toNatClampNeg v) (uC S k 0 v') := by subst e; rw [xrc0, n_cl (by omega)]; exact RW_c h hk (by decide)
theorem xrc1 {k : Nat} : (5 : Int32) * nI k + 1 = nI (5 * k + 1) := by rw [show (5 : Int32) = nI 5 from rfl, show (1 : Int32) = nI 1 from rfl, n_mul, n_add]
theorem vrc1 {B k : Nat} (h : k < 6) : fw_sd (vp_in ((5 : Int32) * nI k + 1) (fw_len B (B + 493))) := by rw [xrc1, ln_493]; exact vn_i (by omega) (by decide)
theorem rrc1 {B k : Nat} {M : fw_M} {S : Sx} (h : RW B M S) (hk : k < 6) : M.1 (B + 493) ((5 : Int32) * nI k + 1).toNatClampNeg = sC S k 1 := by rw [xrc1, n_cl (by omega)]; exact h.2.1 k 1 hk (by decide)
theorem wrc1 {B k : Nat} {M : fw_M} {S : Sx} {v v' : Int32} (h : RW B M S) (hk : k < 6) (e : v = v') : RW B (fw_st M (B + 493) ((5 : Int32) * nI k + 1).toNatClampNeg v) (uC S k 1 v') := by subst e; rw [xrc1, n_cl (by omega)]; exact RW_c h hk (by decide)
theorem xrc2 {k : Nat} : (5 : Int32) * nI k + 2 = nI (5 * k + 2) := by rw [show (5 : Int32) = nI 5 from rfl, show (2 : Int32) = nI 2 from rfl, n_mul, n_add]
theorem vrc2 {B k : Nat} (h : k < 6) : fw_sd (vp_in ((5 : Int32) * nI k + 2) (fw_len B (B + 493))) := by rw [xrc2, ln_493]; exact vn_i (by omega) (by decide)
theorem rrc2 {B k : Nat} {M : fw_M} {S : Sx} (h : RW B M S) (hk : k < 6) : M.1 (B + 493) ((5 : Int32) * nI k + 2).toNatClampNeg = sC S k 2 := by rw [xrc2, n_cl (by omega)]; exact h.2.1 k 2 hk (by decide)
theorem wrc2 {B k : Nat} {M : fw_M} {S : Sx} {v v' : Int32} (h : RW B M S) (hk : k < 6) (e : v = v') : RW B (fw_st M (B + 493) ((5 : Int32) * nI k + 2).toNatClampNeg v) (uC S k 2 v') := by subst e; rw [xrc2, n_cl (by omega)]; exact RW_c h hk (by decide)
theorem xrc3 {k : Nat} : (5 : Int32) * nI k + 3 = nI (5 * k + 3) := by rw [show (5 : Int32) = nI 5 from rfl, show (3 : Int32) = nI 3 from rfl, n_mul, n_add]
theorem vrc3 {B k : Nat} (h : k < 6) : fw_sd (vp_in ((5 : Int32) * nI k + 3) (fw_len B (B + 493))) := by rw [xrc3, ln_493]; exact vn_i (by omega) (by decide)
theorem rrc3 {B k : Nat} {M : fw_M} {S : Sx} (h : RW B M S) (hk : k < 6) : M.1 (B + 493) ((5 : Int32) * nI k + 3).toNatClampNeg = sC S k 3 := by rw [xrc3, n_cl (by omega)]; exact h.2.1 k 3 hk (by decide)
theorem wrc3 {B k : Nat} {M : fw_M} {S : Sx} {v v' : Int32} (h : RW B M S) (hk : k < 6) (e : v = v') : RW B (fw_st M (B + 493) ((5 : Int32) * nI k + 3).toNatClampNeg v) (uC S k 3 v') := by subst e; rw [xrc3, n_cl (by omega)]; exact RW_c h hk (by decide)
theorem xrc4 {k : Nat} : (5 : Int32) * nI k + 4 = nI (5 * k + 4) := by rw [show (5 : Int32) = nI 5 from rfl, show (4 : Int32) = nI 4 from rfl, n_mul, n_add]
theorem vrc4 {B k : Nat} (h : k < 6) : fw_sd (vp_in ((5 : Int32) * nI k + 4) (fw_len B (B + 493))) := by rw [xrc4, ln_493]; exact vn_i (by omega) (by decide)
theorem rrc4 {B k : Nat} {M : fw_M} {S : Sx} (h : RW B M S) (hk : k < 6) : M.1 (B + 493) ((5 : Int32) * nI k + 4).toNatClampNeg = sC S k 4 := by rw [xrc4, n_cl (by omega)]; exact h.2.1 k 4 hk (by decide)
theorem wrc4 {B k : Nat} {M : fw_M} {S : Sx} {v v' : Int32} (h : RW B M S) (hk : k < 6) (e : v = v') : RW B (fw_st M (B + 493) ((5 : Int32) * nI k + 4).toNatClampNeg v) (uC S k 4 v') := by subst e; rw [xrc4, n_cl (by omega)]; exact RW_c h hk (by decide)
theorem xrp {m : Nat} : (8 : Int32) * nI m = nI (8 * m + 0) := by rw [show (8 : Int32) = nI 8 from rfl, n_mul]; rfl
theorem vrp {B m : Nat} (h : m < 8) : fw_sd (vp_in ((8 : Int32) * nI m) (fw_len B (B + 494))) := by rw [xrp, ln_494]; exact vn_i (by omega) (by decide)
theorem rrp {B m : Nat} {M : fw_M} {S : Sx} (h : RW B M S) (hm : m < 8) : M.1 (B + 494) ((8 : Int32) * nI m).toNatClampNeg = sP S m 0 := by rw [xrp, n_cl (by omega)]; exact h.2.2.1 m 0 hm (by decide)
theorem wrp {B m : Nat} {M : fw_M} {S : Sx} {v v' : Int32} (h : RW B M S) (hm : m < 8) (e : v = v') : RW B (fw_st M (B + 494) ((8 : Int32) * nI m).toNatClampNeg v) (uP S m 0 v') := by subst e; rw [xrp, n_cl (by omega)]; exact RW_p h hm (by decide)
theorem xrp0 {m : Nat} : (8 : Int32) * nI m + 0 = nI (8 * m + 0) := by rw [show (8 : Int32) = nI 8 from rfl, show (0 : Int32) = nI 0 from rfl, n_mul, n_add]
theorem vrp0 {B m : Nat} (h : m < 8) : fw_sd (vp_in ((8 : Int32) * nI m + 0) (fw_len B (B + 494))) := by rw [xrp0, ln_494]; exact vn_i (by omega) (by decide)
theorem rrp0 {B m : Nat} {M : fw_M} {S : Sx} (h : RW B M S) (hm : m < 8) : M.1 (B + 494) ((8 : Int32) * nI m + 0).toNatClampNeg = sP S m 0 := by rw [xrp0, n_cl (by omega)]; exact h.2.2.1 m 0 hm (by decide)
theorem wrp0 {B m : Nat} {M : fw_M} {S : Sx} {v v' : Int32} (h : RW B M S) (hm : m < 8) (e : v = v') : RW B (fw_st M (B + 494) ((8 : Int32) * nI m + 0).toNatClampNeg v) (uP S m 0 v') := by subst e; rw [xrp0, n_cl (by omega)]; exact RW_p h hm (by decide)
theorem xrp1 {m : Nat} : (8 : Int32) * nI m + 1 = nI (8 * m + 1) := by rw [show (8 : Int32) = nI 8 from rfl, show (1 : Int32) = nI 1 from rfl, n_mul, n_add]
theorem vrp1 {B m : Nat} (h : m < 8) : fw_sd (vp_in ((8 : Int32) * nI m + 1) (fw_len B (B + 494))) := by rw [xrp1, ln_494]; exact vn_i (by omega) (by decide)
theorem rrp1 {B m : Nat} {M : fw_M} {S : Sx} (h : RW B M S) (hm : m < 8) : M.1 (B + 494) ((8 : Int32) * nI m + 1).toNatClampNeg = sP S m 1 := by rw [xrp1, n_cl (by omega)]; exact h.2.2.1 m 1 hm (by decide)
theorem wrp1 {B m : Nat} {M : fw_M} {S : Sx} {v v' : Int32} (h : RW B M S) (hm : m < 8) (e : v = v') : RW B (fw_st M (B + 494) ((8 : Int32) * nI m + 1).toNatClampNeg v) (uP S m 1 v') := by subst e; rw [xrp1, n_cl (by omega)]; exact RW_p h hm (by decide)
theorem xrp2 {m : Nat} : (8 : Int32) * nI m + 2 = nI (8 * m + 2) := by rw [show (8 : Int32) = nI 8 from rfl, show (2 : Int32) = nI 2 from rfl, n_mul, n_add]
theorem vrp2 {B m : Nat} (h : m < 8) : fw_sd (vp_in ((8 : Int32) * nI m + 2) (fw_len B (B + 494))) := by rw [xrp2, ln_494]; exact vn_i (by omega) (by decide)
theorem rrp2 {B m : Nat} {M : fw_M} {S : Sx} (h : RW B M S) (hm : m < 8) : M.1 (B + 494) ((8 : Int32) * nI m + 2).toNatClampNeg = sP S m 2 := by rw [xrp2, n_cl (by omega)]; exact h.2.2.1 m 2 hm (by decide)
theorem wrp2 {B m : Nat} {M : fw_M} {S : Sx} {v v' : Int32} (h : RW B M S) (hm : m < 8) (e : v = v') : RW B (fw_st M (B + 494) ((8 : Int32) * nI m + 2).toNatClampNeg v) (uP S m 2 v') := by subst e; rw [xrp2, n_cl (by omega)]; exact RW_p h hm (by decide)
theorem xrp3 {m : Nat} : (8 : Int32) * nI m + 3 = nI (8 * m + 3) := by rw [show (8 : Int32) = nI 8 from rfl, show (3 : Int32) = nI 3 from rfl, n_mul, n_add]
theorem vrp3 {B m : Nat} (h : m < 8) : fw_sd (vp_in ((8 : Int32) * nI m + 3) (fw_len B (B + 494))) := by rw [xrp3, ln_494]; exact vn_i (by omega) (by decide)
theorem rrp3 {B m : Nat} {M : fw_M} {S : Sx} (h : RW B M S) (hm : m < 8) : M.1 (B + 494) ((8 : Int32) * nI m + 3).toNatClampNeg = sP S m 3 := by rw [xrp3, n_cl (by omega)]; exact h.2.2.1 m 3 hm (by decide)
theorem wrp3 {B m : Nat} {M : fw_M} {S : Sx} {v v' : Int32} (h : RW B M S) (hm : m < 8) (e : v = v') : RW B (fw_st M (B + 494) ((8 : Int32) * nI m + 3).toNatClampNeg v) (uP S m 3 v') := by subst e; rw [xrp3, n_cl (by omega)]; exact RW_p h hm (by decide)
theorem xrp4 {m : Nat} : (8 : Int32) * nI m + 4 = nI (8 * m + 4) := by rw [show (8 : Int32) = nI 8 from rfl, show (4 : Int32) = nI 4 from rfl, n_mul, n_add]
theorem vrp4 {B m : Nat} (h : m < 8) : fw_sd (vp_in ((8 : Int32) * nI m + 4) (fw_len B (B + 494))) := by rw [xrp4, ln_494]; exact vn_i (by omega) (by decide)
theorem rrp4 {B m : Nat} {M : fw_M} {S : Sx} (h : RW B M S) (hm : m < 8) : M.1 (B + 494) ((8 : Int32) * nI m + 4).toNatClampNeg = sP S m 4 := by rw [xrp4, n_cl (by omega)]; exact h.2.2.1 m 4 hm (by decide)
theorem wrp4 {B m : Nat} {M : fw_M} {S : Sx} {v v' : Int32} (h : RW B M S) (hm : m < 8) (e : v = v') : RW B (fw_st M (B + 494) ((8 : Int32) * nI m + 4).toNatClampNeg v) (uP S m 4 v') := by subst e; rw [xrp4, n_cl (by omega)]; exact RW_p h hm (by decide)
theorem xrp5 {m : Nat} : (8 : Int32) * nI m + 5 = nI (8 * m + 5) := by rw [show (8 : Int32) = nI 8 from rfl, show (5 : Int32) = nI 5 from rfl, n_mul, n_add]
theorem vrp5 {B m : Nat} (h : m < 8) : fw_sd (vp_in ((8 : Int32) * nI m + 5) (fw_len B (B + 494))) := by rw [xrp5, ln_494]; exact vn_i (by omega) (by decide)
theorem rrp5 {B m : Nat} {M : fw_M} {S : Sx} (h : RW B M S) (hm : m < 8) : M.1 (B + 494) ((8 : Int32) * nI m + 5).toNatClampNeg = sP S m 5 := by rw [xrp5, n_cl (by omega)]; exact h.2.2.1 m 5 hm (by decide)
theorem wrp5 {B m : Nat} {M : fw_M} {S : Sx} {v v' : Int32} (h : RW B M S) (hm : m < 8) (e : v = v') : RW B (fw_st M (B + 494) ((8 : Int32) * nI m + 5).toNatClampNeg v) (uP S m 5 v') := by subst e; rw [xrp5, n_cl (by omega)]; exact RW_p h hm (by decide)
theorem xrp6 {m : Nat} : (8 : Int32) * nI m + 6 = nI (8 * m + 6) := by rw [show (8 : Int32) = nI 8 from rfl, show (6 : Int32) = nI 6 from rfl, n_mul, n_add]
theorem vrp6 {B m : Nat} (h : m < 8) : fw_sd (vp_in ((8 : Int32) * nI m + 6) (fw_len B (B + 494))) := by rw [xrp6, ln_494]; exact vn_i (by omega) (by decide)
theorem rrp6 {B m : Nat} {M : fw_M} {S : Sx} (h : RW B M S) (hm : m < 8) : M.1 (B + 494) ((8 : Int32) * nI m + 6).toNatClampNeg = sP S m 6 := by rw [xrp6, n_cl (by omega)]; exact h.2.2.1 m 6 hm (by decide)
theorem wrp6 {B m : Nat} {M : fw_M} {S : Sx} {v v' : Int32} (h : RW B M S) (hm : m < 8) (e : v = v') : RW B (fw_st M (B + 494) ((8 : Int32) * nI m + 6).toNatClampNeg v) (uP S m 6 v') := by subst e; rw [xrp6, n_cl (by omega)]; exact RW_p h hm (by decide)
theorem xrp7 {m : Nat} : (8 : Int32) * nI m + 7 = nI (8 * m + 7) := by rw [show (8 : Int32) = nI 8 from rfl, show (7 : Int32) = nI 7 from rfl, n_mul, n_add]
theorem vrp7 {B m : Nat} (h : m < 8) : fw_sd (vp_in ((8 : Int32) * nI m + 7) (fw_len B (B + 494))) := by rw [xrp7, ln_494]; exact vn_i (by omega) (by decide)
theorem rrp7 {B m : Nat} {M : fw_M} {S : Sx} (h : RW B M S) (hm : m < 8) : M.1 (B + 494) ((8 : Int32) * nI m + 7).toNatClampNeg = sP S m 7 := by rw [xrp7, n_cl (by omega)]; exact h.2.2.1 m 7 hm (by decide)
theorem wrp7 {B m : Nat} {M : fw_M} {S : Sx} {v v' : Int32} (h : RW B M S) (hm : m < 8) (e : v = v') : RW B (fw_st M (B + 494) ((8 : Int32) * nI m + 7).toNatClampNeg v) (uP S m 7 v') := by subst e; rw [xrp7, n_cl (by omega)]; exact RW_p h hm (by decide)
theorem xrcw {k w : Nat} : (5 : Int32) * nI k + nI w = nI (5 * k + w) := by rw [show (5 : Int32) = nI 5 from rfl, n_mul, n_add]
theorem vrcw {B k w : Nat} (h : k < 6) (hw : w < 5) : fw_sd (vp_in ((5 : Int32) * nI k + nI w) (fw_len B (B + 493))) := by rw [xrcw, ln_493]; exact vn_i (by omega) (by decide)
theorem rrcw {B k w : Nat} {M : fw_M} {S : Sx} (h : RW B M S) (hk : k < 6) (hw : w < 5) : M.1 (B + 493) ((5 : Int32) * nI k + nI w).toNatClampNeg = sC S k w := by rw [xrcw, n_cl (by omega)]; exact h.2.1 k w hk hw
theorem xrpw {m w : Nat} : (8 : Int32) * nI m + nI w = nI (8 * m + w) := by rw [show (8 : Int32) = nI 8 from rfl, n_mul, n_add]
theorem vrpw {B m w : Nat} (h : m < 8) (hw : w < 8) : fw_sd (vp_in ((8 : Int32) * nI m + nI w) (fw_len B (B + 494))) := by rw [xrpw, ln_494]; exact vn_i (by omega) (by decide)
theorem rrpw {B m w : Nat} {M : fw_M} {S : Sx} (h : RW B M S) (hm : m < 8) (hw : w < 8) : M.1 (B + 494) ((8 : Int32) * nI m + nI w).toNatClampNeg = sP S m w := by rw [xrpw, n_cl (by omega)]; exact h.2.2.1 m w hm hw
theorem xrl {m k : Nat} : (6 : Int32) * nI m + nI k = nI (6 * m + k) := by rw [show (6 : Int32) = nI 6 from rfl, n_mul, n_add]
theorem vrl {B m k : Nat} (h : m < 8) (hk : k < 6) : fw_sd (vp_in ((6 : Int32) * nI m + nI k) (fw_len B (B + 495))) := by rw [xrl, ln_495]; exact vn_i (by omega) (by decide)
theorem rrl {B m k : Nat} {M : fw_M} {S : Sx} (h : RW B M S) (hm : m < 8) (hk : k < 6) : M.1 (B + 495) ((6 : Int32) * nI m + nI k).toNatClampNeg = sP S m (8 + k) := by rw [xrl, n_cl (by omega)]; exact h.2.2.2.1 m k hm hk
theorem wrl {B m k : Nat} {M : fw_M} {S : Sx} {v v' : Int32} (h : RW B M S) (hm : m < 8) (hk : k < 6) (e : v = v') : RW B (fw_st M (B + 495) ((6 : Int32) * nI m + nI k).toNatClampNeg v) (uP S m (8 + k) v') := by subst e; rw [xrl, n_cl (by omega)]; exact RW_l h hm hk
theorem vrh {B m k : Nat} (h : m < 8) (hk : k < 6) : fw_sd (vp_in ((6 : Int32) * nI m + nI k) (fw_len B (B + 496))) := by rw [xrl, ln_496]; exact vn_i (by omega) (by decide)
theorem rrh {B m k : Nat} {M : fw_M} {S : Sx} (h : RW B M S) (hm : m < 8) (hk : k < 6) : M.1 (B + 496) ((6 : Int32) * nI m + nI k).toNatClampNeg = sP S m (14 + k) := by rw [xrl, n_cl (by omega)]; exact h.2.2.2.2 m k hm hk
theorem wrh {B m k : Nat} {M : fw_M} {S : Sx} {v v' : Int32} (h : RW B M S) (hm : m < 8) (hk : k < 6) (e : v = v') : RW B (fw_st M (B + 496) ((6 : Int32) * nI m + nI k).toNatClampNeg v) (uP S m (14 + k) v') := by subst e; rw [xrl, n_cl (by omega)]; exact RW_h h hm hk
theorem vrpe {B m : Nat} {x : Int32} (e : x = nI m) (h : m < 8) : fw_sd (vp_in ((8 : Int32) * x) (fw_len B (B + 494))) := by subst e; exact vrp h
theorem rrpe {B m : Nat} {x : Int32} {M : fw_M} {S : Sx} (e : x = nI m) (h : RW B M S) (hm : m < 8) : M.1 (B + 494) ((8 : Int32) * x).toNatClampNeg = sP S m 0 := by subst e; exact rrp h hm
theorem wrpe {B m : Nat} {x : Int32} {M : fw_M} {S : Sx} {v v' : Int32} (e0 : x = nI m) (h : RW B M S) (hm : m < 8) (e : v = v') : RW B (fw_st M (B + 494) ((8 : Int32) * x).toNatClampNeg v) (uP S m 0 v') := by subst e0; exact wrp h hm e
theorem vrp0e {B m : Nat} {x : Int32} (e : x = nI m) (h : m < 8) : fw_sd (vp_in ((8 : Int32) * x + 0) (fw_len B (B + 494))) := by subst e; exact vrp0 h
theorem rrp0e {B m : Nat} {x : Int32} {M : fw_M} {S : Sx} (e : x = nI m) (h : RW B M S) (hm : m < 8) : M.1 (B + 494) ((8 : Int32) * x + 0).toNatClampNeg = sP S m 0 := by subst e; exact rrp0 h hm
theorem wrp0e {B m : Nat} {x : Int32} {M : fw_M} {S : Sx} {v v' : Int32} (e0 : x = nI m) (h : RW B M S) (hm : m < 8) (e : v = v') : RW B (fw_st M (B + 494) ((8 : Int32) * x + 0).toNatClampNeg v) (uP S m 0 v') := by subst e0; exact wrp0 h hm e
theorem vrp1e {B m : Nat} {x : Int32} (e : x = nI m) (h : m < 8) : fw_sd (vp_in ((8 : Int32) * x + 1) (fw_len B (B + 494))) := by subst e; exact vrp1 h
theorem rrp1e {B m : Nat} {x : Int32} {M : fw_M} {S : Sx} (e : x = nI m) (h : RW B M S) (hm : m < 8) : M.1 (B + 494) ((8 : Int32) * x + 1).toNatClampNeg = sP S m 1 := by subst e; exact rrp1 h hm
theorem wrp1e {B m : Nat} {x : Int32} {M : fw_M} {S : Sx} {v v' : Int32} (e0 : x = nI m) (h : RW B M S) (hm : m < 8) (e : v = v') : RW B (fw_st M (B + 494) ((8 : Int32) * x + 1).toNatClampNeg v) (uP S m 1 v') := by subst e0; exact wrp1 h hm e
theorem vrp2e {B m : Nat} {x : Int32} (e : x = nI m) (h : m < 8) : fw_sd (vp_in ((8 : Int32) * x + 2) (fw_len B (B + 494))) := by subst e; exact vrp2 h
theorem rrp2e {B m : Nat} {x : Int32} {M : fw_M} {S : Sx} (e : x = nI m) (h : RW B M S) (hm : m < 8) : M.1 (B + 494) ((8 : Int32) * x + 2).toNatClampNeg = sP S m 2 := by subst e; exact rrp2 h hm
theorem wrp2e {B m : Nat} {x : Int32} {M : fw_M} {S : Sx} {v v' : Int32} (e0 : x = nI m) (h : RW B M S) (hm : m < 8) (e : v = v') : RW B (fw_st M (B + 494) ((8 : Int32) * x + 2).toNatClampNeg v) (uP S m 2 v') := by subst e0; exact wrp2 h hm e
theorem vrp3e {B m : Nat} {x : Int32} (e : x = nI m) (h : m < 8) : fw_sd (vp_in ((8 : Int32) * x + 3) (fw_len B (B + 494))) := by subst e; exact vrp3 h
theorem rrp3e {B m : Nat} {x : Int32} {M : fw_M} {S : Sx} (e : x = nI m) (h : RW B M S) (hm : m < 8) : M.1 (B + 494) ((8 : Int32) * x + 3).toNatClampNeg = sP S m 3 := by subst e; exact rrp3 h hm
theorem wrp3e {B m : Nat} {x : Int32} {M : fw_M} {S : Sx} {v v' : Int32} (e0 : x = nI m) (h : RW B M S) (hm : m < 8) (e : v = v') : RW B (fw_st M (B + 494) ((8 : Int32) * x + 3).toNatClampNeg v) (uP S m 3 v') := by subst e0; exact wrp3 h hm e
theorem vrp4e {B m : Nat} {x : Int32} (e : x = nI m) (h : m < 8) : fw_sd (vp_in ((8 : Int32) * x + 4) (fw_len B (B + 494))) := by subst e; exact vrp4 h
theorem rrp4e {B m : Nat} {x : Int32} {M : fw_M} {S : Sx} (e : x = nI m) (h : RW B M S) (hm : m < 8) : M.1 (B + 494) ((8 : Int32) * x + 4).toNatClampNeg = sP S m 4 := by subst e; exact rrp4 h hm
theorem wrp4e {B m : Nat} {x : Int32} {M : fw_M} {S : Sx} {v v' : Int32} (e0 : x = nI m) (h : RW B M S) (hm : m < 8) (e : v = v') : RW B (fw_st M (B + 494) ((8 : Int32) * x + 4).toNatClampNeg v) (uP S m 4 v') := by subst e0; exact wrp4 h hm e
theorem vrp5e {B m : Nat} {x : Int32} (e : x = nI m) (h : m < 8) : fw_sd (vp_in ((8 : Int32) * x + 5) (fw_len B (B + 494))) := by subst e; exact vrp5 h
theorem rrp5e {B m : Nat} {x : Int32} {M : fw_M} {S : Sx} (e : x = nI m) (h : RW B M S) (hm : m < 8) : M.1 (B + 494) ((8 : Int32) * x + 5).toNatClampNeg = sP S m 5 := by subst e; exact rrp5 h hm
theorem wrp5e {B m : Nat} {x : Int32} {M : fw_M} {S : Sx} {v v' : Int32} (e0 : x = nI m) (h : RW B M S) (hm : m < 8) (e : v = v') : RW B (fw_st M (B + 494) ((8 : Int32) * x + 5).toNatClampNeg v) (uP S m 5 v') := by subst e0; exact wrp5 h hm e
theorem vrp6e {B m : Nat} {x : Int32} (e : x = nI m) (h : m < 8) : fw_sd (vp_in ((8 : Int32) * x + 6) (fw_len B (B + 494))) := by subst e; exact vrp6 h
theorem rrp6e {B m : Nat} {x : Int32} {M : fw_M} {S : Sx} (e : x = nI m) (h : RW B M S) (hm : m < 8) : M.1 (B + 494) ((8 : Int32) * x + 6).toNatClampNeg = sP S m 6 := by subst e; exact rrp6 h hm
theorem wrp6e {B m : Nat} {x : Int32} {M : fw_M} {S : Sx} {v v' : Int32} (e0 : x = nI m) (h : RW B M S) (hm : m < 8) (e : v = v') : RW B (fw_st M (B + 494) ((8 : Int32) * x + 6).toNatClampNeg v) (uP S m 6 v') := by subst e0; exact wrp6 h hm e
theorem vrp7e {B m : Nat} {x : Int32} (e : x = nI m) (h : m < 8) : fw_sd (vp_in ((8 : Int32) * x + 7) (fw_len B (B + 494))) := by subst e; exact vrp7 h
theorem rrp7e {B m : Nat} {x : Int32} {M : fw_M} {S : Sx} (e : x = nI m) (h : RW B M S) (hm : m < 8) : M.1 (B + 494) ((8 : Int32) * x + 7).toNatClampNeg = sP S m 7 := by subst e; exact rrp7 h hm
theorem wrp7e {B m : Nat} {x : Int32} {M : fw_M} {S : Sx} {v v' : Int32} (e0 : x = nI m) (h : RW B M S) (hm : m < 8) (e : v = v') : RW B (fw_st M (B + 494) ((8 : Int32) * x + 7).toNatClampNeg v) (uP S m 7 v') := by subst e0; exact wrp7 h hm e
theorem vrle {B m k : Nat} {x : Int32} (e : x = nI m) (h : m < 8) (hk : k < 6) : fw_sd (vp_in ((6 : Int32) * x + nI k) (fw_len B (B + 495))) := by subst e; exact vrl h hk
theorem rrle {B m k : Nat} {x : Int32} {M : fw_M} {S : Sx} (e : x = nI m) (h : RW B M S) (hm : m < 8) (hk : k < 6) : M.1 (B + 495) ((6 : Int32) * x + nI k).toNatClampNeg = sP S m (8 + k) := by subst e; exact rrl h hm hk
theorem wrle {B m k : Nat} {x : Int32} {M : fw_M} {S : Sx} {v v' : Int32} (e0 : x = nI m) (h : RW B M S) (hm : m < 8) (hk : k < 6) (e : v = v') : RW B (fw_st M (B + 495) ((6 : Int32) * x + nI k).toNatClampNeg v) (uP S m (8 + k) v') := by subst e0; exact wrl h hm hk e
theorem vrhe {B m k : Nat} {x : Int32} (e : x = nI m) (h : m < 8) (hk : k < 6) : fw_sd (vp_in ((6 : Int32) * x + nI k) (fw_len B (B + 496))) := by subst e; exact vrh h hk
theorem rrhe {B m k : Nat} {x : Int32} {M : fw_M} {S : Sx} (e : x = nI m) (h : RW B M S) (hm : m < 8) (hk : k < 6) : M.1 (B + 496) ((6 : Int32) * x + nI k).toNatClampNeg = sP S m (14 + k) := by subst e; exact rrh h hm hk
theorem wrhe {B m k : Nat} {x : Int32} {M : fw_M} {S : Sx} {v v' : Int32} (e0 : x = nI m) (h : RW B M S) (hm : m < 8) (hk : k < 6) (e : v = v') : RW B (fw_st M (B + 496) ((6 : Int32) * x + nI k).toNatClampNeg v) (uP S m (14 + k) v') := by subst e0; exact wrh h hm hk e
theorem arg0 {B : Nat} {M : fw_M} {S : Sx} {x : Int32} (h : RW B M S) : RW B (fw_st M (B + 492) (0 : Int32).toNatClampNeg (M.1 (B + 492) (0 : Int32).toNatClampNeg + x)) (upd S 0 (S 0 + x)) := wrg0 h (by rw [rrg0 h])
theorem arg1 {B : Nat} {M : fw_M} {S : Sx} {x : Int32} (h : RW B M S) : RW B (fw_st M (B + 492) (1 : Int32).toNatClampNeg (M.1 (B + 492) (1 : Int32).toNatClampNeg + x)) (upd S 1 (S 1 + x)) := wrg1 h (by rw [rrg1 h])
theorem arg2 {B : Nat} {M : fw_M} {S : Sx} {x : Int32} (h : RW B M S) : RW B (fw_st M (B + 492) (2 : Int32).toNatClampNeg (M.1 (B + 492) (2 : Int32).toNatClampNeg + x)) (upd S 2 (S 2 + x)) := wrg2 h (by rw [rrg2 h])
theorem arg3 {B : Nat} {M : fw_M} {S : Sx} {x : Int32} (h : RW B M S) : RW B (fw_st M (B + 492) (3 : Int32).toNatClampNeg (M.1 (B + 492) (3 : Int32).toNatClampNeg + x)) (upd S 3 (S 3 + x)) := wrg3 h (by rw [rrg3 h])
theorem arg4 {B : Nat} {M : fw_M} {S : Sx} {x : Int32} (h : RW B M S) : RW B (fw_st M (B + 492) (4 : Int32).toNatClampNeg (M.1 (B + 492) (4 : Int32).toNatClampNeg + x)) (upd S 4 (S 4 + x)) := wrg4 h (by rw [rrg4 h])
theorem arg5 {B : Nat} {M : fw_M} {S : Sx} {x : Int32} (h : RW B M S) : RW B (fw_st M (B + 492) (5 : Int32).toNatClampNeg (M.1 (B + 492) (5 : Int32).toNatClampNeg + x)) (upd S 5 (S 5 + x)) := wrg5 h (by rw [rrg5 h])
theorem arg6 {B : Nat} {M : fw_M} {S : Sx} {x : Int32} (h : RW B M S) : RW B (fw_st M (B + 492) (6 : Int32).toNatClampNeg (M.1 (B + 492) (6 : Int32).toNatClampNeg + x)) (upd S 6 (S 6 + x)) := wrg6 h (by rw [rrg6 h])
theorem arle {B m k : Nat} {x y : Int32} {M : fw_M} {S : Sx} (e : x = nI m) (h : RW B M S) (hm : m < 8) (hk : k < 6) : RW B (fw_st M (B + 495) ((6 : Int32) * x + nI k).toNatClampNeg (M.1 (B + 495) ((6 : Int32) * x + nI k).toNatClampNeg + y)) (uP S m (8 + k) (sP S m (8 + k) + y)) := wrle e h hm hk (by rw [rrle e h hm hk])
theorem vrce {B k : Nat} {x : Int32} (e : x = nI k) (h : k < 6) : fw_sd (vp_in ((5 : Int32) * x) (fw_len B (B + 493))) := by subst e; exact vrc h
theorem wrce {B k : Nat} {x : Int32} {M : fw_M} {S : Sx} {v v' : Int32} (e0 : x = nI k) (h : RW B M S) (hk : k < 6) (e : v = v') : RW B (fw_st M (B + 493) ((5 : Int32) * x).toNatClampNeg v) (uC S k 0 v') := by subst e0; exact wrc h hk e
theorem vrc0e {B k : Nat} {x : Int32} (e : x = nI k) (h : k < 6) : fw_sd (vp_in ((5 : Int32) * x + 0) (fw_len B (B + 493))) := by subst e; exact vrc0 h
theorem wrc0e {B k : Nat} {x : Int32} {M : fw_M} {S : Sx} {v v' : Int32} (e0 : x = nI k) (h : RW B M S) (hk : k < 6) (e : v = v') : RW B (fw_st M (B + 493) ((5 : Int32) * x + 0).toNatClampNeg v) (uC S k 0 v') := by subst e0; exact wrc0 h hk e
theorem vrc1e {B k : Nat} {x : Int32} (e : x = nI k) (h : k < 6) : fw_sd (vp_in ((5 : Int32) * x + 1) (fw_len B (B + 493))) := by subst e; exact vrc1 h
theorem wrc1e {B k : Nat} {x : Int32} {M : fw_M} {S : Sx} {v v' : Int32} (e0 : x = nI k) (h : RW B M S) (hk : k < 6) (e : v = v') : RW B (fw_st M (B + 493) ((5 : Int32) * x + 1).toNatClampNeg v) (uC S k 1 v') := by subst e0; exact wrc1 h hk e
theorem vrc2e {B k : Nat} {x : Int32} (e : x = nI k) (h : k < 6) : fw_sd (vp_in ((5 : Int32) * x + 2) (fw_len B (B + 493))) := by subst e; exact vrc2 h
theorem wrc2e {B k : Nat} {x : Int32} {M : fw_M} {S : Sx} {v v' : Int32} (e0 : x = nI k) (h : RW B M S) (hk : k < 6) (e : v = v') : RW B (fw_st M (B + 493) ((5 : Int32) * x + 2).toNatClampNeg v) (uC S k 2 v') := by subst e0; exact wrc2 h hk e
theorem vrc3e {B k : Nat} {x : Int32} (e : x = nI k) (h : k < 6) : fw_sd (vp_in ((5 : Int32) * x + 3) (fw_len B (B + 493))) := by subst e; exact vrc3 h
theorem wrc3e {B k : Nat} {x : Int32} {M : fw_M} {S : Sx} {v v' : Int32} (e0 : x = nI k) (h : RW B M S) (hk : k < 6) (e : v = v') : RW B (fw_st M (B + 493) ((5 : Int32) * x + 3).toNatClampNeg v) (uC S k 3 v') := by subst e0; exact wrc3 h hk e
theorem vrc4e {B k : Nat} {x : Int32} (e : x = nI k) (h : k < 6) : fw_sd (vp_in ((5 : Int32) * x + 4) (fw_len B (B + 493))) := by subst e; exact vrc4 h
theorem wrc4e {B k : Nat} {x : Int32} {M : fw_M} {S : Sx} {v v' : Int32} (e0 : x = nI k) (h : RW B M S) (hk : k < 6) (e : v = v') : RW B (fw_st M (B + 493) ((5 : Int32) * x + 4).toNatClampNeg v) (uC S k 4 v') := by subst e0; exact wrc4 h hk e
end LR

/-! THE CLASS: where an exchange lies, and how it holds a state -/
section CL
def EX (B x : Nat) : Prop := ∃ o, o ∈ [1, 82, 165, 246, 327, 408] ∧ x = B + o
theorem EX_kd {B x r k : Nat} (h : EX B x) (hr : ∀ o, o ∈ [1, 82, 165, 246, 327, 408] → fw_ko (o + r) = k) : fw_kd B (x + r) = k := by
  obtain ⟨o, ho, rfl⟩ := h
  rw [Nat.add_assoc]
  exact kd_at (hr o ho)
theorem tC : ∀ c, c < 6 → ∀ o, o ∈ [1, 82, 165, 246, 327, 408] → fw_ko (o + (3 + c)) = 0 := by decide
theorem tP : ∀ p, p < 24 → ∀ o, o ∈ [1, 82, 165, 246, 327, 408] → fw_ko (o + (9 + 3 * p)) = 3 := by decide
theorem tL : ∀ p, p < 24 → ∀ o, o ∈ [1, 82, 165, 246, 327, 408] → fw_ko (o + (9 + 3 * p + 1)) = 7 := by decide
theorem tS : ∀ p, p < 24 → ∀ o, o ∈ [1, 82, 165, 246, 327, 408] → fw_ko (o + (9 + 3 * p + 2)) = 7 := by decide
theorem kX {B x : Nat} (h : EX B x) : fw_kd B x = 1 := EX_kd (r := 0) h (by decide)
theorem kXc {B x : Nat} (h : EX B x) : fw_kd B (x + 1) = 8 := EX_kd h (by decide)
theorem kXp {B x : Nat} (h : EX B x) : fw_kd B (x + 2) = 10 := EX_kd h (by decide)
theorem kC {B x c : Nat} (h : EX B x) (hc : c < 6) : fw_kd B (x + 3 + c) = 0 := by rw [Nat.add_assoc]; exact EX_kd h (tC c hc)
theorem kP {B x p : Nat} (h : EX B x) (hp : p < 24) : fw_kd B (x + 9 + 3 * p) = 3 := by rw [Nat.add_assoc]; exact EX_kd h (tP p hp)
theorem kL {B x p : Nat} (h : EX B x) (hp : p < 24) : fw_kd B (x + 9 + 3 * p + 1) = 7 := by
  rw [show x + 9 + 3 * p + 1 = x + (9 + 3 * p + 1) by omega]; exact EX_kd h (tL p hp)
theorem kS {B x p : Nat} (h : EX B x) (hp : p < 24) : fw_kd B (x + 9 + 3 * p + 2) = 7 := by
  rw [show x + 9 + 3 * p + 2 = x + (9 + 3 * p + 2) by omega]; exact EX_kd h (tS p hp)
theorem EX_len {B x r : Nat} (h : EX B x) (hr : r < 81) : fw_len B (x + r) = 6 := by
  obtain ⟨o, ho, rfl⟩ := h
  have : o ≤ 408 := by
    simp only [List.mem_cons, List.not_mem_nil, or_false] at ho
    omega
  unfold fw_len fw_lo
  rw [if_pos (by omega)]
theorem lL {B x p : Nat} (h : EX B x) (hp : p < 24) : fw_len B (x + 9 + 3 * p + 1) = 6 := by
  rw [show x + 9 + 3 * p + 1 = x + (9 + 3 * p + 1) by omega]; exact EX_len h (by omega)
theorem lS {B x p : Nat} (h : EX B x) (hp : p < 24) : fw_len B (x + 9 + 3 * p + 2) = 6 := by
  rw [show x + 9 + 3 * p + 2 = x + (9 + 3 * p + 2) by omega]; exact EX_len h (by omega)
/-- a parcel and its rows -/
def PK (B a : Nat) : Prop := fw_kd B a = 3 ∧ fw_kd B (a + 1) = 7 ∧ fw_kd B (a + 2) = 7 ∧ fw_len B (a + 1) = 6 ∧ fw_len B (a + 2) = 6
theorem PK_of {B x p : Nat} (h : EX B x) (hp : p < 24) : PK B (x + 9 + 3 * p) := ⟨kP h hp, kL h hp, kS h hp, lL h hp, lS h hp⟩
/-! the places -/
def lo1 (x j : Nat) : Nat := if j < 7 then x else if j < 37 then x + 3 + (j - 7) / 5 else x + 9 + 3 * ((j - 37) / 20) + (if (j - 37) % 20 < 8 then 0 else if (j - 37) % 20 < 14 then 1 else 2)
def lo2 (j : Nat) : Nat := if j < 4 then j else if j = 4 then 5 else if j = 5 then 6 else if j = 6 then 4 else if j < 37 then (j - 7) % 5 else if (j - 37) % 20 < 8 then (j - 37) % 20 else if (j - 37) % 20 < 14 then (j - 37) % 20 - 8 else (j - 37) % 20 - 14
theorem lo_inj {x i j : Nat} (hi : i < 517) (hj : j < 517) (h1 : lo1 x i = lo1 x j) (h2 : lo2 i = lo2 j) : i = j := by
  unfold lo1 at h1
  unfold lo2 at h2
  by_cases a : i < 7
  · rw [if_pos a] at h1
    by_cases b : j < 7
    · rcases (show i = 0 ∨ i = 1 ∨ i = 2 ∨ i = 3 ∨ i = 4 ∨ i = 5 ∨ i = 6 by omega) with y | y | y | y | y | y | y <;> subst y <;>
      rcases (show j = 0 ∨ j = 1 ∨ j = 2 ∨ j = 3 ∨ j = 4 ∨ j = 5 ∨ j = 6 by omega) with z | z | z | z | z | z | z <;> subst z <;> simp at h2 ⊢
    · rw [if_neg b] at h1
      split at h1 <;> omega
  · rw [if_neg a] at h1
    by_cases b : j < 7
    · rw [if_pos b] at h1
      split at h1 <;> omega
    · rw [if_neg b] at h1
      rw [if_neg (by omega), if_neg (by omega), if_neg (by omega), if_neg (by omega), if_neg (by omega : ¬ j < 4), if_neg (by omega : ¬ j = 4), if_neg (by omega : ¬ j = 5), if_neg (by omega : ¬ j = 6)] at h2
      by_cases c : i < 37
      · rw [if_pos c] at h1 h2
        by_cases d : j < 37
        · rw [if_pos d] at h1 h2; omega
        · rw [if_neg d] at h1; omega
      · rw [if_neg c] at h1 h2
        by_cases d : j < 37
        · rw [if_pos d] at h1; omega
        · rw [if_neg d] at h1 h2
          by_cases e1 : (i - 37) % 20 < 8
          · rw [if_pos e1] at h1 h2
            by_cases f1 : (j - 37) % 20 < 8
            · rw [if_pos f1] at h1 h2; omega
            · rw [if_neg f1] at h1 h2
              by_cases f2 : (j - 37) % 20 < 14
              · rw [if_pos f2] at h1 h2; omega
              · rw [if_neg f2] at h1 h2; omega
          · rw [if_neg e1] at h1 h2
            by_cases e2 : (i - 37) % 20 < 14
            · rw [if_pos e2] at h1 h2
              by_cases f1 : (j - 37) % 20 < 8
              · rw [if_pos f1] at h1 h2; omega
              · rw [if_neg f1] at h1 h2
                by_cases f2 : (j - 37) % 20 < 14
                · rw [if_pos f2] at h1 h2; omega
                · rw [if_neg f2] at h1 h2; omega
            · rw [if_neg e2] at h1 h2
              by_cases f1 : (j - 37) % 20 < 8
              · rw [if_pos f1] at h1 h2; omega
              · rw [if_neg f1] at h1 h2
                by_cases f2 : (j - 37) % 20 < 14
                · rw [if_pos f2] at h1 h2; omega
                · rw [if_neg f2] at h1 h2; omega
theorem lo_C {x c w : Nat} (hc : c < 6) (hw : w < 5) : lo1 x (7 + 5 * c + w) = x + 3 + c ∧ lo2 (7 + 5 * c + w) = w := by
  unfold lo1 lo2
  rw [if_neg (by omega), if_pos (by omega), if_neg (by omega), if_neg (by omega), if_neg (by omega), if_neg (by omega), if_pos (by omega)]
  omega
theorem lo_P {x p w : Nat} (hw : w < 8) : lo1 x (37 + 20 * p + w) = x + 9 + 3 * p ∧ lo2 (37 + 20 * p + w) = w := by
  unfold lo1 lo2
  rw [if_neg (by omega), if_neg (by omega), if_pos (by omega), if_neg (by omega), if_neg (by omega), if_neg (by omega), if_neg (by omega), if_neg (by omega), if_pos (by omega)]
  omega
theorem lo_L {x p c : Nat} (hc : c < 6) : lo1 x (37 + 20 * p + (8 + c)) = x + 9 + 3 * p + 1 ∧ lo2 (37 + 20 * p + (8 + c)) = c := by
  unfold lo1 lo2
  rw [if_neg (by omega), if_neg (by omega), if_neg (by omega), if_pos (by omega), if_neg (by omega), if_neg (by omega), if_neg (by omega), if_neg (by omega), if_neg (by omega), if_neg (by omega), if_pos (by omega)]
  omega
theorem lo_S {x p c : Nat} (hc : c < 6) : lo1 x (37 + 20 * p + (14 + c)) = x + 9 + 3 * p + 2 ∧ lo2 (37 + 20 * p + (14 + c)) = c := by
  unfold lo1 lo2
  rw [if_neg (by omega), if_neg (by omega), if_neg (by omega), if_neg (by omega), if_neg (by omega), if_neg (by omega), if_neg (by omega), if_neg (by omega), if_neg (by omega), if_neg (by omega), if_neg (by omega)]
  omega
/-- the exchange at x holds S: all that is in use -/
def Rep (V : Nat → Nat → Int32) (x : Nat) (S : Sx) : Prop := cn S ≤ 6 ∧ pn S ≤ 24 ∧ ∀ j, (j < 7 + 5 * cn S ∨ (37 ≤ j ∧ j < 37 + 20 * pn S)) → V (lo1 x j) (lo2 j) = S j
theorem Rep_up {V : Nat → Nat → Int32} {x i : Nat} {S : Sx} {v : Int32} (h : Rep V x S) (hi : i < 517) (h2 : i ≠ 2) (h3 : i ≠ 3) : Rep (fw_up V (lo1 x i) (lo2 i) v) x (upd S i v) := by
  obtain ⟨hn, hm, h⟩ := h
  have en : cn (upd S i v) = cn S := cn_eq (upd_n (by omega))
  have em : pn (upd S i v) = pn S := pn_eq (upd_n (by omega))
  refine ⟨by rw [en]; exact hn, by rw [em]; exact hm, fun j hj => ?_⟩
  rw [en, em] at hj
  by_cases e : j = i
  · subst e; rw [fw_up_same, upd_s, upd_s]
  · rw [upd_n e, ← h j hj]
    by_cases e1 : lo1 x j = lo1 x i
    · rw [e1, fw_up_same, upd_n (fun e2 => e (lo_inj (by omega) hi e1 e2))]
    · rw [fw_up_ne e1]
theorem Rep_C {V : Nat → Nat → Int32} {x c w : Nat} {S : Sx} {v : Int32} (h : Rep V x S) (hc : c < 6) (hw : w < 5) : Rep (fw_up V (x + 3 + c) w v) x (uC S c w v) := by
  have := Rep_up (i := 7 + 5 * c + w) (v := v) h (by omega) (by omega) (by omega)
  rw [(lo_C hc hw).1, (lo_C (x := x) hc hw).2] at this
  exact this
theorem Rep_P {V : Nat → Nat → Int32} {x p w : Nat} {S : Sx} {v : Int32} (h : Rep V x S) (hp : p < 24) (hw : w < 8) : Rep (fw_up V (x + 9 + 3 * p) w v) x (uP S p w v) := by
  have := Rep_up (i := 37 + 20 * p + w) (v := v) h (by omega) (by omega) (by omega)
  rw [(lo_P hw).1, (lo_P (x := x) hw).2] at this
  exact this
theorem Rep_L {V : Nat → Nat → Int32} {x p c : Nat} {S : Sx} {v : Int32} (h : Rep V x S) (hp : p < 24) (hc : c < 6) : Rep (fw_up V (x + 9 + 3 * p + 1) c v) x (uP S p (8 + c) v) := by
  have := Rep_up (i := 37 + 20 * p + (8 + c)) (v := v) h (by omega) (by omega) (by omega)
  rw [(lo_L hc).1, (lo_L (x := x) hc).2] at this
  exact this
theorem Rep_S {V : Nat → Nat → Int32} {x p c : Nat} {S : Sx} {v : Int32} (h : Rep V x S) (hp : p < 24) (hc : c < 6) : Rep (fw_up V (x + 9 + 3 * p + 2) c v) x (uP S p (14 + c) v) := by
  have := Rep_up (i := 37 + 20 * p + (14 + c)) (v := v) h (by omega) (by omega) (by omega)
  rw [(lo_S hc).1, (lo_S (x := x) hc).2] at this
  exact this
theorem Rep_0 {V : Nat → Nat → Int32} {x : Nat} {S : Sx} {v : Int32} (h : Rep V x S) : Rep (fw_up V x 0 v) x (upd S 0 v) := Rep_up (i := 0) h (by decide) (by decide) (by decide)
theorem Rep_1 {V : Nat → Nat → Int32} {x : Nat} {S : Sx} {v : Int32} (h : Rep V x S) : Rep (fw_up V x 1 v) x (upd S 1 v) := Rep_up (i := 1) h (by decide) (by decide) (by decide)
theorem Rep_4 {V : Nat → Nat → Int32} {x : Nat} {S : Sx} {v : Int32} (h : Rep V x S) : Rep (fw_up V x 4 v) x (upd S 6 v) := Rep_up (i := 6) h (by decide) (by decide) (by decide)
theorem Rep_5 {V : Nat → Nat → Int32} {x : Nat} {S : Sx} {v : Int32} (h : Rep V x S) : Rep (fw_up V x 5 v) x (upd S 4 v) := Rep_up (i := 4) h (by decide) (by decide) (by decide)
theorem Rep_6 {V : Nat → Nat → Int32} {x : Nat} {S : Sx} {v : Int32} (h : Rep V x S) : Rep (fw_up V x 6 v) x (upd S 5 v) := Rep_up (i := 5) h (by decide) (by decide) (by decide)
/-! reading -/
theorem rd {V : Nat → Nat → Int32} {x j : Nat} {S : Sx} (h : Rep V x S) (hj : j < 7) : V x (lo2 j) = S j := by
  have := h.2.2 j (Or.inl (by omega))
  unfold lo1 at this
  rw [if_pos hj] at this
  exact this
theorem r0 {V : Nat → Nat → Int32} {x : Nat} {S : Sx} (h : Rep V x S) : V x 0 = S 0 := rd (j := 0) h (by decide)
theorem r1 {V : Nat → Nat → Int32} {x : Nat} {S : Sx} (h : Rep V x S) : V x 1 = S 1 := rd (j := 1) h (by decide)
theorem r2 {V : Nat → Nat → Int32} {x : Nat} {S : Sx} (h : Rep V x S) : V x 2 = S 2 := rd (j := 2) h (by decide)
theorem r3 {V : Nat → Nat → Int32} {x : Nat} {S : Sx} (h : Rep V x S) : V x 3 = S 3 := rd (j := 3) h (by decide)
theorem r4 {V : Nat → Nat → Int32} {x : Nat} {S : Sx} (h : Rep V x S) : V x 4 = S 6 := rd (j := 6) h (by decide)
theorem r5 {V : Nat → Nat → Int32} {x : Nat} {S : Sx} (h : Rep V x S) : V x 5 = S 4 := rd (j := 4) h (by decide)
theorem r6 {V : Nat → Nat → Int32} {x : Nat} {S : Sx} (h : Rep V x S) : V x 6 = S 5 := rd (j := 5) h (by decide)
theorem rC {V : Nat → Nat → Int32} {x c w : Nat} {S : Sx} (h : Rep V x S) (hc : c < cn S) (hw : w < 5) : V (x + 3 + c) w = sC S c w := by
  have hn := h.1
  have := h.2.2 (7 + 5 * c + w) (Or.inl (by omega))
  rw [(lo_C (by omega) hw).1, (lo_C (x := x) (by omega) hw).2] at this
  exact this
theorem rP {V : Nat → Nat → Int32} {x p w : Nat} {S : Sx} (h : Rep V x S) (hp : p < pn S) (hw : w < 8) : V (x + 9 + 3 * p) w = sP S p w := by
  have := h.2.2 (37 + 20 * p + w) (Or.inr (by omega))
  rw [(lo_P hw).1, (lo_P (x := x) hw).2] at this
  exact this
theorem rL {V : Nat → Nat → Int32} {x p c : Nat} {S : Sx} (h : Rep V x S) (hp : p < pn S) (hc : c < 6) : V (x + 9 + 3 * p + 1) c = sP S p (8 + c) := by
  have := h.2.2 (37 + 20 * p + (8 + c)) (Or.inr (by omega))
  rw [(lo_L hc).1, (lo_L (x := x) hc).2] at this
  exact this
theorem rS {V : Nat → Nat → Int32} {x p c : Nat} {S : Sx} (h : Rep V x S) (hp : p < pn S) (hc : c < 6) : V (x + 9 + 3 * p + 2) c = sP S p (14 + c) := by
  have := h.2.2 (37 + 20 * p + (14 + c)) (Or.inr (by omega))
  rw [(lo_S hc).1, (lo_S (x := x) hc).2] at this
  exact this
theorem Rep_fr {V V' : Nat → Nat → Int32} {x : Nat} {S : Sx} (h : Rep V x S) (e : ∀ b, x ≤ b → b < x + 81 → V' b = V b) : Rep V' x S := by
  obtain ⟨hn, hm, h⟩ := h
  refine ⟨hn, hm, fun j hj => ?_⟩
  rw [e, h j hj]
  · unfold lo1; split <;> (try split) <;> omega
  · unfold lo1
    split
    · omega
    · split
      · omega
      · split
        · omega
        · split <;> omega
/-- nothing but the exchange at x has changed -/
def FX (x : Nat) (M M' : fw_M) : Prop := (∀ b, b < x ∨ x + 81 ≤ b → M'.1 b = M.1 b) ∧ M'.2 = M.2
theorem FX_id {x : Nat} {M : fw_M} : FX x M M := ⟨fun _ _ => rfl, rfl⟩
theorem FX_tr {x : Nat} {M M1 M2 : fw_M} (h1 : FX x M M1) (h2 : FX x M1 M2) : FX x M M2 := ⟨fun b hb => (h2.1 b hb).trans (h1.1 b hb), h2.2.trans h1.2⟩
theorem FX_st {x a k : Nat} {M : fw_M} {v : Int32} (h1 : x ≤ a) (h2 : a < x + 81) : FX x M (fw_st M a k v) := ⟨fun b hb => fw_up_ne (by omega), rfl⟩
theorem FX_row {x a : Nat} {M : fw_M} {f : Nat → Int32} (h1 : x ≤ a) (h2 : a < x + 81) : FX x M (fw_row M a f) := ⟨fun b hb => row_n (by omega), rfl⟩
end CL

/-! THE SHORTEST RELAY WALKED -/
section WRL
theorem rl_step {S : Sx} {s t n : Nat} {k : Int32} (hs : s < 16) (ht : t < 16) (hne : s ≠ t) : rlN S (nI t) (n + 1) (nI s) k = if mx S t (nI s) (cn S) = 0 then -1 else rlN S (nI t) n (pth t (mx S t (nI s) (cn S)) (nI s)) (k + 1) := by
  obtain ⟨z, hz, ez, dz⟩ := pth_ok ht _ s hs (mx_le (S := S) hs ht (cn S))
  have h1 : ¬ nI s = nI t := fun e => hne (by rw [nI_eq (by omega) (by omega)] at e; exact e)
  conv => lhs; unfold rlN
  rw [if_neg h1, rlB_mx hs ht]
  by_cases h : mx S t (nI s) (cn S) = 0
  · rw [if_pos h, if_pos]
    rw [h]; rfl
  · rw [if_neg h, if_neg]
    rw [ez, nI_eq (by omega) (by omega)]
    intro e
    subst e
    omega
theorem rl_end {S : Sx} {t n : Nat} {k : Int32} : rlN S (nI t) (n + 1) (nI t) k = k := by
  unfold rlN; rw [if_pos rfl]
/-- who carries m steps from s -/
def abl (S : Sx) (s t m : Nat) : Int32 := mk (fun c => cr S c t m (nI s)) (cn S)
theorem abl_mx {S : Sx} {s t m : Nat} (hn : cn S ≤ 6) (hs : s < 16) (ht : t < 16) (h1 : 1 ≤ m) (hm : m ≤ dN s t) : abl S s t m = 0 ↔ ¬ m ≤ mx S t (nI s) (cn S) := by
  have hd := dN_le hs ht
  unfold abl
  rw [mkb_0 hn, mx_ge]
  constructor
  · rintro h (e | ⟨c, hc, e⟩)
    · omega
    · have := (cr_fr (S := S) (c := c) ht 16 s m hs (by omega) hm).mpr e
      rw [h c hc] at this
      cases this
  · intro h c hc
    cases e : cr S c t m (nI s) with
    | false => rfl
    | true => exact absurd (Or.inr ⟨c, hc, (cr_fr ht 16 s m hs (by omega) hm).mp e⟩) h
theorem abl_1 {S : Sx} {z t : Nat} : crN S (nI z) (nxz (nI z) (nI t)) (cn S) = abl S z t 1 := by
  unfold abl
  rw [crN_mk]
  refine mk_cg _ (fun c hc => ?_)
  show _ = ((_ && _) && true)
  rw [Bool.and_true]
theorem abl_s {S : Sx} {s t m : Nat} (hn : cn S ≤ 6) : abl S s t m &&& crN S (pth t m (nI s)) (nxz (pth t m (nI s)) (nI t)) (cn S) = abl S s t (m + 1) := by
  unfold abl
  rw [crN_mk, mkb_and hn]
  refine mk_cg _ (fun c hc => ?_)
  show _ = cr S c t (m + 1) (nI s)
  rw [cr_s, pth_s]
/-- where the class stands: s the last change, m steps from it -/
def RS (S : Sx) (i t : Nat) (l z : Nat) (relay able : Int32) : Prop := z < 16 ∧ dN z t + l = dN i t ∧
  ((l = 0 ∧ z = i ∧ relay = 0 ∧ able = 0) ∨ ∃ s m n k, s < 16 ∧ 1 ≤ m ∧ m ≤ dN s t ∧ pth t m (nI s) = nI z ∧ dN z t + m = dN s t ∧ able = abl S s t m ∧ ¬ able = 0 ∧ relay = k + 1 ∧ dN s t ≤ n ∧ rlN S (nI t) (n + 1) (nI s) k = rlN S (nI t) 16 (nI i) 0)
theorem RS_end {S : Sx} {i t l : Nat} {relay able : Int32} (hn : cn S ≤ 6) (ht : t < 16) (h : RS S i t l t relay able) : relay = rlN S (nI t) 16 (nI i) 0 := by
  obtain ⟨hz, hd, h⟩ := h
  have d0 : dN t t = 0 := by unfold dN; omega
  rcases h with ⟨rfl, rfl, rfl, -⟩ | ⟨s, m, n, k, hs, m1, hm, -, dz, rfl, a0, rfl, hdn, e⟩
  · rw [rl_end]
  · rw [← e]
    have X := mt (abl_mx hn hs ht m1 hm).mpr a0
    have X := Decidable.not_not.mp X
    have Y := mx_le (S := S) hs ht (cn S)
    have eX : mx S t (nI s) (cn S) = m := by omega
    obtain ⟨z, hz', ez, dz'⟩ := pth_ok ht m s hs hm
    have : z = t := dN_0 hz' ht (by omega)
    subst this
    rw [rl_step hs ht (fun e => by subst e; omega), if_neg (by omega), eX, ez]
    obtain ⟨n', rfl⟩ : ∃ n', n = n' + 1 := ⟨n - 1, by omega⟩
    rw [rl_end]
/-- a step: nobody carries on; some still carry; a change -/
theorem RS_no {S : Sx} {i t l z : Nat} {relay able : Int32} (hn : cn S ≤ 6) (hi : i < 16) (ht : t < 16) (hzt : z ≠ t) (h : RS S i t l z relay able) (h0 : abl S z t 1 = 0) : (-1 : Int32) = rlN S (nI t) 16 (nI i) 0 := by
  obtain ⟨hz, hd, h⟩ := h
  have d1 : 1 ≤ dN z t := by
    rcases Nat.eq_zero_or_pos (dN z t) with e | e
    · exact absurd (dN_0 hz ht e) hzt
    · exact e
  have Xz := (abl_mx hn hz ht (Nat.le_refl 1) d1).mp h0
  rcases h with ⟨rfl, rfl, rfl, -⟩ | ⟨s, m, n, k, hs, m1, hm, ep, dz, rfl, a0, rfl, hdn, e⟩
  · rw [rl_step hz ht hzt, if_pos (by omega)]
  · rw [← e]
    have X := Decidable.not_not.mp (mt (abl_mx hn hs ht m1 hm).mpr a0)
    have Z : ¬ m + 1 ≤ mx S t (nI s) (cn S) := by
      refine (abl_mx hn hs ht (by omega) (by omega)).mp ?_
      rw [← abl_s (s := s) (m := m) hn, ep, abl_1, h0]
      exact Int32.and_zero
    have eX : mx S t (nI s) (cn S) = m := by omega
    rw [rl_step hs ht (fun e => by subst e; unfold dN at hm; omega), if_neg (by omega), eX, ep]
    obtain ⟨n', rfl⟩ : ∃ n', n = n' + 1 := ⟨n - 1, by omega⟩
    rw [rl_step hz ht hzt, if_pos (by omega)]
theorem RS_go {S : Sx} {i t l z y : Nat} {relay able : Int32} (hn : cn S ≤ 6) (hi : i < 16) (ht : t < 16) (hy : y < 16) (hzt : z ≠ t) (ey : nxz (nI z) (nI t) = nI y) (dy : dN y t + 1 = dN z t) (h : RS S i t l z relay able) (h0 : ¬ able &&& abl S z t 1 = 0) : RS S i t (l + 1) y relay (able &&& abl S z t 1) := by
  obtain ⟨hz, hd, h⟩ := h
  refine ⟨hy, by omega, Or.inr ?_⟩
  rcases h with ⟨rfl, rfl, rfl, rfl⟩ | ⟨s, m, n, k, hs, m1, hm, ep, dz, rfl, a0, rfl, hdn, e⟩
  · exact absurd Int32.zero_and h0
  · have e1 : abl S s t m &&& abl S z t 1 = abl S s t (m + 1) := by rw [← abl_s (s := s) (m := m) hn, ep, abl_1]
    exact ⟨s, m + 1, n, k, hs, by omega, by omega, by rw [pth_s, ep, ey], by omega, e1, h0, rfl, hdn, e⟩
theorem RS_new {S : Sx} {i t l z y : Nat} {relay able : Int32} (hn : cn S ≤ 6) (hi : i < 16) (ht : t < 16) (hy : y < 16) (hzt : z ≠ t) (ey : nxz (nI z) (nI t) = nI y) (dy : dN y t + 1 = dN z t) (h : RS S i t l z relay able) (h1 : ¬ abl S z t 1 = 0) (h0 : able &&& abl S z t 1 = 0) : RS S i t (l + 1) y (relay + 1) (abl S z t 1) := by
  obtain ⟨hz, hd, h⟩ := h
  have d6 := dN_le hi ht
  refine ⟨hy, by omega, Or.inr ?_⟩
  rcases h with ⟨rfl, rfl, rfl, rfl⟩ | ⟨s, m, n, k, hs, m1, hm, ep, dz, rfl, a0, rfl, hdn, e⟩
  · exact ⟨z, 1, 15, 0, hz, Nat.le_refl 1, by omega, ey, by omega, rfl, h1, rfl, by omega, rfl⟩
  · have X := Decidable.not_not.mp (mt (abl_mx hn hs ht m1 hm).mpr a0)
    have Z : ¬ m + 1 ≤ mx S t (nI s) (cn S) := by
      refine (abl_mx hn hs ht (by omega) (by omega)).mp ?_
      rw [← abl_s (s := s) (m := m) hn, ep, abl_1]
      exact h0
    have eX : mx S t (nI s) (cn S) = m := by omega
    rw [rl_step hs ht (fun e => by subst e; unfold dN at hm; omega), if_neg (by omega), eX, ep] at e
    obtain ⟨n', rfl⟩ : ∃ n', n = n' + 1 := ⟨n - 1, by omega⟩
    exact ⟨z, 1, n', k + 1, hz, Nat.le_refl 1, by omega, ey, by omega, rfl, h1, rfl, by omega, e⟩
set_option maxRecDepth 100000 in
theorem wk_X1_shortestRelay (B : Nat) : fw_Wk B fl_X1 (cal_X1_shortestRelay B) [] cst_X1 (some .int) kX1_shortestRelay 9 (ct_X1_shortestRelay B) := by
  intro as M Q QX h
  unfold ct_X1_shortestRelay at h
  split at h
  · rename_i x f t
    obtain ⟨b, S, i, j, X, hi, hj, rfl, rfl, h⟩ := h
    have hn := X.2.2.2.1
    have kx := kX X.1
    have d6 := dN_le hi hj
    refine ⟨rfl, [(11, [true, true, true, true, true, true, true, false, false], fun m ls st M' => ∃ l z relay able, m = 16 - l ∧ l ≤ 6 ∧ RS S i j l z relay able ∧ ls = [some (.ref x), some (.int (nI i)), some (.int (nI j)), some (.int relay), some (.int able), some (.int (nI z)), some (.int (nI l)), none, none] ∧ st = [] ∧ M' = M)], ⟨40, ?_⟩, ?_⟩
    · exact Exists.intro 16 (Exists.intro 0 (Exists.intro i (Exists.intro 0 (Exists.intro 0 ⟨rfl, by omega, ⟨hi, by omega, Or.inl ⟨rfl, rfl, rfl, rfl⟩⟩, rfl, rfl, rfl⟩))))
    · intro q hq m ls st M' hi'
      cases List.mem_singleton.mp hq
      obtain ⟨l, z, relay, able, rfl, hl, hRS, rfl, rfl, rfl⟩ := hi'
      have hz := hRS.1
      refine ⟨100, And.intro (fun h1 => ?_) (fun h1 => And.intro (fun h2 => ?_) (fun h2 => ?_))⟩
      · have h1 : nI 16 ≤ nI l := h1
        rw [n_ge (by decide) (by omega)] at h1
        omega
      · have h2 : nI z = nI j := h2
        rw [nI_eq (by omega) (by omega)] at h2
        subst h2
        rw [← RS_end hn hj hRS] at h
        exact h
      · have h2 : ¬ nI z = nI j := h2
        rw [nI_eq (by omega) (by omega)] at h2
        obtain ⟨y, hy, ey, dy⟩ := dN_next z hz j hj h2
        have key : ∀ a b c d, c = none → d = none → RS S i j (l + 1) y a b → ∃ m', m' < 16 - l ∧ ∃ l' z' relay' able', m' = 16 - l' ∧ l' ≤ 6 ∧ RS S i j l' z' relay' able' ∧ ([some (.ref x), some (.int (nI i)), some (.int (nI j)), some (.int a), some (.int b), some (.int (nxz (nI z) (nI j))), some (.int (nI l + 1)), c, d] : fw_L) = [some (.ref x), some (.int (nI i)), some (.int (nI j)), some (.int relay'), some (.int able'), some (.int (nI z')), some (.int (nI l')), none, none] ∧ ([] : List Value) = [] ∧ M' = M' := by
          rintro a b c d rfl rfl g
          have := g.2.1
          exact ⟨16 - (l + 1), by omega, l + 1, y, a, b, rfl, by omega, g, by rw [ey, nI_1], rfl, rfl⟩
        refine Exists.intro z (Exists.intro j (And.intro hz (And.intro hj (And.intro rfl (And.intro rfl (And.intro kx (Exists.intro b (Exists.intro S (And.intro X (And.intro (fun g1 => And.intro (fun g2 => ?_) (fun g2 => ?_)) (fun g1 => ?_)))))))))))
        · have g1 : ¬ crN S (nI z) (nxz (nI z) (nI j)) (cn S) = 0 := g1
          have g2 : ¬ able &&& crN S (nI z) (nxz (nI z) (nI j)) (cn S) = 0 := g2
          have e1 := abl_1 (S := S) (z := z) (t := j)
          refine key _ _ none none rfl rfl ?_
          show RS S i j (l + 1) y relay (able &&& crN S (nI z) (nxz (nI z) (nI j)) (cn S))
          rw [e1] at g2 ⊢
          exact RS_go hn hi hj hy h2 ey dy hRS g2
        · have g1 : ¬ crN S (nI z) (nxz (nI z) (nI j)) (cn S) = 0 := g1
          have g2 : able &&& crN S (nI z) (nxz (nI z) (nI j)) (cn S) = 0 := g2
          have e1 := abl_1 (S := S) (z := z) (t := j)
          refine key _ _ none none rfl rfl ?_
          show RS S i j (l + 1) y (relay + 1) (crN S (nI z) (nxz (nI z) (nI j)) (cn S))
          rw [e1] at g1 g2 ⊢
          exact RS_new hn hi hj hy h2 ey dy hRS g1 g2
        · have g1 : crN S (nI z) (nxz (nI z) (nI j)) (cn S) = 0 := g1
          rw [abl_1] at g1
          rw [← RS_no hn hi hj h2 hRS g1] at h
          exact h
  · exact h.elim
end WRL

/-! WHAT HOLDS OF EVERY STATE beside WF: the sums, the carriers, the way of a parcel -/
section IVA
def sI (f : Nat → Int32) : Nat → Int32
  | 0 => 0
  | n + 1 => sI f n + f n
theorem sI_cg {f g : Nat → Int32} : ∀ n, (∀ i, i < n → f i = g i) → sI f n = sI g n := by
  intro n
  induction n with
  | zero => intro _; rfl
  | succ n ih =>
    intro h
    unfold sI
    rw [ih (fun i hi => h i (by omega)), h n (by omega)]
theorem sI_one {f g : Nat → Int32} {i : Nat} {d : Int32} : ∀ n, i < n → g i - f i = d → (∀ j, j < n → j ≠ i → g j = f j) → sI g n = sI f n + d := by
  intro n
  induction n with
  | zero => intro h; omega
  | succ n ih =>
    intro hi hd h
    unfold sI
    by_cases e : i = n
    · subst e
      rw [sI_cg i (fun j hj => h j (by omega) (by omega)), ← hd]
      grind
    · rw [ih (by omega) hd (fun j hj hne => h j (by omega) hne), h n (by omega) (by omega)]
      grind
theorem sI_zero {f : Nat → Int32} : ∀ n, (∀ i, i < n → f i = 0) → sI f n = 0 := by
  intro n
  induction n with
  | zero => intro _; rfl
  | succ n ih =>
    intro h
    unfold sI
    rw [ih (fun i hi => h i (by omega)), h n (by omega)]
    rfl
theorem sI_add {f g : Nat → Int32} : ∀ n, sI (fun i => f i + g i) n = sI f n + sI g n := by
  intro n
  induction n with
  | zero => rfl
  | succ n ih =>
    unfold sI
    rw [ih]
    grind
theorem sI_ext {f : Nat → Int32} {n : Nat} : ∀ m, n ≤ m → (∀ i, n ≤ i → i < m → f i = 0) → sI f m = sI f n := by
  intro m
  induction m with
  | zero => intro h _; rw [Nat.le_zero.mp h]
  | succ m ih =>
    intro h hz
    by_cases e : n = m + 1
    · rw [e]
    · unfold sI
      rw [ih (by omega) (fun i h1 h2 => hz i h1 (by omega)), hz m (by omega) (by omega)]
      cases n with
      | zero => rfl
      | succ n => show sI f (n + 1) + 0 = sI f (n + 1); grind
theorem lsum_sI {S : Sx} {p : Nat} : ∀ n, lsum S p n = sI (fun c => sP S p (8 + c)) n := by
  intro n
  induction n with
  | zero => rfl
  | succ n ih => unfold lsum sI; rw [ih]
theorem lgC_sI {S : Sx} {c : Nat} : ∀ n, lgC S c n = sI (fun p => sP S p (8 + c)) n := by
  intro n
  induction n with
  | zero => rfl
  | succ n ih => unfold lgC sI; rw [ih]
/-! the shares add up -/
theorem rk_cnt {r : Nat → Nat} {A R : Nat} (hr : ∀ d, d < 6 → r d < A) (hs : sm r 6 = R * A) : ∀ j, j ≤ R → cB (fun c => decide (rk r c < j)) 6 = j := by
  intro j
  induction j with
  | zero =>
    intro _
    have e : cB (fun c => decide (rk r c < 0)) 6 = cB (fun _ => false) 6 := cB_eq (fun d _ => decide_eq_false (Nat.not_lt_zero _))
    rw [e]
    rfl
  | succ j ih =>
    intro hj
    have hset := ih (by omega)
    obtain ⟨d, hd, hn, hp⟩ := rk_some hset hr hs (by omega)
    obtain ⟨g1, g2⟩ := gS_ok r (fun d => decide (rk r d < j)) 6
    cases hg : gS r (fun d => decide (rk r d < j)) 6 with
    | none =>
      have := g1 hg d hd (decide_eq_false hn)
      omega
    | some b =>
      obtain ⟨k1, k2, k3, k4⟩ := g2 b hg
      exact (rk_next hset k1 (of_decide_eq_false k2) (fun d hd hu hne => k4 d hd (decide_eq_false hu) hne)).2.1
theorem sm_pl {f g : Nat → Nat} : ∀ n, sm (fun c => f c + g c) n = sm f n + sm g n := by
  intro n
  induction n with
  | zero => rfl
  | succ n ih => unfold sm; rw [ih]; omega
theorem sm_if {P : Nat → Prop} [DecidablePred P] : ∀ n, sm (fun c => if P c then 1 else 0) n = cB (fun c => decide (P c)) n := by
  intro n
  induction n with
  | zero => rfl
  | succ n ih =>
    unfold sm cB
    rw [ih]
    by_cases h : P n
    · rw [if_pos h, decide_eq_true h]; rfl
    · rw [if_neg h, decide_eq_false h]; rfl
theorem sI_sm {f : Nat → Int32} {g : Nat → Nat} : ∀ n, (∀ c, c < n → f c = nI (g c)) → sI f n = nI (sm g n) := by
  intro n
  induction n with
  | zero => intro _; rfl
  | succ n ih =>
    intro h
    unfold sI sm
    rw [ih (fun c hc => h c (by omega)), h n (by omega), n_add]
theorem fsh_sum {S : Sx} {p k : Nat} (hk : k ≤ 1000) (h : LG S p) : sI (fun c => fsh S p (nI k) c) 6 = nI k := by
  obtain ⟨A, R, L, h⟩ := SHN_of hk h
  have hA := h.2.2.1
  have h6 := h.2.2.2.2.2
  rw [sI_sm 6 (fun c hc => fsh_n h hc), sm_pl, sm_if, rk_cnt (r := fun c => k * L c % A) (A := A) (fun d _ => Nat.mod_lt _ hA) h6.2 R (Nat.le_refl R), h6.1]
theorem fsh_zero {S : Sx} {p k c : Nat} (hk : k ≤ 1000) (h : LG S p) (hc : c < 6) (h0 : sP S p (8 + c) = 0) : fsh S p (nI k) c = 0 := by
  obtain ⟨A, R, L, h⟩ := SHN_of hk h
  have hA := h.2.2.1
  have h6 := h.2.2.2.2.2
  have hL := (h.1 c hc).2
  have hb := (h.1 c hc).1
  have e0 : L c = 0 := by
    rw [h0, show (0 : Int32) = nI 0 from rfl, nI_eq (by omega) (by omega)] at hL
    omega
  have hz : k * L c % A = 0 := by rw [e0]; simp
  have h1 : cB (fun d => decide (0 < k * L d % A)) 6 ≤ rk (fun c => k * L c % A) c := by
    refine cB_le (fun d _ hd => ?_)
    rw [bf_iff]
    refine Or.inl ?_
    show k * L c % A < k * L d % A
    rw [hz]
    exact of_decide_eq_true hd
  have h2 := sm_le (r := fun c => k * L c % A) (A := A) (n := 6) (fun d _ => Nat.le_of_lt (Nat.mod_lt _ hA))
  rw [h6.2] at h2
  have h3 := Nat.le_of_mul_le_mul_right h2 hA
  rw [fsh_n h hc, e0, if_neg (by omega), Nat.mul_zero, Nat.zero_div]
  rfl
/-! the way of a parcel: along its row, then along its column -/
def onr (f t z : Nat) : Bool := (decide (z / 4 = f / 4) && ((decide (f % 4 ≤ z % 4) && decide (z % 4 ≤ t % 4)) || (decide (t % 4 ≤ z % 4) && decide (z % 4 ≤ f % 4)))) || (decide (z % 4 = t % 4) && ((decide (f / 4 ≤ z / 4) && decide (z / 4 ≤ t / 4)) || (decide (t / 4 ≤ z / 4) && decide (z / 4 ≤ f / 4))))
def ds (f z : Nat) : Nat := (f % 4 - z % 4) + (z % 4 - f % 4) + (f / 4 - z / 4) + (z / 4 - f / 4)
def nxB (f t z : Nat) : Bool := !(onr f t z) || (decide (z = t) || (decide ((nxz (nI z) (nI t)).toNatClampNeg < 16) && decide (nxz (nI z) (nI t) = nI (nxz (nI z) (nI t)).toNatClampNeg) && onr f t (nxz (nI z) (nI t)).toNatClampNeg && decide (ds f (nxz (nI z) (nI t)).toNatClampNeg = ds f z + 1)))
theorem nxB_ok : ∀ f, f < 16 → ∀ t, t < 16 → ∀ z, z < 16 → nxB f t z = true := by decide +kernel
theorem onr_next : ∀ f, f < 16 → ∀ t, t < 16 → ∀ z, z < 16 → onr f t z = true → z ≠ t → ∃ y, y < 16 ∧ nxz (nI z) (nI t) = nI y ∧ onr f t y = true ∧ ds f y = ds f z + 1 := by
  intro f hf t ht z hz h hne
  have k := nxB_ok f hf t ht z hz
  unfold nxB at k
  rw [h, decide_eq_false hne] at k
  simp only [Bool.not_true, Bool.false_or, Bool.and_eq_true, decide_eq_true_eq] at k
  exact ⟨_, k.1.1.1, k.1.1.2, k.1.2, k.2⟩
theorem onr_0 : ∀ f, f < 16 → ∀ t, t < 16 → onr f t f = true ∧ ds f f = 0 := by decide +kernel
theorem dist_n : ∀ f, f < 16 → ∀ z, z < 16 → dist (nI f) (nI z) = nI (ds f z) := by decide +kernel
theorem ds_le : ∀ f, f < 16 → ∀ z, z < 16 → ds f z ≤ 6 := by decide +kernel
/-! the invariant -/
def cr2 (S : Sx) (m : Nat) : Nat → Int32 := fun k => if sC S k 3 = 2 ∧ sC S k 4 = nI m then 1 else 0
def lgT (S : Sx) : Int32 := sI (fun k => sI (fun m => sP S m (8 + k)) (pn S)) (cn S)
def PV (S : Sx) (q m : Nat) : Prop := ∃ f t z, f < 16 ∧ t < 16 ∧ z < 16 ∧ sP S m 0 = nI f ∧ sP S m 1 = nI t ∧ sP S m 5 = nI z ∧ onr f t z = true ∧ (m ≠ q → (sP S m 4 = 0 ∨ sP S m 4 = 1) → z ≠ t) ∧ sI (fun c => sP S m (8 + c)) 6 = nI (ds f z) ∧ sI (fun c => sP S m (14 + c)) 6 = sP S m 7 ∧ (sP S m 4 ≠ 2 → sP S m 7 = 0) ∧ ∀ c, c < 6 → cn S ≤ c → sP S m (8 + c) = 0 ∧ sP S m (14 + c) = 0
def IQ (b q : Nat) (S : Sx) : Prop :=
  sI (fun k => sC S k 2) (cn S) = S 6 ∧ sI (fun m => sP S m 7) (pn S) = S 6 ∧ (∃ a n, S 5 = nI a ∧ lgT S = nI n ∧ n ≤ a ∧ a ≤ b) ∧ (∀ m, m < pn S → sI (cr2 S m) (cn S) = if sP S m 4 = 1 then 1 else 0) ∧ (∀ k m, k < cn S → m < pn S → sC S k 3 = 2 → sC S k 4 = nI m → sP S m 5 = sC S k 1) ∧ (∀ m, m < pn S → PV S q m) ∧ ∀ m w, pn S ≤ m → m < 24 → w < 20 → sP S m w = 0
abbrev IV (b : Nat) (S : Sx) : Prop := IQ b 24 S
theorem PV_cg {S S' : Sx} {q q' m : Nat} (h : PV S q m) (hq : m ≠ q' → m ≠ q) (hn : cn S ≤ cn S') (e : ∀ w, w < 20 → sP S' m w = sP S m w) : PV S' q' m := by
  obtain ⟨f, t, z, h1, h2, h3, h4, h5, h6, h7, h8, h9, h10, h11, h12⟩ := h
  refine ⟨f, t, z, h1, h2, h3, by rw [e 0 (by decide)]; exact h4, by rw [e 1 (by decide)]; exact h5, by rw [e 5 (by decide)]; exact h6, h7, fun a => ?_, ?_, ?_, ?_, fun c hc hcn => ?_⟩
  · rw [e 4 (by decide)]; exact h8 (hq a)
  · rw [← h9]; exact sI_cg 6 (fun i hi => e _ (by omega))
  · rw [e 7 (by decide), ← h10]; exact sI_cg 6 (fun i hi => e _ (by omega))
  · rw [e 4 (by decide), e 7 (by decide)]; exact h11
  · rw [e _ (by omega), e _ (by omega)]; exact h12 c hc (by omega)
theorem cr2_cg {S S' : Sx} {m k : Nat} (h : sC S' k 3 = sC S k 3 ∧ sC S' k 4 = sC S k 4) : cr2 S' m k = cr2 S m k := by
  unfold cr2
  rw [h.1, h.2]
theorem lgT_cg {S S' : Sx} (e2 : cn S' = cn S) (e3 : pn S' = pn S) (hn : cn S ≤ 6) (e : ∀ m k, m < pn S → k < 6 → sP S' m (8 + k) = sP S m (8 + k)) : lgT S' = lgT S := by
  unfold lgT
  rw [e2, e3]
  exact sI_cg _ (fun k hk => sI_cg _ (fun m hm => e m k hm (by omega)))
theorem lgT_leg {S S' : Sx} {c p : Nat} (e2 : cn S' = cn S) (e3 : pn S' = pn S) (hc : c < cn S) (hp : p < pn S) (e : ∀ m k, m < pn S → k < cn S → sP S' m (8 + k) = if m = p ∧ k = c then sP S m (8 + k) + 1 else sP S m (8 + k)) : lgT S' = lgT S + 1 := by
  unfold lgT
  rw [e2, e3]
  refine sI_one (i := c) _ hc ?_ (fun k hk hne => sI_cg _ (fun m hm => ?_))
  · rw [sI_one (f := fun m => sP S m (8 + c)) (g := fun m => sP S' m (8 + c)) (i := p) (d := 1) _ hp ?_ (fun m hm hne => ?_)]
    · grind
    · show sP S' p (8 + c) - sP S p (8 + c) = 1
      rw [e p c hp hc, if_pos ⟨rfl, rfl⟩]
      grind
    · show sP S' m (8 + c) = sP S m (8 + c)
      rw [e m c hm hc, if_neg (fun y => hne y.1)]
  · show sP S' m (8 + k) = sP S m (8 + k)
    rw [e m k hm hk, if_neg (fun y => hne y.2)]
theorem IQ_step {b b' q q' c p : Nat} {S S' : Sx} (h : IQ b q S) (hm : pn S ≤ 24) (hc : c < cn S) (hp : p < pn S) (e2 : S' 2 = S 2) (e3 : S' 3 = S 3)
    (i1 : sI (fun k => sC S' k 2) (cn S) = S' 6)
    (i2 : S' 6 = S 6 + (sP S' p 7 - sP S p 7))
    (i3 : ∃ a n, S' 5 = nI a ∧ lgT S' = nI n ∧ n ≤ a ∧ a ≤ b')
    (hC : ∀ d, d < cn S → d ≠ c → sC S' d 1 = sC S d 1 ∧ sC S' d 3 = sC S d 3 ∧ sC S' d 4 = sC S d 4)
    (hP : ∀ m w, m ≠ p → m < 24 → w < 20 → sP S' m w = sP S m w)
    (i4 : (if sP S' p 4 = 1 then (1 : Int32) else 0) = (if sP S p 4 = 1 then 1 else 0) + (cr2 S' p c - cr2 S p c))
    (i4' : ∀ m, m ≠ p → m < pn S → cr2 S' m c = cr2 S m c)
    (i5 : sC S' c 3 = 2 → ∀ m, m < pn S → sC S' c 4 = nI m → sP S' m 5 = sC S' c 1)
    (i5' : sP S' p 5 = sP S p 5 ∨ ∀ d, d < cn S → d ≠ c → sC S d 3 = 2 → ¬ sC S d 4 = nI p)
    (i6 : PV S' q' p) (hq : ∀ m, m < pn S → m ≠ p → m ≠ q' → m ≠ q) : IQ b' q' S' := by
  obtain ⟨h1, h2, h3, h4, h5, h6, h7⟩ := h
  have en := cn_eq e2
  have em := pn_eq e3
  refine ⟨by rw [en]; exact i1, ?_, i3, ?_, ?_, ?_, ?_⟩
  · rw [em, i2, ← h2]
    exact sI_one (i := p) _ hp rfl (fun m hm2 hne => hP m 7 hne (by omega) (by decide))
  · rw [em, en]
    intro m hm2
    by_cases e : m = p
    · subst e
      rw [i4, ← h4 m hm2]
      exact sI_one (i := c) _ hc rfl (fun d hd hne => cr2_cg (hC d hd hne).2)
    · rw [hP m 4 e (by omega) (by decide), ← h4 m hm2]
      refine sI_cg _ (fun d hd => ?_)
      by_cases ed : d = c
      · rw [ed]; exact i4' m e hm2
      · exact cr2_cg (hC d hd ed).2
  · rw [em, en]
    intro k m hk hm2 y3 y4
    by_cases e : k = c
    · subst e; exact i5 y3 m hm2 y4
    · obtain ⟨z1, z3, z4⟩ := hC k hk e
      rw [z3] at y3
      rw [z4] at y4
      rw [z1, ← h5 k m hk hm2 y3 y4]
      by_cases ep : m = p
      · subst ep
        rcases i5' with i | i
        · exact i
        · exact absurd y4 (i k hk e y3)
      · exact hP m 5 ep (by omega) (by decide)
  · rw [em]
    intro m hm2
    by_cases e : m = p
    · subst e; exact i6
    · exact PV_cg (h6 m hm2) (hq m hm2 e) (Nat.le_of_eq en.symm) (fun w hw => hP m w e (by omega) hw)
  · rw [em]
    intro m w h8 h9 h10
    rw [hP m w (by omega) h9 h10]
    exact h7 m w h8 h9 h10
/-- a courier alone changes, who carries nothing -/
theorem IQ_stepC {b b' q c : Nat} {S S' : Sx} (h : IQ b q S) (hm : pn S ≤ 24) (hn : cn S ≤ 6) (hc : c < cn S) (e2 : S' 2 = S 2) (e3 : S' 3 = S 3) (e6 : S' 6 = S 6) (e5 : (S' 5 = S 5 ∧ b ≤ b') ∨ (S' 5 = S 5 + 1 ∧ b + 1 ≤ b'))
    (hC : ∀ d, d < cn S → sC S' d 2 = sC S d 2 ∧ (d ≠ c → sC S' d 1 = sC S d 1 ∧ sC S' d 3 = sC S d 3 ∧ sC S' d 4 = sC S d 4))
    (hP : ∀ m w, m < 24 → w < 20 → sP S' m w = sP S m w)
    (i4 : ∀ m, m < pn S → cr2 S' m c = cr2 S m c)
    (i5 : sC S' c 3 = 2 → ∀ m, m < pn S → sC S' c 4 = nI m → sP S' m 5 = sC S' c 1) : IQ b' q S' := by
  obtain ⟨h1, h2, h3, h4, h5, h6, h7⟩ := h
  have en := cn_eq e2
  have em := pn_eq e3
  refine ⟨?_, ?_, ?_, ?_, ?_, ?_, ?_⟩
  · rw [en, e6, ← h1]
    exact sI_cg _ (fun d hd => (hC d hd).1)
  · rw [em, e6, ← h2]
    exact sI_cg _ (fun m hm2 => hP m 7 (by omega) (by decide))
  · obtain ⟨a, n, a1, a2, a3, a4⟩ := h3
    have hl : lgT S' = lgT S := lgT_cg en em hn (fun m k hm2 hk => hP m _ (by omega) (by omega))
    rcases e5 with ⟨e5, hb⟩ | ⟨e5, hb⟩
    · exact ⟨a, n, by rw [e5]; exact a1, by rw [hl]; exact a2, a3, by omega⟩
    · exact ⟨a + 1, n, by rw [e5, a1, nI_1], by rw [hl]; exact a2, by omega, by omega⟩
  · rw [em, en]
    intro m hm2
    rw [hP m 4 (by omega) (by decide), ← h4 m hm2]
    refine sI_cg _ (fun d hd => ?_)
    by_cases ed : d = c
    · rw [ed]; exact i4 m hm2
    · exact cr2_cg ((hC d hd).2 ed).2
  · rw [em, en]
    intro k m hk hm2 y3 y4
    by_cases e : k = c
    · subst e; exact i5 y3 m hm2 y4
    · obtain ⟨z1, z3, z4⟩ := (hC k hk).2 e
      rw [z3] at y3
      rw [z4] at y4
      rw [z1, ← h5 k m hk hm2 y3 y4]
      exact hP m 5 (by omega) (by decide)
  · rw [em]
    intro m hm2
    exact PV_cg (h6 m hm2) (fun y => y) (Nat.le_of_eq en.symm) (fun w hw => hP m w (by omega) hw)
  · rw [em]
    intro m w h8 h9 h10
    rw [hP m w h9 h10]
    exact h7 m w h8 h9 h10
end IVA

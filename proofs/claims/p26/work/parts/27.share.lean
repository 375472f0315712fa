/-! SHARING BY LEGS: the greedy way and the way by ranks are one -/
section SG
def sm (f : Nat → Nat) : Nat → Nat
  | 0 => 0
  | c + 1 => sm f c + f c
def cB (P : Nat → Bool) : Nat → Nat
  | 0 => 0
  | c + 1 => cB P c + (bif P c then 1 else 0)
theorem cB_le {P Q : Nat → Bool} : ∀ {n : Nat}, (∀ d, d < n → P d = true → Q d = true) → cB P n ≤ cB Q n := by
  intro n
  induction n with
  | zero => intro _; exact Nat.le_refl 0
  | succ n ih =>
    intro h
    have h1 := ih (fun d hd => h d (by omega))
    have h2 := h n (by omega)
    unfold cB
    cases hp : P n with
    | false => cases Q n <;> simp only [cond_true, cond_false] <;> omega
    | true => rw [h2 hp]; simp only [cond_true]; omega
theorem cB_lt {P Q : Nat → Bool} : ∀ {n : Nat}, (∀ d, d < n → P d = true → Q d = true) → (∃ e, e < n ∧ Q e = true ∧ P e = false) → cB P n < cB Q n := by
  intro n
  induction n with
  | zero => rintro _ ⟨e, h, -⟩; omega
  | succ n ih =>
    rintro h ⟨e, he, hq, hp⟩
    have h1 := cB_le (P := P) (Q := Q) (n := n) (fun d hd => h d (by omega))
    unfold cB
    by_cases hen : e = n
    · subst hen
      rw [hq, hp]
      simp only [cond_true, cond_false]
      omega
    · have h3 := ih (fun d hd => h d (by omega)) ⟨e, by omega, hq, hp⟩
      have h2 := h n (by omega)
      cases hpn : P n with
      | false => cases Q n <;> simp only [cond_true, cond_false] <;> omega
      | true => rw [h2 hpn]; simp only [cond_true]; omega
theorem cB_eq {P Q : Nat → Bool} : ∀ {n : Nat}, (∀ d, d < n → P d = Q d) → cB P n = cB Q n := by
  intro n
  induction n with
  | zero => intro _; rfl
  | succ n ih =>
    intro h
    unfold cB
    rw [ih (fun d hd => h d (by omega)), h n (by omega)]
/-- one more -/
theorem cB_one {P Q : Nat → Bool} {b : Nat} : ∀ {n : Nat}, b < n → P b = false → Q b = true → (∀ d, d < n → d ≠ b → P d = Q d) → cB Q n = cB P n + 1 := by
  intro n
  induction n with
  | zero => intro h; omega
  | succ n ih =>
    intro hb hp hq h
    unfold cB
    by_cases e : b = n
    · subst e
      rw [hp, hq, cB_eq (fun d hd => h d (by omega) (by omega))]
      rfl
    · rw [ih (by omega) hp hq (fun d hd => h d (by omega)), h n (by omega) (fun z => e z.symm)]
      omega
theorem sm_le {r : Nat → Nat} {A : Nat} : ∀ {n : Nat}, (∀ d, d < n → r d ≤ A) → sm r n ≤ cB (fun d => decide (0 < r d)) n * A := by
  intro n
  induction n with
  | zero => intro _; simp [sm]
  | succ n ih =>
    intro h
    have h1 := ih (fun d hd => h d (by omega))
    have h2 := h n (by omega)
    unfold sm cB
    by_cases hz : 0 < r n
    · rw [decide_eq_true hz, cond_true, Nat.succ_mul]
      omega
    · rw [decide_eq_false hz, cond_false, Nat.add_zero]
      omega
/-- d comes before c -/
def bf (r : Nat → Nat) (d c : Nat) : Bool := decide (r c < r d) || (decide (r d = r c) && decide (d < c))
def rk (r : Nat → Nat) (c : Nat) : Nat := cB (fun d => bf r d c) 6
theorem bf_iff {r : Nat → Nat} {d c : Nat} : bf r d c = true ↔ r c < r d ∨ (r d = r c ∧ d < c) := by simp [bf]
theorem bf_no {r : Nat → Nat} {d c : Nat} : bf r d c = false ↔ ¬ (r c < r d ∨ (r d = r c ∧ d < c)) := by
  rw [← bf_iff]
  cases bf r d c <;> simp
theorem rk_lt {r : Nat → Nat} {d c : Nat} (hd : d < 6) (h : bf r d c = true) : rk r d < rk r c := by
  refine cB_lt (fun x _ hx => ?_) ⟨d, hd, h, ?_⟩
  · rw [bf_iff] at *
    omega
  · rw [bf_no]
    omega
theorem bf_tot {r : Nat → Nat} {d c : Nat} (h : d ≠ c) : bf r d c = true ∨ bf r c d = true := by
  rw [bf_iff, bf_iff]
  omega
/-- the first of those who are not set has just the rank that is next -/
theorem rk_next {r : Nat → Nat} {j b : Nat} (hset : cB (fun c => decide (rk r c < j)) 6 = j) (hb : b < 6) (hbn : ¬ rk r b < j) (hmax : ∀ d, d < 6 → ¬ rk r d < j → d ≠ b → bf r b d = true) :
    rk r b = j ∧ cB (fun c => decide (rk r c < j + 1)) 6 = j + 1 ∧ ∀ d, d < 6 → (rk r d < j + 1 ↔ rk r d < j ∨ d = b) := by
  have e1 : rk r b = j := by
    rw [← hset]
    refine cB_eq (fun d hd => ?_)
    show bf r d b = decide (rk r d < j)
    by_cases hj : rk r d < j
    · rw [decide_eq_true hj]
      have hne : d ≠ b := fun z => by rw [z] at hj; exact hbn hj
      rcases bf_tot (r := r) hne with z | z
      · exact z
      · have := rk_lt hb z
        omega
    · rw [decide_eq_false hj]
      by_cases hne : d = b
      · rw [hne, bf_no]; omega
      · have := hmax d hd hj hne
        rw [bf_iff] at this
        rw [bf_no]
        omega
  have e3 : ∀ d, d < 6 → (rk r d < j + 1 ↔ rk r d < j ∨ d = b) := by
    intro d hd
    constructor
    · intro h
      by_cases hne : d = b
      · exact Or.inr hne
      · rcases bf_tot (r := r) hne with z | z
        · have := rk_lt hd z
          omega
        · have := rk_lt hb z
          omega
    · rintro (h | h)
      · omega
      · rw [h]; omega
  refine ⟨e1, ?_, e3⟩
  rw [cB_one (P := fun c => decide (rk r c < j)) (b := b) hb (decide_eq_false hbn) (decide_eq_true (by omega)) (fun d hd hne => ?_), hset]
  by_cases h : rk r d < j
  · rw [decide_eq_true h, decide_eq_true (by omega)]
  · rw [decide_eq_false h, decide_eq_false (fun z => ((e3 d hd).mp z).elim h hne)]
/-- as long as something remains there is one with a remainder who is not set -/
theorem rk_some {r : Nat → Nat} {j A R : Nat} (hset : cB (fun c => decide (rk r c < j)) 6 = j) (hr : ∀ d, d < 6 → r d < A) (hs : sm r 6 = R * A) (hj : j < R) : ∃ d, d < 6 ∧ ¬ rk r d < j ∧ 0 < r d := by
  refine Classical.byContradiction fun hno => ?_
  have hall : ∀ d, d < 6 → decide (0 < r d) = true → decide (rk r d < j) = true := by
    intro d hd h
    refine decide_eq_true (Classical.byContradiction fun h2 => hno ⟨d, hd, h2, of_decide_eq_true h⟩)
  have h1 := cB_le hall
  rw [hset] at h1
  have h2 := sm_le (r := r) (A := A) (n := 6) (fun d hd => Nat.le_of_lt (hr d hd))
  rw [hs] at h2
  have hA : 0 < A := Nat.lt_of_le_of_lt (Nat.zero_le _) (hr 0 (by decide))
  have h3 := Nat.mul_le_mul_right A h1
  have h4 : (j + 1) * A ≤ R * A := Nat.mul_le_mul_right A hj
  rw [Nat.succ_mul] at h4
  omega
/-- the scan for the greatest remainder among those not set -/
def gS (r : Nat → Nat) (u : Nat → Bool) : Nat → Option Nat
  | 0 => none
  | i + 1 => if u i = false ∧ (match gS r u i with | none => 0 | some b => r b) < r i then some i else gS r u i
theorem gS_ok (r : Nat → Nat) (u : Nat → Bool) : ∀ i, (gS r u i = none → ∀ d, d < i → u d = false → r d = 0) ∧ ∀ b, gS r u i = some b → b < i ∧ u b = false ∧ 0 < r b ∧ ∀ d, d < i → u d = false → d ≠ b → bf r b d = true := by
  intro i
  induction i with
  | zero => exact ⟨fun _ d h => (by omega), fun b h => (by cases h)⟩
  | succ i ih =>
    obtain ⟨ih1, ih2⟩ := ih
    unfold gS
    cases hg : gS r u i with
    | none =>
      have ih1 := ih1 hg
      by_cases hc : u i = false ∧ 0 < r i
      · rw [if_pos hc]
        refine ⟨fun h => (by cases h), fun b h => ?_⟩
        cases h
        refine ⟨by omega, hc.1, hc.2, fun d hd hu hne => ?_⟩
        rw [bf_iff, ih1 d (by omega) hu]
        omega
      · rw [if_neg hc]
        refine ⟨fun _ d hd hu => ?_, fun b h => (by cases h)⟩
        by_cases e : d = i
        · subst e
          exact Nat.eq_zero_of_not_pos fun z => hc ⟨hu, z⟩
        · exact ih1 d (by omega) hu
    | some b0 =>
      obtain ⟨k1, k2, k3, k4⟩ := ih2 b0 hg
      by_cases hc : u i = false ∧ r b0 < r i
      · rw [if_pos hc]
        refine ⟨fun h => (by cases h), fun b h => ?_⟩
        cases h
        refine ⟨by omega, hc.1, by omega, fun d hd hu hne => ?_⟩
        rw [bf_iff]
        by_cases e : d = b0
        · subst e; omega
        · have := k4 d (by omega) hu e
          rw [bf_iff] at this
          omega
      · rw [if_neg hc]
        refine ⟨fun h => (by cases h), fun b h => ?_⟩
        cases h
        refine ⟨by omega, k2, k3, fun d hd hu hne => ?_⟩
        by_cases e : d = i
        · subst e
          rw [bf_iff]
          have : ¬ r b0 < r d := fun z => hc ⟨hu, z⟩
          omega
        · exact k4 d (by omega) hu hne
/-- masks of six -/
theorem mk_bit : ∀ v, v < 64 → ∀ c, c < 6 → ((nI v >>> (nI c &&& 31)) &&& 1 = 0 ↔ v.testBit c = false) := by decide +kernel
theorem mk_set : ∀ v, v < 64 → ∀ b, b < 6 → nI v ||| ((1 : Int32) <<< (nI b &&& 31)) = nI (v ||| 2 ^ b) ∧ v ||| 2 ^ b < 64 ∧ ∀ c, c < 6 → (v ||| 2 ^ b).testBit c = (v.testBit c || decide (c = b)) := by decide +kernel
/-! the numbers of a sharing -/
theorem sm_mul {L : Nat → Nat} {k : Nat} : ∀ n, sm (fun c => k * L c) n = k * sm L n := by
  intro n
  induction n with
  | zero => rfl
  | succ n ih => unfold sm; rw [ih, Nat.mul_add]
theorem sm_dm {f : Nat → Nat} {A : Nat} : ∀ n, sm f n = A * sm (fun c => f c / A) n + sm (fun c => f c % A) n := by
  intro n
  induction n with
  | zero => rfl
  | succ n ih =>
    unfold sm
    rw [ih, Nat.mul_add]
    have := Nat.div_add_mod (f n) A
    omega
theorem sm_bd {L : Nat → Nat} {b : Nat} : ∀ n, (∀ c, c < n → L c ≤ b) → sm L n ≤ n * b := by
  intro n
  induction n with
  | zero => intro _; simp [sm]
  | succ n ih =>
    intro h
    have h1 := ih (fun c hc => h c (by omega))
    have h2 := h n (by omega)
    unfold sm
    rw [Nat.succ_mul]
    omega
theorem sm_pos {L : Nat → Nat} : ∀ n c, c < n → 0 < L c → 0 < sm L n := by
  intro n
  induction n with
  | zero => intro c h; omega
  | succ n ih =>
    intro c hc hp
    unfold sm
    by_cases e : c = n
    · subst e; omega
    · have := ih c (by omega) hp
      omega
theorem sm_cl {f g : Nat → Nat} : ∀ n, (∀ c, c < n → f c ≤ g c) → sm f n ≤ sm g n := by
  intro n
  induction n with
  | zero => intro _; exact Nat.le_refl 0
  | succ n ih =>
    intro h
    have h1 := ih (fun c hc => h c (by omega))
    have h2 := h n (by omega)
    unfold sm
    omega
theorem sm_mono {f : Nat → Nat} {i : Nat} : ∀ n, i ≤ n → sm f i ≤ sm f n := by
  intro n
  induction n with
  | zero => intro h; rw [Nat.le_zero.mp h]; exact Nat.le_refl _
  | succ n ih =>
    intro h
    by_cases e : i = n + 1
    · rw [e]; exact Nat.le_refl _
    · have h1 := ih (by omega)
      show sm f i ≤ sm f n + f n
      omega
/-- what a sharing is in numbers: paid k, legs L, all A, quotients, remainders, rest R -/
def SHN (S : Sx) (p k A R : Nat) (L : Nat → Nat) : Prop :=
  (∀ c, c < 6 → L c ≤ 100000 ∧ sP S p (8 + c) = nI (L c)) ∧ sm L 6 = A ∧ 0 < A ∧ A ≤ 600000 ∧ k ≤ 1000 ∧ sm (fun c => k * L c / A) 6 + R = k ∧ sm (fun c => k * L c % A) 6 = R * A
theorem SHN_of {S : Sx} {p k : Nat} (hk : k ≤ 1000) (h : LG S p) : ∃ A R L, SHN S p k A R L := by
  obtain ⟨L, h1, c0, hc0, h2⟩ := h
  have hA : 0 < sm L 6 := sm_pos 6 c0 hc0 h2
  have hb := sm_bd 6 (fun c hc => (h1 c hc).1)
  have e1 := sm_mul (L := L) (k := k) 6
  rw [sm_dm (A := sm L 6) 6] at e1
  have hq : sm (fun c => k * L c / sm L 6) 6 ≤ k := by
    have : sm L 6 * sm (fun c => k * L c / sm L 6) 6 ≤ sm L 6 * k := by rw [Nat.mul_comm (sm L 6) k]; omega
    exact Nat.le_of_mul_le_mul_left this hA
  refine ⟨sm L 6, k - sm (fun c => k * L c / sm L 6) 6, L, h1, rfl, hA, by omega, hk, by omega, ?_⟩
  have e2 : sm L 6 * k = sm L 6 * sm (fun c => k * L c / sm L 6) 6 + sm L 6 * (k - sm (fun c => k * L c / sm L 6) 6) := by
    rw [← Nat.mul_add]
    congr 1
    omega
  rw [Nat.mul_comm k] at e1
  rw [Nat.mul_comm (k - _)]
  omega
theorem lsum_n {S : Sx} {p k A R : Nat} {L : Nat → Nat} (h : SHN S p k A R L) : ∀ i, i ≤ 6 → lsum S p i = nI (sm L i) := by
  intro i
  induction i with
  | zero => intro _; rfl
  | succ i ih =>
    intro hi
    unfold lsum sm
    rw [ih (by omega), (h.1 i (by omega)).2, n_add]
theorem kL_lt {S : Sx} {p k A R : Nat} {L : Nat → Nat} (h : SHN S p k A R L) {c : Nat} (hc : c < 6) : k * L c < 2 ^ 31 := by
  have h1 := (h.1 c hc).1
  have h2 := h.2.2.2.2.1
  have : k * L c ≤ 1000 * 100000 := Nat.mul_le_mul h2 h1
  omega
theorem shq_n {S : Sx} {p k A R : Nat} {L : Nat → Nat} (h : SHN S p k A R L) {c : Nat} (hc : c < 6) : shq S p (nI k) c = nI (k * L c / A) := by
  unfold shq
  rw [lsum_n h 6 (Nat.le_refl _), (h.1 c hc).2, n_mul, h.2.1, pk_div (kL_lt h hc) h.2.2.1 (by have := h.2.2.2.1; omega)]
theorem shr_n {S : Sx} {p k A R : Nat} {L : Nat → Nat} (h : SHN S p k A R L) {c : Nat} (hc : c < 6) : shr S p (nI k) c = nI (k * L c % A) := by
  unfold shr
  rw [lsum_n h 6 (Nat.le_refl _), (h.1 c hc).2, n_mul, h.2.1, pk_rem (kL_lt h hc) h.2.2.1 (by have := h.2.2.2.1; omega)]
theorem rst_n {S : Sx} {p k A R : Nat} {L : Nat → Nat} (h : SHN S p k A R L) : ∀ i, i ≤ 6 → rst S p (nI k) i = nI (k - sm (fun c => k * L c / A) i) := by
  intro i
  induction i with
  | zero => intro _; rfl
  | succ i ih =>
    intro hi
    have h6 := h.2.2.2.2.2.1
    have hm : sm (fun c => k * L c / A) i + k * L i / A ≤ sm (fun c => k * L c / A) 6 := sm_mono (f := fun c => k * L c / A) (i := i + 1) 6 hi
    show rst S p (nI k) i - shq S p (nI k) i = nI (k - (sm (fun c => k * L c / A) i + k * L i / A))
    rw [ih (by omega), shq_n h (by omega), pk_sub (by omega)]
    congr 1
    omega
theorem rst_R {S : Sx} {p k A R : Nat} {L : Nat → Nat} (h : SHN S p k A R L) : rst S p (nI k) 6 = nI R := by
  rw [rst_n h 6 (Nat.le_refl _)]
  have := h.2.2.2.2.2.1
  congr 1
  omega
theorem rR_lt {S : Sx} {p k A R : Nat} {L : Nat → Nat} (h : SHN S p k A R L) : R ≤ 1000 := by
  have := h.2.2.2.2.2.1
  have := h.2.2.2.2.1
  omega
theorem rnk_n {S : Sx} {p k A R : Nat} {L : Nat → Nat} (h : SHN S p k A R L) {c : Nat} (hc : c < 6) : ∀ i, i ≤ 6 → rnk S p (nI k) c i = cB (fun d => bf (fun c => k * L c % A) d c) i := by
  intro i
  induction i with
  | zero => intro _; rfl
  | succ i ih =>
    intro hi
    have hA := h.2.2.1
    have hA2 := h.2.2.2.1
    have m1 := Nat.mod_lt (k * L c) hA
    have m2 := Nat.mod_lt (k * L i) hA
    unfold rnk cB
    have e1 : (shr S p (nI k) c < shr S p (nI k) i ∨ (shr S p (nI k) i = shr S p (nI k) c ∧ i < c)) ↔ bf (fun c => k * L c % A) i c = true := by
      rw [bf_iff, shr_n h hc, shr_n h (by omega), n_lt (by omega) (by omega), nI_eq (by omega) (by omega)]
    rw [ih (by omega)]
    congr 1
    by_cases z : bf (fun c => k * L c % A) i c = true
    · rw [z, cond_true, if_pos (e1.mpr z)]
    · rw [if_neg (fun y => z (e1.mp y))]
      rw [Bool.not_eq_true] at z
      rw [z, cond_false]
theorem fsh_n {S : Sx} {p k A R : Nat} {L : Nat → Nat} (h : SHN S p k A R L) {c : Nat} (hc : c < 6) : fsh S p (nI k) c = nI (k * L c / A + (if rk (fun c => k * L c % A) c < R then 1 else 0)) := by
  have h1 := rnk_n h hc 6 (Nat.le_refl _)
  have hb : rk (fun c => k * L c % A) c ≤ 6 := by
    have : ∀ (P : Nat → Bool) n, cB P n ≤ n := by
      intro P n
      induction n with
      | zero => exact Nat.le_refl 0
      | succ n ih => unfold cB; cases P n <;> simp only [cond_true, cond_false] <;> omega
    exact this _ 6
  have hR := rR_lt h
  have e1 : nI (rnk S p (nI k) c 6) < rst S p (nI k) 6 ↔ rk (fun c => k * L c % A) c < R := by
    rw [h1, rst_R h, n_lt (by show rk _ c < _; omega) (by omega)]
    exact Iff.rfl
  unfold fsh
  rw [shq_n h hc]
  by_cases z : rk (fun c => k * L c % A) c < R
  · rw [if_pos (e1.mpr z), if_pos z, nI_1]
  · rw [if_neg (fun y => z (e1.mp y)), if_neg z]; rfl
/-- the shares of a parcel replaced -/
def shF (S : Sx) (p : Nat) (f : Nat → Int32) : Sx := fun k => if 51 + 20 * p ≤ k ∧ k < 57 + 20 * p then f (k - (51 + 20 * p)) else S k
theorem shF_put {S : Sx} {p b : Nat} {f : Nat → Int32} {v : Int32} (hb : b < 6) : upd (shF S p f) (37 + 20 * p + (14 + b)) v = shF S p (upd f b v) := by
  funext k
  unfold shF upd
  by_cases h1 : k = 37 + 20 * p + (14 + b)
  · rw [if_pos h1, if_pos (by omega), if_pos (by omega)]
  · rw [if_neg h1]
    by_cases h2 : 51 + 20 * p ≤ k ∧ k < 57 + 20 * p
    · dsimp only
      rw [if_pos h2, if_pos h2, if_neg (by omega)]
    · dsimp only
      rw [if_neg h2, if_neg h2]
theorem shF_get {S : Sx} {p c : Nat} {f : Nat → Int32} (hc : c < 6) : shF S p f (37 + 20 * p + (14 + c)) = f c := by
  unfold shF
  rw [if_pos (by omega)]
  congr 1
  omega
theorem shF_off {S : Sx} {p k : Nat} {f : Nat → Int32} (h : k < 51 + 20 * p ∨ 57 + 20 * p ≤ k) : shF S p f k = S k := by
  unfold shF
  rw [if_neg (by omega)]
theorem shF_id {S : Sx} {p : Nat} {f : Nat → Int32} (h : ∀ c, c < 6 → f c = S (51 + 20 * p + c)) : shF S p f = S := by
  funext k
  unfold shF
  by_cases h2 : 51 + 20 * p ≤ k ∧ k < 57 + 20 * p
  · rw [if_pos h2, h _ (by omega)]
    congr 1
    omega
  · rw [if_neg h2]
theorem shF_cg {S : Sx} {p : Nat} {f g : Nat → Int32} (h : ∀ c, c < 6 → f c = g c) : shF S p f = shF S p g := by
  funext k
  unfold shF
  by_cases h2 : 51 + 20 * p ≤ k ∧ k < 57 + 20 * p
  · rw [if_pos h2, if_pos h2, h _ (by omega)]
  · rw [if_neg h2, if_neg h2]
theorem shW_F {S : Sx} {p : Nat} {m : Int32} : ∀ i, i ≤ 6 → shW S p m i = shF S p (fun c => if c < i then fsh S p m c else S (51 + 20 * p + c)) := by
  intro i
  induction i with
  | zero => intro _; exact (shF_id (fun c _ => if_neg (Nat.not_lt_zero c))).symm
  | succ i ih =>
    intro hi
    unfold shW uP
    rw [ih (by omega), shF_put (by omega)]
    refine shF_cg (fun c hc => ?_)
    unfold upd
    by_cases e : c = i
    · subst e
      rw [if_pos rfl, if_pos (by omega)]
    · rw [if_neg e]
      dsimp only
      by_cases e2 : c < i
      · rw [if_pos e2, if_pos (by omega)]
      · rw [if_neg e2, if_neg (by omega)]
end SG

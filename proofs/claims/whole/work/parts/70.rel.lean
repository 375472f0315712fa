/-! THE SHORTEST RELAY: who can still carry, against who goes farthest -/
section RL
/-- zone after m steps towards t -/
def pth (t : Nat) : Nat → Int32 → Int32
  | 0, z => z
  | m + 1, z => pth t m (nxz z (nI t))
/-- a courier can carry m steps from z on -/
def cr (S : Sx) (c t : Nat) : Nat → Int32 → Bool
  | 0, _ => true
  | m + 1, z => (hs (sC S c 0) z && hs (sC S c 0) (nxz z (nI t))) && cr S c t m (nxz z (nI t))
/-- how many steps it carries -/
def fr (S : Sx) (c t : Nat) : Nat → Int32 → Nat
  | 0, _ => 0
  | n + 1, z => if z ≠ nI t ∧ hs (sC S c 0) z = true ∧ hs (sC S c 0) (nxz z (nI t)) = true then fr S c t n (nxz z (nI t)) + 1 else 0
theorem pth_s {t : Nat} : ∀ m (z : Int32), pth t (m + 1) z = nxz (pth t m z) (nI t) := by
  intro m
  induction m with
  | zero => intro z; rfl
  | succ m ih => intro z; show pth t (m + 1) (nxz z (nI t)) = nxz (pth t m (nxz z (nI t))) (nI t); rw [ih]
theorem pth_ok {t : Nat} (ht : t < 16) : ∀ m s, s < 16 → m ≤ dN s t → ∃ z, z < 16 ∧ pth t m (nI s) = nI z ∧ dN z t + m = dN s t := by
  intro m
  induction m with
  | zero => intro s hs _; exact ⟨s, hs, rfl, rfl⟩
  | succ m ih =>
    intro s hs hm
    obtain ⟨y, hy, ey, dy⟩ := dN_next s hs t ht (fun e => by subst e; unfold dN at hm; omega)
    obtain ⟨z, hz, ez, dz⟩ := ih y hy (by omega)
    exact ⟨z, hz, by unfold pth; rw [ey, ez], by omega⟩
theorem rchN_fr {S : Sx} {c t : Nat} : ∀ n (z : Int32), rchN S c (nI t) n z = pth t (fr S c t n z) z := by
  intro n
  induction n with
  | zero => intro z; rfl
  | succ n ih =>
    intro z
    unfold rchN fr
    split
    · rw [ih]; rfl
    · rfl
theorem fr_le {S : Sx} {c t : Nat} (ht : t < 16) : ∀ n s, s < 16 → fr S c t n (nI s) ≤ dN s t := by
  intro n
  induction n with
  | zero => intro s _; exact Nat.zero_le _
  | succ n ih =>
    intro s hs
    unfold fr
    split
    · rename_i e
      obtain ⟨y, hy, ey, dy⟩ := dN_next s hs t ht (fun z => e.1 (by rw [z]))
      rw [ey]
      have := ih y hy
      omega
    · exact Nat.zero_le _
theorem cr_fr {S : Sx} {c t : Nat} (ht : t < 16) : ∀ n s m, s < 16 → dN s t ≤ n → m ≤ dN s t → (cr S c t m (nI s) = true ↔ m ≤ fr S c t n (nI s)) := by
  intro n
  induction n with
  | zero =>
    intro s m hsl hd hm
    have : m = 0 := by omega
    subst this
    exact ⟨fun _ => Nat.zero_le _, fun _ => rfl⟩
  | succ n ih =>
    intro s m hsl hd hm
    cases m with
    | zero => exact ⟨fun _ => Nat.zero_le _, fun _ => rfl⟩
    | succ m =>
      have hne : s ≠ t := fun e => by subst e; unfold dN at hm; omega
      obtain ⟨y, hy, ey, dy⟩ := dN_next s hsl t ht hne
      have hne' : nI s ≠ nI t := fun e => hne (by rw [nI_eq (by omega) (by omega)] at e; exact e)
      unfold cr fr
      rw [ey]
      by_cases h : hs (sC S c 0) (nI s) = true ∧ hs (sC S c 0) (nI y) = true
      · rw [if_pos ⟨hne', h.1, h.2⟩, h.1, h.2]
        have := ih y m hy (by omega) (by omega)
        simp only [Bool.true_and]
        rw [this]
        omega
      · rw [if_neg (fun e => h e.2)]
        constructor
        · intro e
          simp only [Bool.and_eq_true] at e
          exact absurd e.1 h
        · intro e; omega
theorem cr_s {S : Sx} {c t : Nat} : ∀ m (z : Int32), cr S c t (m + 1) z = (cr S c t m z && (hs (sC S c 0) (pth t m z) && hs (sC S c 0) (pth t (m + 1) z))) := by
  intro m
  induction m with
  | zero => intro z; show ((hs _ z && hs _ (nxz z (nI t))) && true) = (true && (hs _ z && hs _ (nxz z (nI t)))); rw [Bool.and_true, Bool.true_and]
  | succ m ih =>
    intro z
    conv => lhs; unfold cr
    rw [ih]
    conv => rhs; lhs; unfold cr
    exact (Bool.and_assoc _ _ _).symm
/-- the farthest of the first couriers -/
def mx (S : Sx) (t : Nat) (z : Int32) : Nat → Nat
  | 0 => 0
  | c + 1 => if mx S t z c < fr S c t 16 z then fr S c t 16 z else mx S t z c
theorem mx_le {S : Sx} {s t : Nat} (hs : s < 16) (ht : t < 16) : ∀ c, mx S t (nI s) c ≤ dN s t := by
  intro c
  induction c with
  | zero => exact Nat.zero_le _
  | succ c ih =>
    unfold mx
    split
    · exact fr_le ht 16 s hs
    · exact ih
theorem rlB_mx {S : Sx} {s t : Nat} (hs : s < 16) (ht : t < 16) : ∀ c, rlB S (nI s) (nI t) c = pth t (mx S t (nI s) c) (nI s) := by
  intro c
  induction c with
  | zero => rfl
  | succ c ih =>
    have er : rch S c (nI s) (nI t) = pth t (fr S c t 16 (nI s)) (nI s) := rchN_fr 16 _
    obtain ⟨a, ha, ea, da⟩ := pth_ok ht _ s hs (fr_le (S := S) (c := c) ht 16 s hs)
    obtain ⟨b, hb, eb, db⟩ := pth_ok ht _ s hs (mx_le (S := S) hs ht c)
    have k1 := dN_le ha ht
    have k2 := dN_le hb ht
    unfold rlB mx
    rw [ih, er]
    by_cases h : mx S t (nI s) c < fr S c t 16 (nI s)
    · rw [if_pos h, if_pos]
      rw [ea, eb, dN_dist a ha t ht, dN_dist b hb t ht, n_lt (by omega) (by omega)]
      omega
    · rw [if_neg h, if_neg]
      rw [ea, eb, dN_dist a ha t ht, dN_dist b hb t ht, n_lt (by omega) (by omega)]
      omega
theorem mx_ge {S : Sx} {t m : Nat} {z : Int32} : ∀ n, (m ≤ mx S t z n ↔ m = 0 ∨ ∃ c, c < n ∧ m ≤ fr S c t 16 z) := by
  intro n
  induction n with
  | zero => exact ⟨fun h => Or.inl (Nat.le_zero.mp h), fun h => h.elim (fun e => by rw [e]; exact Nat.zero_le _) (fun ⟨c, hc, _⟩ => absurd hc (Nat.not_lt_zero c))⟩
  | succ n ih =>
    unfold mx
    by_cases h : mx S t z n < fr S n t 16 z
    · rw [if_pos h]
      constructor
      · intro e; exact Or.inr ⟨n, Nat.lt_succ_self n, e⟩
      · rintro (e | ⟨c, hc, e⟩)
        · omega
        · by_cases z' : c = n
          · rw [← z']; exact e
          · have := ih.mpr (Or.inr ⟨c, by omega, e⟩); omega
    · rw [if_neg h, ih]
      constructor
      · rintro (e | ⟨c, hc, e⟩)
        · exact Or.inl e
        · exact Or.inr ⟨c, by omega, e⟩
      · rintro (e | ⟨c, hc, e⟩)
        · exact Or.inl e
        · by_cases z' : c = n
          · rw [z'] at e
            exact ih.mp (by omega)
          · exact Or.inr ⟨c, by omega, e⟩
end RL

/-! THE TEXT OF PARCELS: what its methods do -/
section PT
def mdN (j : Nat) : Nat := if j = 2 then 3 else if j = 3 then 4 else 2
def sgN (j : Nat) : Int32 := if j = 3 then 59 else 44
def loF (j : Nat) : Int32 := if j = 2 then 1 else 0
def hiF (j : Nat) : Int32 := if j = 2 then 999 else if j = 3 then 1000 else 15
def noF (j : Nat) (o : Int32) : Int32 := if j = 1 then o else -1
def ftN (j : Nat) (v o : Int32) : Bool := okN v (loF j) (hiF j) && decide (¬ (j = 1 ∧ v = o))
def nmF (tl : Nat) (tx : Nat → Int32) (p j : Nat) (o : Int32) : Bool × Nat := numb tl tx p (mdN j) (loF j) (hiF j) (noF j o) (sgN j)
/-- the text that has been appended -/
def TS (B : Nat) (M : fw_M) (tl : Nat) (tx : Nat → Int32) : Prop := M.1 (B + 489) 2 = nI tl ∧ tl ≤ 150 ∧ ∀ i, i < tl → M.1 (B + 490) i = tx i
/-- nothing changed but what reading changes -/
def FT (B : Nat) (M M' : fw_M) : Prop := (∀ b, b ≠ B + 489 → b ≠ B + 491 → M'.1 b = M.1 b) ∧ (∀ k, k < 3 → M'.1 (B + 489) k = M.1 (B + 489) k) ∧ M'.2 = M.2
theorem FT_id {B : Nat} {M : fw_M} : FT B M M := ⟨fun _ _ _ => rfl, fun _ _ => rfl, rfl⟩
theorem FT_tr {B : Nat} {M M1 M2 : fw_M} (h1 : FT B M M1) (h2 : FT B M1 M2) : FT B M M2 := ⟨fun b a c => (h2.1 b a c).trans (h1.1 b a c), fun k hk => (h2.2.1 k hk).trans (h1.2.1 k hk), h2.2.2.trans h1.2.2⟩
theorem FT_4 {B : Nat} {M : fw_M} {k : Nat} {x : Int32} (h : 3 ≤ k) : FT B M (fw_st M (B + 489) k x) := ⟨fun b a _ => st_o a, fun j hj => st_n (by omega), rfl⟩
theorem FT_n {B : Nat} {M : fw_M} {k : Nat} {x : Int32} : FT B M (fw_st M (B + 491) k x) := ⟨fun b _ a => st_o a, fun j _ => by rw [st_o (by omega)], rfl⟩
theorem TS_fr {B tl : Nat} {M M' : fw_M} {tx : Nat → Int32} (h : TS B M tl tx) (f : FT B M M') : TS B M' tl tx :=
  ⟨(f.2.1 2 (by decide)).trans h.1, h.2.1, fun i hi => by rw [f.1 (B + 490) (by omega) (by omega)]; exact h.2.2 i hi⟩
/-- the place of item i -/
def ps (tl : Nat) (tx : Nat → Int32) : Nat → Nat
  | 0 => 0
  | i + 1 => (item tl tx (ps tl tx i)).2
def cmS (S : Sx) (tl : Nat) (tx : Nat → Int32) : Nat → Sx
  | 0 => S
  | i + 1 => comI (cmS S tl tx i) tl tx (ps tl tx i)
/-- the numbers of item i stand in the row -/
def IT (B : Nat) (M : fw_M) (tl : Nat) (tx : Nat → Int32) (p i : Nat) : Prop := M.1 (B + 491) (4 * i) = iO tl tx p ∧ M.1 (B + 491) (4 * i + 1) = iG tl tx p ∧ M.1 (B + 491) (4 * i + 2) = iK tl tx p ∧ M.1 (B + 491) (4 * i + 3) = iT tl tx p
def ct_X4_isDigit (B : Nat) : fw_CTX := fun as M Q _ => match as with
  | [.int v] => Q (some (.int (bi (okN v 48 57)))) M
  | _ => False
def ct_X4_mostDigits (B : Nat) : fw_CTX := fun as M Q _ => match as with
  | [.int v] => ∃ j, j < 4 ∧ v = nI j ∧ Q (some (.int (nI (mdN j)))) M
  | _ => False
def ct_X4_endOf (B : Nat) : fw_CTX := fun as M Q _ => match as with
  | [.int v] => ∃ j, j < 4 ∧ v = nI j ∧ Q (some (.int (sgN j))) M
  | _ => False
def ct_X4_numberOf (B : Nat) : fw_CTX := fun as M Q _ => match as with
  | [.ref a, .int i, .int f] => a = B + 489 ∧ ∃ k j, k < 24 ∧ j < 4 ∧ i = nI k ∧ f = nI j ∧ Q (some (.int (M.1 (B + 491) (4 * k + j)))) M
  | _ => False
def ct_X4_keep (B : Nat) : fw_CTX := fun as M Q _ => match as with
  | [.ref a, .int f, .int v] => a = B + 489 ∧ ∃ k j, k < 24 ∧ j < 4 ∧ M.1 (B + 489) 3 = nI k ∧ f = nI j ∧ Q none (fw_st M (B + 491) (4 * k + j) v)
  | _ => False
def ct_X4_fits (B : Nat) : fw_CTX := fun as M Q _ => match as with
  | [.ref a, .int f, .int v] => a = B + 489 ∧ ∃ k j, k < 24 ∧ j < 4 ∧ M.1 (B + 489) 3 = nI k ∧ f = nI j ∧ Q (some (.int (bi (ftN j v (M.1 (B + 491) (4 * k)))))) M
  | _ => False
def ct_X4_add (B : Nat) : fw_CTX := fun as M Q _ => match as with
  | [.ref a, .int v] => a = B + 489 ∧ ∃ n, n < 150 ∧ M.1 (B + 489) 2 = nI n ∧ Q none (fw_st (fw_st M (B + 490) n v) (B + 489) 2 (nI (n + 1)))
  | _ => False
def ct_X4_readNumber (B : Nat) : fw_CTX := fun as M Q _ => match as with
  | [.ref a, .int f] => a = B + 489 ∧ ∃ tl tx k j p, TS B M tl tx ∧ k < 24 ∧ j < 4 ∧ p ≤ tl ∧ M.1 (B + 489) 3 = nI k ∧ f = nI j ∧ M.1 (B + 489) 4 = nI p ∧
    ((nmF tl tx p j (M.1 (B + 491) (4 * k))).1 = true → Q (some (.int (-1))) (fw_st (fw_st M (B + 489) 4 (nI (nmF tl tx p j (M.1 (B + 491) (4 * k))).2)) (B + 491) (4 * k + j) (nbN tx p (dgN tl tx p (mdN j))))) ∧
    ((nmF tl tx p j (M.1 (B + 491) (4 * k))).1 = false → ∀ x, Q (some (.int (nI (nmF tl tx p j (M.1 (B + 491) (4 * k))).2))) (fw_st M (B + 489) 4 x))
  | _ => False
def ct_X4_readItem (B : Nat) : fw_CTX := fun as M Q _ => match as with
  | [.ref a] => a = B + 489 ∧ ∃ tl tx k p, TS B M tl tx ∧ k < 24 ∧ p ≤ tl ∧ M.1 (B + 489) 3 = nI k ∧ M.1 (B + 489) 4 = nI p ∧
    ∀ M', FT B M M' → M'.1 (B + 489) 3 = nI k → (∀ i, i < 4 * k → M'.1 (B + 491) i = M.1 (B + 491) i) → ((item tl tx p).1 = true → M'.1 (B + 489) 4 = nI (item tl tx p).2 ∧ IT B M' tl tx p k) → Q (some (.int (if (item tl tx p).1 = true then -1 else nI (item tl tx p).2))) M'
  | _ => False
def ct_X4_read (B : Nat) : fw_CTX := fun as M Q _ => match as with
  | [.ref a, .int r] => a = B + 489 ∧ ∃ tl tx b S, TS B M tl tx ∧ WF b S ∧ r = nI (24 - pn S) ∧
    ∀ M' v, FT B M M' → ((prN tl tx 151 S 0).1 = false ∧ v = nI (prN tl tx 151 S 0).2.1 ∨ (prN tl tx 151 S 0).1 = true ∧ v = -1 ∧ ∃ k, M'.1 (B + 489) 3 = nI k ∧ pn S + k ≤ 24 ∧ (prN tl tx 151 S 0).2.2 = cmS S tl tx k ∧ ∀ i, i < k → (item tl tx (ps tl tx i)).1 = true ∧ IT B M' tl tx (ps tl tx i) i) → Q (some (.int v)) M'
  | _ => False
theorem k489 {B : Nat} : fw_kd B (B + 489) = 4 := kd_at (by decide)
theorem k490 {B : Nat} : fw_kd B (B + 490) = 7 := kd_at (by decide)
theorem k491 {B : Nat} : fw_kd B (B + 491) = 7 := kd_at (by decide)
theorem l490 {B : Nat} : fw_len B (B + 490) = 150 := by unfold fw_len; rw [Nat.add_sub_cancel_left]; rfl
theorem l491 {B : Nat} : fw_len B (B + 491) = 96 := by unfold fw_len; rw [Nat.add_sub_cancel_left]; rfl
theorem st_st {M : fw_M} {a k : Nat} {x y : Int32} : fw_st (fw_st M a k x) a k y = fw_st M a k y := by rw [st_row, st_row, st_row, row_1, row_row, upd_upd]
theorem st_self {M : fw_M} {a k : Nat} {x : Int32} (h : M.1 a k = x) : fw_st M a k x = M := by rw [st_row, ← h, upd_self, row_self]
/-! the cases of a number -/
theorem nq_0 {tl p d : Nat} {tx : Nat → Int32} {lo hi no sg : Int32} (h : dgN tl tx p d = 0) : numb tl tx p d lo hi no sg = (false, p) := by unfold numb; rw [if_pos h]
theorem nq_d {tl p d : Nat} {tx : Nat → Int32} {lo hi no sg : Int32} (h : ¬ dgN tl tx p d = 0) (h2 : p + dgN tl tx p d < tl ∧ okN (tx (p + dgN tl tx p d)) 48 57 = true) : numb tl tx p d lo hi no sg = (false, p + dgN tl tx p d) := by
  unfold numb; rw [if_neg h, if_pos h2]
theorem nq_r {tl p d : Nat} {tx : Nat → Int32} {lo hi no sg : Int32} (h : ¬ dgN tl tx p d = 0) (h2 : ¬ (p + dgN tl tx p d < tl ∧ okN (tx (p + dgN tl tx p d)) 48 57 = true)) (h3 : okN (nbN tx p (dgN tl tx p d)) lo hi = false ∨ nbN tx p (dgN tl tx p d) = no) : numb tl tx p d lo hi no sg = (false, p) := by
  unfold numb; rw [if_neg h, if_neg h2, if_pos h3]
theorem nq_y {tl p d : Nat} {tx : Nat → Int32} {lo hi no sg : Int32} (h : ¬ dgN tl tx p d = 0) (h2 : ¬ (p + dgN tl tx p d < tl ∧ okN (tx (p + dgN tl tx p d)) 48 57 = true)) (h3 : okN (nbN tx p (dgN tl tx p d)) lo hi = true ∧ nbN tx p (dgN tl tx p d) ≠ no) (h4 : p + dgN tl tx p d < tl ∧ tx (p + dgN tl tx p d) = sg) : numb tl tx p d lo hi no sg = (true, p + dgN tl tx p d + 1) := by
  unfold numb
  rw [if_neg h, if_neg h2, if_neg (fun z => z.elim (fun e => by rw [h3.1] at e; cases e) h3.2), if_pos h4]
theorem nq_n {tl p d : Nat} {tx : Nat → Int32} {lo hi no sg : Int32} (h : ¬ dgN tl tx p d = 0) (h2 : ¬ (p + dgN tl tx p d < tl ∧ okN (tx (p + dgN tl tx p d)) 48 57 = true)) (h3 : okN (nbN tx p (dgN tl tx p d)) lo hi = true ∧ nbN tx p (dgN tl tx p d) ≠ no) (h4 : ¬ (p + dgN tl tx p d < tl ∧ tx (p + dgN tl tx p d) = sg)) : numb tl tx p d lo hi no sg = (false, p + dgN tl tx p d) := by
  unfold numb
  rw [if_neg h, if_neg h2, if_neg (fun z => z.elim (fun e => by rw [h3.1] at e; cases e) h3.2), if_neg h4]
theorem ft_no {j : Nat} {v o : Int32} (h : ftN j v o = false) : okN v (loF j) (hiF j) = false ∨ v = noF j o := by
  unfold ftN at h
  cases e : okN v (loF j) (hiF j) with
  | false => exact Or.inl rfl
  | true =>
    rw [e, Bool.true_and] at h
    have := of_decide_eq_false h
    rcases Classical.not_not.mp this with ⟨rfl, e2⟩
    exact Or.inr e2
theorem ft_yes {j : Nat} {v o : Int32} (h : ftN j v o = true) : okN v (loF j) (hiF j) = true ∧ v ≠ noF j o := by
  unfold ftN at h
  rw [Bool.and_eq_true] at h
  refine ⟨h.1, fun e => ?_⟩
  have h2 := of_decide_eq_true h.2
  unfold noF at e
  split at e
  · rename_i ej; exact h2 ⟨ej, e⟩
  · have h1 := h.1
    rw [e] at h1
    unfold loF hiF at h1
    split at h1
    · exact absurd h1 (by decide)
    · split at h1 <;> exact absurd h1 (by decide)
theorem dg_s {tl a d : Nat} {tx : Nat → Int32} (h : a < tl ∧ okN (tx a) 48 57 = true) : dgN tl tx a (d + 1) = dgN tl tx (a + 1) d + 1 := by
  show (if a < tl ∧ okN (tx a) 48 57 = true then dgN tl tx (a + 1) d + 1 else 0) = _
  rw [if_pos h]
theorem dg_n {tl a : Nat} {tx : Nat → Int32} (d : Nat) (h : ¬ (a < tl ∧ okN (tx a) 48 57 = true)) : dgN tl tx a d = 0 := by
  cases d with
  | zero => rfl
  | succ d =>
    show (if a < tl ∧ okN (tx a) 48 57 = true then dgN tl tx (a + 1) d + 1 else 0) = _
    rw [if_neg h]
theorem md_2 (j : Nat) : 2 ≤ mdN j ∧ mdN j ≤ 4 := by
  unfold mdN
  split
  · decide
  · split <;> decide
/-! the fields of an item -/
def qF (tl : Nat) (tx : Nat → Int32) (p j : Nat) : Bool × Nat := if j = 0 then iA tl tx p else if j = 1 then iB tl tx p else if j = 2 then iC tl tx p else iD tl tx p
def sF (tl : Nat) (tx : Nat → Int32) (p : Nat) : Nat → Nat
  | 0 => p
  | j + 1 => (qF tl tx p j).2
def vF (tl : Nat) (tx : Nat → Int32) (p j : Nat) : Int32 := if j = 0 then iO tl tx p else if j = 1 then iG tl tx p else if j = 2 then iK tl tx p else iT tl tx p
theorem qF_nm {tl p j : Nat} {tx : Nat → Int32} {o : Int32} (hj : j < 4) (ho : 0 < j → o = iO tl tx p) : nmF tl tx (sF tl tx p j) j o = qF tl tx p j := by
  rcases (show j = 0 ∨ j = 1 ∨ j = 2 ∨ j = 3 by omega) with y | y | y | y <;> subst y
  · rfl
  · rw [ho (by decide)]; rfl
  · rfl
  · rfl
theorem vF_nb {tl p j : Nat} {tx : Nat → Int32} (hj : j < 4) : nbN tx (sF tl tx p j) (dgN tl tx (sF tl tx p j) (mdN j)) = vF tl tx p j := by
  rcases (show j = 0 ∨ j = 1 ∨ j = 2 ∨ j = 3 by omega) with y | y | y | y <;> subst y <;> rfl
theorem sF_le {tl p j : Nat} {tx : Nat → Int32} (hp : p ≤ tl) (hj : j ≤ 4) : sF tl tx p j ≤ tl := by
  obtain ⟨h1, h2, h3, h4⟩ := item_tl (tx := tx) hp
  rcases (show j = 0 ∨ j = 1 ∨ j = 2 ∨ j = 3 ∨ j = 4 by omega) with y | y | y | y | y <;> subst y
  · exact hp
  · exact h1
  · exact h2
  · exact h3
  · exact h4
theorem item_yes {tl p : Nat} {tx : Nat → Int32} (h : ∀ j, j < 4 → (qF tl tx p j).1 = true) : item tl tx p = iD tl tx p ∧ (item tl tx p).1 = true := by
  have h0 : (iA tl tx p).1 = true := h 0 (by decide)
  have h1 : (iB tl tx p).1 = true := h 1 (by decide)
  have h2 : (iC tl tx p).1 = true := h 2 (by decide)
  have h3 : (iD tl tx p).1 = true := h 3 (by decide)
  have e : item tl tx p = iD tl tx p := by
    unfold item
    rw [h0, h1, h2, if_neg (by decide), if_neg (by decide), if_neg (by decide)]
  exact ⟨e, by rw [e]; exact h3⟩
theorem item_no {tl p j : Nat} {tx : Nat → Int32} (hj : j < 4) (h : ∀ i, i < j → (qF tl tx p i).1 = true) (hn : (qF tl tx p j).1 = false) : item tl tx p = qF tl tx p j ∧ (item tl tx p).1 = false := by
  have e : item tl tx p = qF tl tx p j := by
    unfold item
    rcases (show j = 0 ∨ j = 1 ∨ j = 2 ∨ j = 3 by omega) with y | y | y | y <;> subst y
    · have n0 : (iA tl tx p).1 = false := hn
      rw [n0, if_pos rfl]; rfl
    · have h0 : (iA tl tx p).1 = true := h 0 (by decide)
      have n0 : (iB tl tx p).1 = false := hn
      rw [h0, n0, if_neg (by decide), if_pos rfl]; rfl
    · have h0 : (iA tl tx p).1 = true := h 0 (by decide)
      have h1 : (iB tl tx p).1 = true := h 1 (by decide)
      have n0 : (iC tl tx p).1 = false := hn
      rw [h0, h1, n0, if_neg (by decide), if_neg (by decide), if_pos rfl]; rfl
    · have h0 : (iA tl tx p).1 = true := h 0 (by decide)
      have h1 : (iB tl tx p).1 = true := h 1 (by decide)
      have h2 : (iC tl tx p).1 = true := h 2 (by decide)
      rw [h0, h1, h2, if_neg (by decide), if_neg (by decide), if_neg (by decide)]; rfl
  exact ⟨e, by rw [e]; exact hn⟩
end PT

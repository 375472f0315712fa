/-! THE FRAME: a memory of ints by address and slot, a walker over decoded code, and what it is worth over the machine -/
section FW
/-- ints by address and slot; longs by a number of their own (0: the field h, 1: the row of the law); how many cells came since the law's loop began -/
abbrev fw_M : Type := (Nat → Nat → Int32) × (Nat → Int64) × Nat
def fw_up (V : Nat → Nat → Int32) (a k : Nat) (x : Int32) : Nat → Nat → Int32 := fun b => if b = a then upd (V a) k x else V b
def fw_st (M : fw_M) (a k : Nat) (x : Int32) : fw_M := (fw_up M.1 a k x, M.2.1, M.2.2)
def fw_stl (M : fw_M) (j : Nat) (x : Int64) : fw_M := (M.1, vp_updL M.2.1 j x, M.2.2)
def fw_row (M : fw_M) (a : Nat) (f : Nat → Int32) : fw_M := (fun b => if b = a then f else M.1 b, M.2.1, M.2.2)
theorem fw_up_same {V : Nat → Nat → Int32} {a k : Nat} {x : Int32} : fw_up V a k x a = upd (V a) k x := if_pos rfl
theorem fw_up_ne {V : Nat → Nat → Int32} {a b k : Nat} {x : Int32} (h : b ≠ a) : fw_up V a k x b = V b := if_neg h
/-! where things lie: an exchange takes 81 cells (itself, its row of couriers, its row of parcels, six couriers, and for each of 24 parcels itself, its legs, its shares) -/
def fw_kx (r : Nat) : Nat := if r = 0 then 1 else if r = 1 then 8 else if r = 2 then 10 else if r < 9 then 0 else if (r - 9) % 3 = 0 then 3 else 7
def fw_ko (o : Nat) : Nat := if o = 0 then 5 else if o < 163 then fw_kx ((o - 1) % 81) else if o = 163 then 2 else if o = 164 then 9 else if o < 489 then fw_kx ((o - 165) % 81) else if o = 489 then 4 else if o < 497 then 7 else 12
def fw_kd (B a : Nat) : Nat := if a < B then 12 else fw_ko (a - B)
def fw_lo (o : Nat) : Nat := if o < 489 then 6 else if o = 490 then 150 else if o = 491 then 96 else if o = 492 then 7 else if o = 493 then 30 else if o = 494 then 64 else 48
def fw_len (B a : Nat) : Nat := fw_lo (a - B)
/-- what a field holds: 0 an int, 1 the long, n + 2 the thing n cells behind -/
def fw_fc : Nat → Nat → Nat
  | 1, 7 => 3
  | 1, 8 => 4
  | 2, 0 => 3
  | 3, 8 => 3
  | 3, 9 => 4
  | 4, 0 => 3
  | 4, 1 => 4
  | 5, 0 => 3
  | 5, 1 => 84
  | 5, 2 => 165
  | 5, 3 => 491
  | _, _ => 0
def fw_fw (n a k : Nat) (M : fw_M) : Value := match n with
  | 0 => .int (M.1 a k)
  | 1 => .long (M.2.1 0)
  | n + 2 => .ref (a + n)
def fw_fv (ci k a : Nat) (M : fw_M) : Value := fw_fw (fw_fc ci k) a k M
def fw_nf : Nat → Nat
  | 0 => 5
  | 1 => 9
  | 2 => 3
  | 3 => 10
  | 4 => 5
  | _ => 4
def fw_cl : Nat → vw_C
  | 0 => (RX0, TX0, 5)
  | 1 => (RX1, TX1, 9)
  | 2 => (RX2, TX2, 3)
  | 3 => (RX3, TX3, 10)
  | 4 => (RX4, TX4, 5)
  | _ => (RX5, TX5, 4)
/-- the classes, the rows' classes, and where one more row of the law lies (0: none; n + 1: n cells behind its other rows) -/
abbrev fw_G : Type := va_G × ((Nat → ClassId) × Nat)
def fw_tys (g : fw_G) : List (ClassId × FieldType) := [(g.2.1 0, .int), (g.2.1 1, .object RX0), (g.2.1 2, .object RX1), (g.2.1 3, .object RX3)]
def fw_fs (ci a : Nat) (M : fw_M) : List Value := (List.range (fw_nf ci)).map (fun k => fw_fv ci k a M)
def fw_el (k a j : Nat) : Nat := if k = 8 then a + 2 + j else if k = 9 then a + 1 + 81 * j else a + 7 + 3 * j
def fw_al (k : Nat) : Nat := if k = 8 then 6 else if k = 9 then 4 else 24
def fw_ct (g : fw_G) (B : Nat) (M : fw_M) (o : Nat) : va_E :=
  if fw_ko o < 6 then .inr (fw_ko o, fw_fs (fw_ko o) (B + o) M)
  else if fw_ko o = 7 then .inl (g.2.1 0, fw_lo o, .inl (M.1 (B + o)))
  else if fw_ko o = 8 then .inl (g.2.1 1, 6, .inr (.inr (.inr (.inr (fun j => some (fw_el 8 (B + o) j))))))
  else if fw_ko o = 9 then .inl (g.2.1 2, 4, .inr (.inr (.inr (.inr (fun j => some (fw_el 9 (B + o) j))))))
  else if fw_ko o = 10 then .inl (g.2.1 3, 24, .inr (.inr (.inr (.inr (fun j => some (fw_el 10 (B + o) j))))))
  else .inl (g.2.1 0, 0, .inl (fun _ => 0))
/-- the row beside -/
def fw_xr (g : fw_G) (B : Nat) (M : fw_M) : va_W := match g.2.2 with
  | 0 => []
  | n + 1 => [(B + 497 + n, .inl (g.2.1 0, 4, .inl (M.1 (B + 497 + n))))]
def fw_W0 (g : fw_G) (B : Nat) (M : fw_M) : va_W := (List.range 497).map (fun o => (B + o, fw_ct g B M o))
def fw_WL (g : fw_G) (B : Nat) (M : fw_M) : va_W := fw_W0 g B M ++ fw_xr g B M
theorem fw_W0_len {g : fw_G} {B : Nat} {M : fw_M} : (fw_W0 g B M).length = 497 := by simp [fw_W0]
theorem fw_ko_lt {o : Nat} (h : fw_ko o < 12) : o < 497 := by
  rcases Nat.lt_or_ge o 497 with q | q
  · exact q
  · exfalso
    unfold fw_ko at h
    rw [if_neg (by omega), if_neg (by omega), if_neg (by omega), if_neg (by omega), if_neg (by omega), if_neg (by omega), if_neg (by omega)] at h
    omega
theorem fw_kd_at {B a k : Nat} (h : fw_kd B a = k) (hk : k < 12) : ∃ o, o < 497 ∧ a = B + o ∧ fw_ko o = k := by
  unfold fw_kd at h
  by_cases hB : a < B
  · rw [if_pos hB] at h
    omega
  · rw [if_neg hB] at h
    exact ⟨a - B, fw_ko_lt (by omega), by omega, h⟩
theorem fw_W0_get {g : fw_G} {B : Nat} {M : fw_M} {o : Nat} (h : o < 497) : (fw_W0 g B M)[o]? = some (B + o, fw_ct g B M o) := by
  unfold fw_W0
  rw [List.getElem?_map, List.getElem?_range h]
  rfl
theorem fw_WL_get {g : fw_G} {B : Nat} {M : fw_M} {o : Nat} (h : o < 497) : (fw_WL g B M)[o]? = some (B + o, fw_ct g B M o) := by
  unfold fw_WL
  rw [List.getElem?_append_left (by rw [fw_W0_len]; exact h)]
  exact fw_W0_get h
theorem fw_WL_get' {g : fw_G} {B : Nat} {M : fw_M} {k : Nat} {q : Nat × va_E} (h : (fw_WL g B M)[k]? = some q) : (k < 497 ∧ q = (B + k, fw_ct g B M k)) ∨ (k = 497 ∧ B + 497 ≤ q.1 ∧ fw_xr g B M = [q]) := by
  rcases Nat.lt_or_ge k 497 with hk | hk
  · rw [fw_WL_get hk] at h
    exact Or.inl ⟨hk, (Option.some.inj h).symm⟩
  · refine Or.inr ?_
    unfold fw_WL at h
    rw [List.getElem?_append_right (by rw [fw_W0_len]; exact hk), fw_W0_len] at h
    unfold fw_xr at h ⊢
    split at h
    · cases h
    · rename_i n hn
      have hz : k - 497 < 1 := (List.getElem?_eq_some_iff.mp h).1
      have hz : k = 497 := by omega
      subst hz
      have h := Option.some.inj h
      subst h
      exact ⟨rfl, by show B + 497 ≤ B + 497 + n; omega, rfl⟩
theorem fw_WL_D {g : fw_G} {B : Nat} {M : fw_M} : va_D (fun q => B ≤ q) (fw_WL g B M) := by
  refine ⟨fun i j p q hi hj he => ?_, fun k q hk => ?_⟩
  · rcases fw_WL_get' hi with ⟨h1, rfl⟩ | ⟨rfl, h2, -⟩
    · rcases fw_WL_get' hj with ⟨h3, rfl⟩ | ⟨rfl, h4, -⟩
      · simp only at he
        omega
      · simp only at he
        omega
    · rcases fw_WL_get' hj with ⟨h3, rfl⟩ | ⟨rfl, h4, -⟩
      · simp only at he
        omega
      · rfl
  · rcases fw_WL_get' hk with ⟨-, rfl⟩ | ⟨-, h2, -⟩
    · exact Nat.le_add_right B k
    · exact Nat.le_trans (Nat.le_add_right B 497) h2
theorem fw_xr_cg {g : fw_G} {B : Nat} {M M' : fw_M} (h : ∀ a, B + 497 ≤ a → M'.1 a = M.1 a) : fw_xr g B M' = fw_xr g B M := by
  unfold fw_xr
  split
  · rfl
  · rw [h _ (Nat.le_add_right _ _)]
theorem fw_WL_set {g : fw_G} {B : Nat} {M M' : fw_M} {o : Nat} {e : va_E} (h : o < 497) (he : fw_ct g B M' o = e) (hn : ∀ o', o' < 497 → o' ≠ o → fw_ct g B M' o' = fw_ct g B M o') (hx : ∀ a, B + 497 ≤ a → M'.1 a = M.1 a) : (fw_WL g B M).set o (B + o, e) = fw_WL g B M' := by
  subst he
  unfold fw_WL
  rw [List.set_append_left _ _ (by rw [fw_W0_len]; exact h), fw_xr_cg hx]
  congr 1
  apply List.ext_getElem?
  intro k
  rw [List.getElem?_set]
  by_cases hk : o = k
  · subst hk
    rw [if_pos rfl, fw_W0_get h, if_pos (by rw [fw_W0_len]; exact h)]
  · rw [if_neg hk]
    rcases Nat.lt_or_ge k 497 with q | q
    · rw [fw_W0_get q, fw_W0_get q, hn k q (fun z => hk z.symm)]
    · rw [List.getElem?_eq_none (by rw [fw_W0_len]; exact q), List.getElem?_eq_none (by rw [fw_W0_len]; exact q)]
theorem fw_fv_st {M : fw_M} {a b k : Nat} {x : Int32} (h : b ≠ a) (ci j : Nat) : fw_fv ci j b (fw_st M a k x) = fw_fv ci j b M := by
  unfold fw_fv fw_fw
  cases fw_fc ci j with
  | zero => simp only [fw_st, fw_up_ne h]
  | succ n => cases n <;> rfl
theorem fw_ct_st {g : fw_G} {B : Nat} {M : fw_M} {o o' k : Nat} {x : Int32} (h : o' ≠ o) : fw_ct g B (fw_st M (B + o) k x) o' = fw_ct g B M o' := by
  have hb : B + o' ≠ B + o := by omega
  unfold fw_ct fw_fs
  simp only [fw_fv_st hb]
  rw [show (fw_st M (B + o) k x).1 (B + o') = M.1 (B + o') from fw_up_ne hb]
theorem fw_fs_get {ci a k : Nat} {M : fw_M} (h : k < fw_nf ci) : (fw_fs ci a M)[k]? = some (fw_fv ci k a M) := by
  unfold fw_fs
  rw [List.getElem?_map, List.getElem?_range h]
  rfl
theorem fw_fs_len {ci a : Nat} {M : fw_M} : (fw_fs ci a M).length = fw_nf ci := by simp [fw_fs]
theorem fw_fs_set {ci a k : Nat} {M M' : fw_M} {v : Value} (h : k < fw_nf ci) (hv : fw_fv ci k a M' = v) (hn : ∀ j, j ≠ k → fw_fv ci j a M' = fw_fv ci j a M) : (fw_fs ci a M).set k v = fw_fs ci a M' := by
  subst hv
  apply List.ext_getElem?
  intro j
  rw [List.getElem?_set]
  by_cases hk : k = j
  · subst hk
    rw [if_pos rfl, fw_fs_get h, if_pos (by rw [fw_fs_len]; exact h)]
  · rw [if_neg hk]
    rcases Nat.lt_or_ge j (fw_nf ci) with q | q
    · rw [fw_fs_get q, fw_fs_get q, hn j (fun z => hk z.symm)]
    · rw [List.getElem?_eq_none (by rw [fw_fs_len]; exact q), List.getElem?_eq_none (by rw [fw_fs_len]; exact q)]
theorem fw_ct_obj {g : fw_G} {B o ci : Nat} {M : fw_M} (h : fw_ko o = ci) (hc : ci < 6) : fw_ct g B M o = .inr (ci, fw_fs ci (B + o) M) := by
  subst h
  unfold fw_ct
  rw [if_pos hc]
theorem fw_ct_7 {g : fw_G} {B o : Nat} {M : fw_M} (h : fw_ko o = 7) : fw_ct g B M o = .inl (g.2.1 0, fw_lo o, .inl (M.1 (B + o))) := by
  unfold fw_ct
  rw [if_neg (by omega), if_pos h]
theorem fw_ct_8 {g : fw_G} {B o : Nat} {M : fw_M} (h : fw_ko o = 8) : fw_ct g B M o = .inl (g.2.1 1, 6, .inr (.inr (.inr (.inr (fun j => some (fw_el 8 (B + o) j)))))) := by
  unfold fw_ct
  rw [if_neg (by omega), if_neg (by omega), if_pos h]
theorem fw_ct_9 {g : fw_G} {B o : Nat} {M : fw_M} (h : fw_ko o = 9) : fw_ct g B M o = .inl (g.2.1 2, 4, .inr (.inr (.inr (.inr (fun j => some (fw_el 9 (B + o) j)))))) := by
  unfold fw_ct
  rw [if_neg (by omega), if_neg (by omega), if_neg (by omega), if_pos h]
theorem fw_ct_10 {g : fw_G} {B o : Nat} {M : fw_M} (h : fw_ko o = 10) : fw_ct g B M o = .inl (g.2.1 3, 24, .inr (.inr (.inr (.inr (fun j => some (fw_el 10 (B + o) j)))))) := by
  unfold fw_ct
  rw [if_neg (by omega), if_neg (by omega), if_neg (by omega), if_neg (by omega), if_pos h]
theorem fw_fv_put {M : fw_M} {ci k a : Nat} {x : Int32} (h : fw_fc ci k = 0) : fw_fv ci k a (fw_st M a k x) = .int x := by
  unfold fw_fv
  rw [h]
  show Value.int (fw_up M.1 a k x a k) = _
  rw [fw_up_same]
  simp [upd]
theorem fw_fv_putn {M : fw_M} {ci k a j : Nat} {x : Int32} (h : j ≠ k) : fw_fv ci j a (fw_st M a k x) = fw_fv ci j a M := by
  unfold fw_fv fw_fw
  cases fw_fc ci j with
  | zero =>
    show Value.int (fw_up M.1 a k x a j) = _
    rw [fw_up_same]
    simp [upd, h]
  | succ n => cases n <;> rfl
/-- a field is written -/
theorem fw_put {g : fw_G} {B o ci k : Nat} {M : fw_M} {x : Int32} (ho : o < 497) (h : fw_ko o = ci) (hc : ci < 6) (hk : k < fw_nf ci) (hf : fw_fc ci k = 0) :
    (fw_WL g B M).set o (B + o, .inr (ci, (fw_fs ci (B + o) M).set k (.int x))) = fw_WL g B (fw_st M (B + o) k x) := by
  refine fw_WL_set ho ?_ (fun o' _ hn => fw_ct_st hn) (fun a ha => fw_up_ne (by omega))
  rw [fw_ct_obj h hc, fw_fs_set hk (fw_fv_put hf) (fun j hj => fw_fv_putn hj)]
/-- a place of a row of ints is written -/
theorem fw_ast {g : fw_G} {B o k : Nat} {M : fw_M} {x : Int32} (ho : o < 497) (h : fw_ko o = 7) :
    (fw_WL g B M).set o (B + o, .inl (g.2.1 0, fw_lo o, .inl (upd (M.1 (B + o)) k x))) = fw_WL g B (fw_st M (B + o) k x) := by
  refine fw_WL_set ho ?_ (fun o' _ hn => fw_ct_st hn) (fun a ha => fw_up_ne (by omega))
  rw [fw_ct_7 h, show (fw_st M (B + o) k x).1 (B + o) = upd (M.1 (B + o)) k x from fw_up_same]
/-- the row beside is written -/
theorem fw_ct_x {g : fw_G} {B a k o : Nat} {M : fw_M} {x : Int32} (ha : B + 497 ≤ a) (ho : o < 497) : fw_ct g B (fw_st M a k x) o = fw_ct g B M o := by
  have hb : B + o ≠ a := by omega
  unfold fw_ct fw_fs
  simp only [fw_fv_st hb]
  rw [show (fw_st M a k x).1 (B + o) = M.1 (B + o) from fw_up_ne hb]
theorem fw_WL_x {g : fw_G} {B n : Nat} {M : fw_M} (hg : g.2.2 = n + 1) : (fw_WL g B M)[497]? = some (B + 497 + n, .inl (g.2.1 0, 4, .inl (M.1 (B + 497 + n)))) := by
  unfold fw_WL
  rw [List.getElem?_append_right (by rw [fw_W0_len]; exact Nat.le_refl _), fw_W0_len]
  unfold fw_xr
  rw [hg]
  rfl
theorem fw_xast {g : fw_G} {B n k : Nat} {M : fw_M} {x : Int32} (hg : g.2.2 = n + 1) :
    (fw_WL g B M).set 497 (B + 497 + n, .inl (g.2.1 0, 4, .inl (upd (M.1 (B + 497 + n)) k x))) = fw_WL g B (fw_st M (B + 497 + n) k x) := by
  have e0 : fw_W0 g B (fw_st M (B + 497 + n) k x) = fw_W0 g B M := by
    unfold fw_W0
    refine List.map_congr_left (fun o ho => ?_)
    rw [fw_ct_x (by omega) (List.mem_range.mp ho)]
  unfold fw_WL
  rw [List.set_append_right _ _ (by rw [fw_W0_len]; exact Nat.le_refl _), fw_W0_len, e0]
  congr 1
  unfold fw_xr
  rw [hg]
  show [_] = [_]
  rw [show (fw_st M (B + 497 + n) k x).1 (B + 497 + n) = upd (M.1 (B + 497 + n)) k x from fw_up_same]
end FW

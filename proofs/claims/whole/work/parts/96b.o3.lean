/-! what a call tells: 0, 1 or 2 -/
section O3
theorem o3_addCourier {x y : Int32} {Z : Zs} : ((opAdd x y) Z).1 = 0 ∨ ((opAdd x y) Z).1 = 1 ∨ ((opAdd x y) Z).1 = 2 := by
  unfold opAdd
  split <;> (try split) <;> first | exact Or.inl rfl | exact Or.inr (Or.inl rfl) | exact Or.inr (Or.inr rfl)
theorem o3_setArea {x y : Int32} {Z : Zs} : ((opArea x y) Z).1 = 0 ∨ ((opArea x y) Z).1 = 1 ∨ ((opArea x y) Z).1 = 2 := by
  unfold opArea
  split <;> (try split) <;> first | exact Or.inl rfl | exact Or.inr (Or.inl rfl) | exact Or.inr (Or.inr rfl)
theorem o3_give {x y z u : Int32} {Z : Zs} : ((opGive x y z u) Z).1 = 0 ∨ ((opGive x y z u) Z).1 = 1 ∨ ((opGive x y z u) Z).1 = 2 := by
  unfold opGive
  split <;> (try split) <;> first | exact Or.inl rfl | exact Or.inr (Or.inl rfl) | exact Or.inr (Or.inr rfl)
theorem o3_setGrace {x : Int32} {Z : Zs} : ((opGrace x) Z).1 = 0 ∨ ((opGrace x) Z).1 = 1 ∨ ((opGrace x) Z).1 = 2 := by
  unfold opGrace
  split <;> (try split) <;> first | exact Or.inl rfl | exact Or.inr (Or.inl rfl) | exact Or.inr (Or.inr rfl)
theorem o3_drop {x : Int32} {Z : Zs} : ((opDrop x) Z).1 = 0 ∨ ((opDrop x) Z).1 = 1 ∨ ((opDrop x) Z).1 = 2 := by
  unfold opDrop
  split <;> (try split) <;> first | exact Or.inl rfl | exact Or.inr (Or.inl rfl) | exact Or.inr (Or.inr rfl)
theorem o3_run {x : Int32} {Z : Zs} : ((opRun x) Z).1 = 0 ∨ ((opRun x) Z).1 = 1 ∨ ((opRun x) Z).1 = 2 := by
  unfold opRun
  split <;> (try split) <;> first | exact Or.inl rfl | exact Or.inr (Or.inl rfl) | exact Or.inr (Or.inr rfl)
theorem o3_value {x : Int32} {Z : Zs} : ((opValue x) Z).1 = 0 ∨ ((opValue x) Z).1 = 1 ∨ ((opValue x) Z).1 = 2 := by
  unfold opValue
  split <;> (try split) <;> first | exact Or.inl rfl | exact Or.inr (Or.inl rfl) | exact Or.inr (Or.inr rfl)
theorem o3_courier {x y : Int32} {Z : Zs} : ((opCourier x y) Z).1 = 0 ∨ ((opCourier x y) Z).1 = 1 ∨ ((opCourier x y) Z).1 = 2 := by
  unfold opCourier
  split <;> (try split) <;> first | exact Or.inl rfl | exact Or.inr (Or.inl rfl) | exact Or.inr (Or.inr rfl)
theorem o3_parcel {x y : Int32} {Z : Zs} : ((opParcel x y) Z).1 = 0 ∨ ((opParcel x y) Z).1 = 1 ∨ ((opParcel x y) Z).1 = 2 := by
  unfold opParcel
  split <;> (try split) <;> first | exact Or.inl rfl | exact Or.inr (Or.inl rfl) | exact Or.inr (Or.inr rfl)
theorem o3_legs {x y z : Int32} {Z : Zs} : ((opLegs x y z) Z).1 = 0 ∨ ((opLegs x y z) Z).1 = 1 ∨ ((opLegs x y z) Z).1 = 2 := by
  unfold opLegs
  split <;> (try split) <;> first | exact Or.inl rfl | exact Or.inr (Or.inl rfl) | exact Or.inr (Or.inr rfl)
theorem o3_distance {x y : Int32} {Z : Zs} : ((opDist x y) Z).1 = 0 ∨ ((opDist x y) Z).1 = 1 ∨ ((opDist x y) Z).1 = 2 := by
  unfold opDist
  split <;> (try split) <;> first | exact Or.inl rfl | exact Or.inr (Or.inl rfl) | exact Or.inr (Or.inr rfl)
theorem o3_suited {x : Int32} {Z : Zs} : ((opSuited x) Z).1 = 0 ∨ ((opSuited x) Z).1 = 1 ∨ ((opSuited x) Z).1 = 2 := by
  unfold opSuited
  split <;> (try split) <;> first | exact Or.inl rfl | exact Or.inr (Or.inl rfl) | exact Or.inr (Or.inr rfl)
theorem o3_leastRelay {x : Int32} {Z : Zs} : ((opRelay x) Z).1 = 0 ∨ ((opRelay x) Z).1 = 1 ∨ ((opRelay x) Z).1 = 2 := by
  unfold opRelay
  split <;> (try split) <;> first | exact Or.inl rfl | exact Or.inr (Or.inl rfl) | exact Or.inr (Or.inr rfl)
theorem o3_paidIn {x : Int32} {Z : Zs} : ((opPaid x) Z).1 = 0 ∨ ((opPaid x) Z).1 = 1 ∨ ((opPaid x) Z).1 = 2 := by
  unfold opPaid
  split <;> (try split) <;> first | exact Or.inl rfl | exact Or.inr (Or.inl rfl) | exact Or.inr (Or.inr rfl)
theorem o3_bestZone {x y : Int32} {Z : Zs} : ((opBest x y) Z).1 = 0 ∨ ((opBest x y) Z).1 = 1 ∨ ((opBest x y) Z).1 = 2 := by
  unfold opBest
  split <;> (try split) <;> first | exact Or.inl rfl | exact Or.inr (Or.inl rfl) | exact Or.inr (Or.inr rfl)
theorem o3_worth {x y : Int32} {Z : Zs} : ((opWorth x y) Z).1 = 0 ∨ ((opWorth x y) Z).1 = 1 ∨ ((opWorth x y) Z).1 = 2 := by
  unfold opWorth
  split <;> (try split) <;> first | exact Or.inl rfl | exact Or.inr (Or.inl rfl) | exact Or.inr (Or.inr rfl)
theorem o3_append {x : Int32} {Z : Zs} : ((opAppend x) Z).1 = 0 ∨ ((opAppend x) Z).1 = 1 ∨ ((opAppend x) Z).1 = 2 := by
  unfold opAppend
  split <;> (try split) <;> first | exact Or.inl rfl | exact Or.inr (Or.inl rfl) | exact Or.inr (Or.inr rfl)
theorem o3_undo {Z : Zs} : (opUndo Z).1 = 0 ∨ (opUndo Z).1 = 1 ∨ (opUndo Z).1 = 2 := by
  unfold opUndo
  split <;> (try split) <;> first | exact Or.inl rfl | exact Or.inr (Or.inl rfl) | exact Or.inr (Or.inr rfl)
end O3

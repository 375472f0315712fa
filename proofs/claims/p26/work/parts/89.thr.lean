/-! THE THREE THROWS of the class -/
section TH
theorem thr_in {L : List Cond} (h : ∀ w ∈ L.filter goodWord, w ∈ lw_tbl) : ∀ w ∈ L.filter goodWord, w ∈ fw_LW := fun w hw => List.mem_filter.mpr ⟨h w hw, (List.mem_filter.mp hw).2⟩
theorem fw_thr40 {l : Launch} {g : fw_G} {B : Nat} {R : Room} {mc ms : Nat} (htr : l.stackTraces = false) (hRf : 5 < R.frames) (hRl : 81 ≤ R.locals) (hRc : 1 ≤ R.cells) (hRs : 6 ≤ R.slots) (hmc : 1 ≤ mc) (hms : 6 ≤ ms) : fw_ThrX l g B RX5 R mc ms (40, "java/lang/IllegalArgumentException") :=
  fw_thrX htr (by decide +kernel) wq_X5_40 wz_IllegalArgumentException (thr_in (by decide +kernel)) (by decide +kernel) (by decide +kernel) hRf hRl hRc hRs hmc hms
theorem fw_thr47 {l : Launch} {g : fw_G} {B : Nat} {R : Room} {mc ms : Nat} (htr : l.stackTraces = false) (hRf : 5 < R.frames) (hRl : 81 ≤ R.locals) (hRc : 1 ≤ R.cells) (hRs : 6 ≤ R.slots) (hmc : 1 ≤ mc) (hms : 6 ≤ ms) : fw_ThrX l g B RX5 R mc ms (47, "java/lang/IllegalStateException") :=
  fw_thrX htr (by decide +kernel) wq_X5_47 wz_IllegalStateException (thr_in (by decide +kernel)) (by decide +kernel) (by decide +kernel) hRf hRl hRc hRs hmc hms
theorem fw_thr62 {l : Launch} {g : fw_G} {B : Nat} {R : Room} {mc ms : Nat} (htr : l.stackTraces = false) (hRf : 5 < R.frames) (hRl : 81 ≤ R.locals) (hRc : 1 ≤ R.cells) (hRs : 6 ≤ R.slots) (hmc : 1 ≤ mc) (hms : 6 ≤ ms) : fw_ThrX l g B RX5 R mc ms (62, "java/lang/IndexOutOfBoundsException") :=
  fw_thrX htr (by decide +kernel) wq_X5_62 wz_IndexOutOfBoundsException (thr_in (by decide +kernel)) (by decide +kernel) (by decide +kernel) hRf hRl hRc hRs hmc hms
end TH

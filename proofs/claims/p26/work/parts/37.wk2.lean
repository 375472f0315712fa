/-! THE REFERENCE'S METHODS WALKED: the rest, 2 -/
section WR2
theorem n4s : fw_sd (¬ (4 : Int32) = 0) := fw_sd_i (by decide)
end WR2

/-! System.arraycopy's words -/
section ARR
theorem wl_X5_211 : Cond.methodLink RX5 211 arraycopyName ∈ fw_LW := fw_t2 92 (by decide +kernel) (by decide +kernel)
theorem ws_arraycopy : Cond.static arraycopyName ∈ fw_LW := fw_t2 93 (by decide +kernel) (by decide +kernel)
theorem wn_arraycopy : Cond.native arraycopyName ∈ fw_LW := fw_t2 94 (by decide +kernel) (by decide +kernel)
end ARR

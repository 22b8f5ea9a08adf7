/-! ===== BY RECKONING: end, a reference ===== -/
theorem nk_ref0 : nk_end (.ref 2000000) 0 11 = true := by decide +kernel
theorem nk_ref1 : nk_end (.ref 2000000) 11 10 = true := by decide +kernel

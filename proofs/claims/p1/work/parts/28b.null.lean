/-! ===== BY RECKONING: end, null ===== -/
theorem nk_null0 : nk_end .null 0 11 = true := by decide +kernel
theorem nk_null1 : nk_end .null 11 10 = true := by decide +kernel

theorem nk_null : nk_chk .null = true := by decide +kernel

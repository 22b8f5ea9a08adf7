theorem nk_ref : nk_chk (.ref 2000000) = true := by decide +kernel

set_option maxRecDepth 100000 in
theorem chk_373 : chkM 373 = true := by decide +kernel

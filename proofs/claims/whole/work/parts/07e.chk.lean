set_option maxRecDepth 100000 in
theorem chk_227 : chkM 227 = true := by decide +kernel

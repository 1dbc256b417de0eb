set_option maxRecDepth 100000 in
theorem chkB_373_0 : chk 373 (lpc 373 0) (blk 373 0) = true := by decide +kernel
set_option maxRecDepth 100000 in
theorem chkB_373_1 : chk 373 (lpc 373 1) (blk 373 1) = true := by decide +kernel
set_option maxRecDepth 100000 in
theorem chkB_373_2 : chk 373 (lpc 373 2) (blk 373 2) = true := by decide +kernel
set_option maxRecDepth 100000 in
theorem chkB_373_3 : chk 373 (lpc 373 3) (blk 373 3) = true := by decide +kernel
set_option maxRecDepth 100000 in
theorem chkB_373_4 : chk 373 (lpc 373 4) (blk 373 4) = true := by decide +kernel
set_option maxRecDepth 100000 in
theorem chkB_373_5 : chk 373 (lpc 373 5) (blk 373 5) = true := by decide +kernel
set_option maxRecDepth 100000 in
theorem chkB_373_6 : chk 373 (lpc 373 6) (blk 373 6) = true := by decide +kernel
set_option maxRecDepth 100000 in
theorem chkB_373_7 : chk 373 (lpc 373 7) (blk 373 7) = true := by decide +kernel
set_option maxRecDepth 100000 in
theorem chkB_373_8 : chk 373 (lpc 373 8) (blk 373 8) = true := by decide +kernel
set_option maxRecDepth 100000 in
theorem chkB_373_9 : chk 373 (lpc 373 9) (blk 373 9) = true := by decide +kernel
set_option maxRecDepth 100000 in
theorem chkB_373_10 : chk 373 (lpc 373 10) (blk 373 10) = true := by decide +kernel
set_option maxRecDepth 100000 in
theorem chkB_373_11 : chk 373 (lpc 373 11) (blk 373 11) = true := by decide +kernel
set_option maxRecDepth 100000 in
theorem chkB_373_12 : chk 373 (lpc 373 12) (blk 373 12) = true := by decide +kernel
set_option maxRecDepth 100000 in
theorem chkB_373_13 : chk 373 (lpc 373 13) (blk 373 13) = true := by decide +kernel
set_option maxRecDepth 100000 in
theorem chkB_373_14 : chk 373 (lpc 373 14) (blk 373 14) = true := by decide +kernel
set_option maxRecDepth 100000 in
theorem chkB_373_15 : chk 373 (lpc 373 15) (blk 373 15) = true := by decide +kernel
set_option maxRecDepth 100000 in
theorem chkB_373_16 : chk 373 (lpc 373 16) (blk 373 16) = true := by decide +kernel
set_option maxRecDepth 100000 in
theorem chkB_373_17 : chk 373 (lpc 373 17) (blk 373 17) = true := by decide +kernel
set_option maxRecDepth 100000 in
theorem chkB_373_18 : chk 373 (lpc 373 18) (blk 373 18) = true := by decide +kernel
set_option maxRecDepth 100000 in
theorem chkB_373_19 : chk 373 (lpc 373 19) (blk 373 19) = true := by decide +kernel
set_option maxRecDepth 100000 in
theorem chkB_373_20 : chk 373 (lpc 373 20) (blk 373 20) = true := by decide +kernel
set_option maxRecDepth 100000 in
theorem chkB_373_21 : chk 373 (lpc 373 21) (blk 373 21) = true := by decide +kernel
set_option maxRecDepth 100000 in
theorem chkB_373_22 : chk 373 (lpc 373 22) (blk 373 22) = true := by decide +kernel
set_option maxRecDepth 100000 in
theorem chkB_373_23 : chk 373 (lpc 373 23) (blk 373 23) = true := by decide +kernel
set_option maxRecDepth 100000 in
theorem chkB_373_24 : chk 373 (lpc 373 24) (blk 373 24) = true := by decide +kernel
set_option maxRecDepth 100000 in
theorem chkB_373_25 : chk 373 (lpc 373 25) (blk 373 25) = true := by decide +kernel
set_option maxRecDepth 100000 in
theorem chkB_373_26 : chk 373 (lpc 373 26) (blk 373 26) = true := by decide +kernel
set_option maxRecDepth 100000 in
theorem chkB_373_27 : chk 373 (lpc 373 27) (blk 373 27) = true := by decide +kernel
set_option maxRecDepth 100000 in
theorem chkB_373_28 : chk 373 (lpc 373 28) (blk 373 28) = true := by decide +kernel
set_option maxRecDepth 100000 in
theorem chkB_373_29 : chk 373 (lpc 373 29) (blk 373 29) = true := by decide +kernel
set_option maxRecDepth 100000 in
theorem chkB_373_30 : chk 373 (lpc 373 30) (blk 373 30) = true := by decide +kernel
set_option maxRecDepth 100000 in
theorem chkB_373_31 : chk 373 (lpc 373 31) (blk 373 31) = true := by decide +kernel
set_option maxRecDepth 100000 in
theorem chkB_373_32 : chk 373 (lpc 373 32) (blk 373 32) = true := by decide +kernel
set_option maxRecDepth 100000 in
theorem chkB_373_33 : chk 373 (lpc 373 33) (blk 373 33) = true := by decide +kernel
set_option maxRecDepth 100000 in
theorem chkB_373_34 : chk 373 (lpc 373 34) (blk 373 34) = true := by decide +kernel
set_option maxRecDepth 100000 in
theorem chkB_373_35 : chk 373 (lpc 373 35) (blk 373 35) = true := by decide +kernel
set_option maxRecDepth 100000 in
theorem chkB_373_36 : chk 373 (lpc 373 36) (blk 373 36) = true := by decide +kernel
set_option maxRecDepth 100000 in
theorem chkB_373_37 : chk 373 (lpc 373 37) (blk 373 37) = true := by decide +kernel
set_option maxRecDepth 100000 in
theorem chkB_373_38 : chk 373 (lpc 373 38) (blk 373 38) = true := by decide +kernel
set_option maxRecDepth 100000 in
theorem chkB_373_39 : chk 373 (lpc 373 39) (blk 373 39) = true := by decide +kernel
set_option maxRecDepth 100000 in
theorem chkB_373_40 : chk 373 (lpc 373 40) (blk 373 40) = true := by decide +kernel
set_option maxRecDepth 100000 in
theorem chkB_373_41 : chk 373 (lpc 373 41) (blk 373 41) = true := by decide +kernel
set_option maxRecDepth 100000 in
theorem chkB_373_42 : chk 373 (lpc 373 42) (blk 373 42) = true := by decide +kernel
set_option maxRecDepth 100000 in
theorem chkB_373_43 : chk 373 (lpc 373 43) (blk 373 43) = true := by decide +kernel
set_option maxRecDepth 100000 in
theorem chkB_373_44 : chk 373 (lpc 373 44) (blk 373 44) = true := by decide +kernel
set_option maxRecDepth 100000 in
theorem chkB_373_45 : chk 373 (lpc 373 45) (blk 373 45) = true := by decide +kernel
set_option maxRecDepth 100000 in
theorem chkB_373_46 : chk 373 (lpc 373 46) (blk 373 46) = true := by decide +kernel
set_option maxRecDepth 100000 in
theorem chkB_373_47 : chk 373 (lpc 373 47) (blk 373 47) = true := by decide +kernel
theorem chk_373 : chkM 373 = true := chkM_of (N := 48) rfl (ltP_s (ltP_s (ltP_s (ltP_s (ltP_s (ltP_s (ltP_s (ltP_s (ltP_s (ltP_s (ltP_s (ltP_s (ltP_s (ltP_s (ltP_s (ltP_s (ltP_s (ltP_s (ltP_s (ltP_s (ltP_s (ltP_s (ltP_s (ltP_s (ltP_s (ltP_s (ltP_s (ltP_s (ltP_s (ltP_s (ltP_s (ltP_s (ltP_s (ltP_s (ltP_s (ltP_s (ltP_s (ltP_s (ltP_s (ltP_s (ltP_s (ltP_s (ltP_s (ltP_s (ltP_s (ltP_s (ltP_s (ltP_s (ltP_0) chkB_373_0) chkB_373_1) chkB_373_2) chkB_373_3) chkB_373_4) chkB_373_5) chkB_373_6) chkB_373_7) chkB_373_8) chkB_373_9) chkB_373_10) chkB_373_11) chkB_373_12) chkB_373_13) chkB_373_14) chkB_373_15) chkB_373_16) chkB_373_17) chkB_373_18) chkB_373_19) chkB_373_20) chkB_373_21) chkB_373_22) chkB_373_23) chkB_373_24) chkB_373_25) chkB_373_26) chkB_373_27) chkB_373_28) chkB_373_29) chkB_373_30) chkB_373_31) chkB_373_32) chkB_373_33) chkB_373_34) chkB_373_35) chkB_373_36) chkB_373_37) chkB_373_38) chkB_373_39) chkB_373_40) chkB_373_41) chkB_373_42) chkB_373_43) chkB_373_44) chkB_373_45) chkB_373_46) chkB_373_47)

set_option maxRecDepth 100000 in
theorem chkE_227_0 : chkE 227 0 ((k_MO_init_0.drop 0).take 60) = some 89 := by decide +kernel
set_option maxRecDepth 100000 in
theorem chkE_227_1 : chkE 227 89 ((k_MO_init_0.drop 60).take 60) = some 171 := by decide +kernel
set_option maxRecDepth 100000 in
theorem chkE_227_2 : chkE 227 171 ((k_MO_init_0.drop 120).take 60) = some 252 := by decide +kernel
set_option maxRecDepth 100000 in
theorem chkE_227_3 : chkE 227 252 ((k_MO_init_0.drop 180).take 60) = some 333 := by decide +kernel
set_option maxRecDepth 100000 in
theorem chkE_227_4 : chkE 227 333 ((k_MO_init_0.drop 240).take 60) = some 414 := by decide +kernel
set_option maxRecDepth 100000 in
theorem chkE_227_5 : chkE 227 414 ((k_MO_init_0.drop 300).take 60) = some 498 := by decide +kernel
set_option maxRecDepth 100000 in
theorem chkE_227_6 : chkE 227 498 ((k_MO_init_0.drop 360).take 60) = some 617 := by decide +kernel
set_option maxRecDepth 100000 in
theorem chkE_227_7 : chkE 227 617 ((k_MO_init_0.drop 420).take 60) = some 732 := by decide +kernel
set_option maxRecDepth 100000 in
theorem chkE_227_8 : chkE 227 732 ((k_MO_init_0.drop 480).take 60) = some 813 := by decide +kernel
set_option maxRecDepth 100000 in
theorem chkE_227_9 : chkE 227 813 ((k_MO_init_0.drop 540).take 60) = some 892 := by decide +kernel
set_option maxRecDepth 100000 in
theorem chkE_227_10 : chkE 227 892 ((k_MO_init_0.drop 600).take 60) = some 975 := by decide +kernel
set_option maxRecDepth 100000 in
theorem chkE_227_11 : chkE 227 975 ((k_MO_init_0.drop 660).take 60) = some 1057 := by decide +kernel
set_option maxRecDepth 100000 in
theorem chkE_227_12 : chkE 227 1057 ((k_MO_init_0.drop 720).take 60) = some 1138 := by decide +kernel
set_option maxRecDepth 100000 in
theorem chkE_227_z : chk 227 1138 (k_MO_init_0.drop 780) = true := by decide +kernel
theorem chkD_227_12 : chk 227 1057 (k_MO_init_0.drop 720) = true := by rw [chk_drop 60 chkE_227_12, List.drop_drop]; exact chkE_227_z
theorem chkD_227_11 : chk 227 975 (k_MO_init_0.drop 660) = true := by rw [chk_drop 60 chkE_227_11, List.drop_drop]; exact chkD_227_12
theorem chkD_227_10 : chk 227 892 (k_MO_init_0.drop 600) = true := by rw [chk_drop 60 chkE_227_10, List.drop_drop]; exact chkD_227_11
theorem chkD_227_9 : chk 227 813 (k_MO_init_0.drop 540) = true := by rw [chk_drop 60 chkE_227_9, List.drop_drop]; exact chkD_227_10
theorem chkD_227_8 : chk 227 732 (k_MO_init_0.drop 480) = true := by rw [chk_drop 60 chkE_227_8, List.drop_drop]; exact chkD_227_9
theorem chkD_227_7 : chk 227 617 (k_MO_init_0.drop 420) = true := by rw [chk_drop 60 chkE_227_7, List.drop_drop]; exact chkD_227_8
theorem chkD_227_6 : chk 227 498 (k_MO_init_0.drop 360) = true := by rw [chk_drop 60 chkE_227_6, List.drop_drop]; exact chkD_227_7
theorem chkD_227_5 : chk 227 414 (k_MO_init_0.drop 300) = true := by rw [chk_drop 60 chkE_227_5, List.drop_drop]; exact chkD_227_6
theorem chkD_227_4 : chk 227 333 (k_MO_init_0.drop 240) = true := by rw [chk_drop 60 chkE_227_4, List.drop_drop]; exact chkD_227_5
theorem chkD_227_3 : chk 227 252 (k_MO_init_0.drop 180) = true := by rw [chk_drop 60 chkE_227_3, List.drop_drop]; exact chkD_227_4
theorem chkD_227_2 : chk 227 171 (k_MO_init_0.drop 120) = true := by rw [chk_drop 60 chkE_227_2, List.drop_drop]; exact chkD_227_3
theorem chkD_227_1 : chk 227 89 (k_MO_init_0.drop 60) = true := by rw [chk_drop 60 chkE_227_1, List.drop_drop]; exact chkD_227_2
theorem chkD_227_0 : chk 227 0 (k_MO_init_0.drop 0) = true := by rw [chk_drop 60 chkE_227_0, List.drop_drop]; exact chkD_227_1
theorem chk_227 : chkM 227 = true := chkM_of (N := 1) rfl (ltP_s ltP_0 (show chk 227 (lpc 227 0) (blk 227 0) = true from chkD_227_0))

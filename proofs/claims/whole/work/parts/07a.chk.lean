/-! THE CHECK, proofs 1 -/
set_option maxRecDepth 100000 in
theorem chk_0 : chkM 0 = true := by decide +kernel
set_option maxRecDepth 100000 in
theorem chk_1 : chkM 1 = true := by decide +kernel
set_option maxRecDepth 100000 in
theorem chk_2 : chkM 2 = true := by decide +kernel
set_option maxRecDepth 100000 in
theorem chk_3 : chkM 3 = true := by decide +kernel
set_option maxRecDepth 100000 in
theorem chk_4 : chkM 4 = true := by decide +kernel
set_option maxRecDepth 100000 in
theorem chk_5 : chkM 5 = true := by decide +kernel
set_option maxRecDepth 100000 in
theorem chk_6 : chkM 6 = true := by decide +kernel
set_option maxRecDepth 100000 in
theorem chk_7 : chkM 7 = true := by decide +kernel
set_option maxRecDepth 100000 in
theorem chk_8 : chkM 8 = true := by decide +kernel
set_option maxRecDepth 100000 in
theorem chk_9 : chkM 9 = true := by decide +kernel
set_option maxRecDepth 100000 in
theorem chk_10 : chkM 10 = true := by decide +kernel
set_option maxRecDepth 100000 in
theorem chk_11 : chkM 11 = true := by decide +kernel
set_option maxRecDepth 100000 in
theorem chk_12 : chkM 12 = true := by decide +kernel
set_option maxRecDepth 100000 in
theorem chk_13 : chkM 13 = true := by decide +kernel
set_option maxRecDepth 100000 in
theorem chk_14 : chkM 14 = true := by decide +kernel
set_option maxRecDepth 100000 in
theorem chk_15 : chkM 15 = true := by decide +kernel
set_option maxRecDepth 100000 in
theorem chk_16 : chkM 16 = true := by decide +kernel
set_option maxRecDepth 100000 in
theorem chk_17 : chkM 17 = true := by decide +kernel
set_option maxRecDepth 100000 in
theorem chk_18 : chkM 18 = true := by decide +kernel
set_option maxRecDepth 100000 in
theorem chk_19 : chkM 19 = true := by decide +kernel
set_option maxRecDepth 100000 in
theorem chk_20 : chkM 20 = true := by decide +kernel
set_option maxRecDepth 100000 in
theorem chk_21 : chkM 21 = true := by decide +kernel
set_option maxRecDepth 100000 in
theorem chk_22 : chkM 22 = true := by decide +kernel
set_option maxRecDepth 100000 in
theorem chk_23 : chkM 23 = true := by decide +kernel
set_option maxRecDepth 100000 in
theorem chk_24 : chkM 24 = true := by decide +kernel
set_option maxRecDepth 100000 in
theorem chk_25 : chkM 25 = true := by decide +kernel
set_option maxRecDepth 100000 in
theorem chk_26 : chkM 26 = true := by decide +kernel
set_option maxRecDepth 100000 in
theorem chk_27 : chkM 27 = true := by decide +kernel
set_option maxRecDepth 100000 in
theorem chk_28 : chkM 28 = true := by decide +kernel
set_option maxRecDepth 100000 in
theorem chk_29 : chkM 29 = true := by decide +kernel
set_option maxRecDepth 100000 in
theorem chk_30 : chkM 30 = true := by decide +kernel
set_option maxRecDepth 100000 in
theorem chk_31 : chkM 31 = true := by decide +kernel
set_option maxRecDepth 100000 in
theorem chk_32 : chkM 32 = true := by decide +kernel
set_option maxRecDepth 100000 in
theorem chk_33 : chkM 33 = true := by decide +kernel
set_option maxRecDepth 100000 in
theorem chk_34 : chkM 34 = true := by decide +kernel
set_option maxRecDepth 100000 in
theorem chk_35 : chkM 35 = true := by decide +kernel
set_option maxRecDepth 100000 in
theorem chk_36 : chkM 36 = true := by decide +kernel
set_option maxRecDepth 100000 in
theorem chk_37 : chkM 37 = true := by decide +kernel
set_option maxRecDepth 100000 in
theorem chk_38 : chkM 38 = true := by decide +kernel
set_option maxRecDepth 100000 in
theorem chk_39 : chkM 39 = true := by decide +kernel
set_option maxRecDepth 100000 in
theorem chk_40 : chkM 40 = true := by decide +kernel
set_option maxRecDepth 100000 in
theorem chk_41 : chkM 41 = true := by decide +kernel
set_option maxRecDepth 100000 in
theorem chk_42 : chkM 42 = true := by decide +kernel
set_option maxRecDepth 100000 in
theorem chk_43 : chkM 43 = true := by decide +kernel
set_option maxRecDepth 100000 in
theorem chk_44 : chkM 44 = true := by decide +kernel
set_option maxRecDepth 100000 in
theorem chk_45 : chkM 45 = true := by decide +kernel
set_option maxRecDepth 100000 in
theorem chk_46 : chkM 46 = true := by decide +kernel
set_option maxRecDepth 100000 in
theorem chk_47 : chkM 47 = true := by decide +kernel
set_option maxRecDepth 100000 in
theorem chk_48 : chkM 48 = true := by decide +kernel
set_option maxRecDepth 100000 in
theorem chk_49 : chkM 49 = true := by decide +kernel
set_option maxRecDepth 100000 in
theorem chk_50 : chkM 50 = true := by decide +kernel
set_option maxRecDepth 100000 in
theorem chk_51 : chkM 51 = true := by decide +kernel
set_option maxRecDepth 100000 in
theorem chk_52 : chkM 52 = true := by decide +kernel
set_option maxRecDepth 100000 in
theorem chk_53 : chkM 53 = true := by decide +kernel
set_option maxRecDepth 100000 in
theorem chk_54 : chkM 54 = true := by decide +kernel
set_option maxRecDepth 100000 in
theorem chk_55 : chkM 55 = true := by decide +kernel
set_option maxRecDepth 100000 in
theorem chk_56 : chkM 56 = true := by decide +kernel
set_option maxRecDepth 100000 in
theorem chk_57 : chkM 57 = true := by decide +kernel
set_option maxRecDepth 100000 in
theorem chk_58 : chkM 58 = true := by decide +kernel
set_option maxRecDepth 100000 in
theorem chk_59 : chkM 59 = true := by decide +kernel
set_option maxRecDepth 100000 in
theorem chk_60 : chkM 60 = true := by decide +kernel
set_option maxRecDepth 100000 in
theorem chk_61 : chkM 61 = true := by decide +kernel
set_option maxRecDepth 100000 in
theorem chk_62 : chkM 62 = true := by decide +kernel
set_option maxRecDepth 100000 in
theorem chk_63 : chkM 63 = true := by decide +kernel
set_option maxRecDepth 100000 in
theorem chk_64 : chkM 64 = true := by decide +kernel
set_option maxRecDepth 100000 in
theorem chk_65 : chkM 65 = true := by decide +kernel
set_option maxRecDepth 100000 in
theorem chk_66 : chkM 66 = true := by decide +kernel
set_option maxRecDepth 100000 in
theorem chk_67 : chkM 67 = true := by decide +kernel
set_option maxRecDepth 100000 in
theorem chk_68 : chkM 68 = true := by decide +kernel
set_option maxRecDepth 100000 in
theorem chk_69 : chkM 69 = true := by decide +kernel
set_option maxRecDepth 100000 in
theorem chk_70 : chkM 70 = true := by decide +kernel
set_option maxRecDepth 100000 in
theorem chk_71 : chkM 71 = true := by decide +kernel
set_option maxRecDepth 100000 in
theorem chk_72 : chkM 72 = true := by decide +kernel
set_option maxRecDepth 100000 in
theorem chk_73 : chkM 73 = true := by decide +kernel
set_option maxRecDepth 100000 in
theorem chk_74 : chkM 74 = true := by decide +kernel
set_option maxRecDepth 100000 in
theorem chk_75 : chkM 75 = true := by decide +kernel
set_option maxRecDepth 100000 in
theorem chk_76 : chkM 76 = true := by decide +kernel
set_option maxRecDepth 100000 in
theorem chk_77 : chkM 77 = true := by decide +kernel
set_option maxRecDepth 100000 in
theorem chk_78 : chkM 78 = true := by decide +kernel
set_option maxRecDepth 100000 in
theorem chk_79 : chkM 79 = true := by decide +kernel
set_option maxRecDepth 100000 in
theorem chk_80 : chkM 80 = true := by decide +kernel
set_option maxRecDepth 100000 in
theorem chk_81 : chkM 81 = true := by decide +kernel
set_option maxRecDepth 100000 in
theorem chk_82 : chkM 82 = true := by decide +kernel
set_option maxRecDepth 100000 in
theorem chk_83 : chkM 83 = true := by decide +kernel
set_option maxRecDepth 100000 in
theorem chk_84 : chkM 84 = true := by decide +kernel
set_option maxRecDepth 100000 in
theorem chk_85 : chkM 85 = true := by decide +kernel
set_option maxRecDepth 100000 in
theorem chk_86 : chkM 86 = true := by decide +kernel
set_option maxRecDepth 100000 in
theorem chk_87 : chkM 87 = true := by decide +kernel
set_option maxRecDepth 100000 in
theorem chk_88 : chkM 88 = true := by decide +kernel
set_option maxRecDepth 100000 in
theorem chk_89 : chkM 89 = true := by decide +kernel
set_option maxRecDepth 100000 in
theorem chk_90 : chkM 90 = true := by decide +kernel
set_option maxRecDepth 100000 in
theorem chk_91 : chkM 91 = true := by decide +kernel
set_option maxRecDepth 100000 in
theorem chk_92 : chkM 92 = true := by decide +kernel
set_option maxRecDepth 100000 in
theorem chk_93 : chkM 93 = true := by decide +kernel
set_option maxRecDepth 100000 in
theorem chk_94 : chkM 94 = true := by decide +kernel
set_option maxRecDepth 100000 in
theorem chk_95 : chkM 95 = true := by decide +kernel
set_option maxRecDepth 100000 in
theorem chk_96 : chkM 96 = true := by decide +kernel
set_option maxRecDepth 100000 in
theorem chk_97 : chkM 97 = true := by decide +kernel
set_option maxRecDepth 100000 in
theorem chk_98 : chkM 98 = true := by decide +kernel
set_option maxRecDepth 100000 in
theorem chk_99 : chkM 99 = true := by decide +kernel

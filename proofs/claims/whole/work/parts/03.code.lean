/-! CODE (printed by a program of ours out of the claim's NAMES and Statement): the shapes of the cells, the blocks of the methods -/
def x_ic (z : Int) : AI := (1, 0, z, [])
def x_lc (z : Int) : AI := (2, 0, z, [])
def x_ldi (n : Nat) : AI := (3, n, 0, [])
def x_ldl (n : Nat) : AI := (53, n, 0, [])
def x_lda (n : Nat) : AI := (54, n, 0, [])
def x_s1i (n : Nat) : AI := (4, n, 0, [])
def x_s1a (n : Nat) : AI := (55, n, 0, [])
def x_s2 (n : Nat) : AI := (5, n, 0, [])
def x_inc (n : Nat) (z : Int) : AI := (6, n, z, [])
def x_go (n : Nat) : AI := (16, n, 0, [])
def x_fall (n : Nat) : AI := (17, n, 0, [])
def x_gi (k c : Int) : AI := (18, 0, c, [(k, 0)])
def x_gl (k c : Int) : AI := (19, 0, c, [(k, 0)])
def x_ga (k c : Int) : AI := (20, 0, c, [(k, 0)])
def x_pi (k c : Int) : AI := (21, 0, c, [(k, 0)])
def x_pl (k c : Int) : AI := (22, 0, c, [(k, 0)])
def x_pa (k c : Int) : AI := (23, 0, c, [(k, 0)])
def x_pz (k c : Int) : AI := (24, 0, c, [(k, 0)])
def x_ali : AI := (25, 0, 0, [])
def x_all : AI := (26, 0, 0, [])
def x_alb : AI := (27, 0, 0, [])
def x_alc : AI := (28, 0, 0, [])
def x_asi : AI := (29, 0, 0, [])
def x_asl : AI := (30, 0, 0, [])
def x_asb : AI := (31, 0, 0, [])
def x_asc : AI := (32, 0, 0, [])
def x_len : AI := (33, 0, 0, [])
def x_dup : AI := (34, 0, 0, [])
def x_dup2 : AI := (66, 0, 0, [])
def x_pop : AI := (67, 0, 0, [])
def x_call (m z : Nat) : AI := (35, m, z, [])
def x_call0 (m z : Nat) : AI := (37, m, z, [])
def x_calv (m z : Nat) (c : Int) : AI := (36, m, z, [(c, 0)])
def x_calv0 (m z : Nat) (c : Int) : AI := (38, m, z, [(c, 0)])
def x_cals (m z : Nat) (c : Int) : AI := (36, m, z, [(c, 1)])
def x_cals0 (m z : Nat) (c : Int) : AI := (38, m, z, [(c, 1)])
def x_ret : AI := (39, 0, 0, [])
def x_ri : AI := (40, 0, 0, [])
def x_rl : AI := (41, 0, 0, [])
def x_rz : AI := (42, 0, 0, [])
def x_new (c : Int) : AI := (43, 0, c, [])
def x_nw (t : Nat) : AI := (44, t, 0, [])
def x_sw (n : Nat) (q : List (Int × Nat)) : AI := (45, n, 0, q)
def x_lsw (n : Nat) (q : List (Int × Nat)) : AI := (45, n, 1, q)
def x_str (z : Int) : AI := (46, 0, z, [])
def x_acp : AI := (47, 0, 0, [])
def x_scl : AI := (48, 0, 0, [])
def x_scn : AI := (49, 0, 0, [])
def x_sln : AI := (50, 0, 0, [])
def x_sch : AI := (51, 0, 0, [])
def x_obj : AI := (52, 0, 0, [])
def x_iadd : AI := (7, 0, 0, [])
def x_isub : AI := (7, 1, 0, [])
def x_imul : AI := (7, 2, 0, [])
def x_iand : AI := (7, 3, 0, [])
def x_ior : AI := (7, 4, 0, [])
def x_ixor : AI := (7, 5, 0, [])
def x_ishl : AI := (7, 6, 0, [])
def x_ishr : AI := (7, 7, 0, [])
def x_iushr : AI := (7, 8, 0, [])
def x_idiv : AI := (10, 9, 0, [])
def x_irem : AI := (10, 10, 0, [])
def x_ladd : AI := (8, 0, 0, [])
def x_lsub : AI := (8, 1, 0, [])
def x_lmul : AI := (8, 2, 0, [])
def x_land : AI := (8, 3, 0, [])
def x_lor : AI := (8, 4, 0, [])
def x_lxor : AI := (8, 5, 0, [])
def x_ldiv : AI := (11, 6, 0, [])
def x_lrem : AI := (11, 7, 0, [])
def x_lshl : AI := (9, 0, 0, [])
def x_lshr : AI := (9, 1, 0, [])
def x_ineg : AI := (60, 0, 0, [])
def x_lneg : AI := (61, 0, 0, [])
def x_i2l : AI := (62, 0, 0, [])
def x_l2i : AI := (63, 0, 0, [])
def x_i2b : AI := (64, 0, 0, [])
def x_i2c : AI := (65, 0, 0, [])
def x_lcmp : AI := (13, 0, 0, [])
def x_ifeq (n : Nat) : AI := (14, n, 0, [])
def x_iceq (n : Nat) : AI := (15, n, 0, [])
def x_ifne (n : Nat) : AI := (14, n, 1, [])
def x_icne (n : Nat) : AI := (15, n, 1, [])
def x_iflt (n : Nat) : AI := (14, n, 2, [])
def x_iclt (n : Nat) : AI := (15, n, 2, [])
def x_ifge (n : Nat) : AI := (14, n, 3, [])
def x_icge (n : Nat) : AI := (15, n, 3, [])
def x_ifgt (n : Nat) : AI := (14, n, 4, [])
def x_icgt (n : Nat) : AI := (15, n, 4, [])
def x_ifle (n : Nat) : AI := (14, n, 5, [])
def x_icle (n : Nat) : AI := (15, n, 5, [])
def tb_c : List Int := [-1, 10, 8, -1, 1, 5, -1, -1, -1, -1, -1, -1, -1, -1, -1, -1, -1, -1, -1, -1, -1, -1, -1, -1, -1, 5, -1, -1, -1, -1, -1, -1, -1, -1, -1, -1, -1, -1, 6, -1, -1, -1, 3, -1, -1, 4, -1, -1, -1, -1, 0, -1, -1, -1, 7, -1, -1, -1, 9, -1, -1, -1, -1, -1, -1, -1, 2, -1, -1, -1, -1, 11, -1, -1, -1, -1, -1, -1, -1, -1, -1, -1, -1, -1, -1, -1, -1, -1, -1, -1, -1, -1, -1, -1, -1, -1, -1, -1, -1, -1, -1, -1, -1, -1, -1, -1, -1, -1, -1, -1, -1, -1, -1, -1, -1, -1, -1, -1, -1, -1, -1, -1, -1, -1, -1, -1, -1, -1, -1, -1, -1, -1, -1, -1, -1, -1, -1, -1, -1, -1]
def tb_t : List Int := [0, 0, 0, 3, 0, 0, 1, 1, 2, 1, 1, 1, 2, 1, 1, 1, 1, 1, 1, 1, 1, 1, 1, 2, 3, 0, 1, 1, 2, 1, 1, 1, 2, 1, 1, 1, 1, 1, 0, 1, 2, 2, 0, 2, 2, 0, 2, 1, 1, 1, 0, 1, 2, 2, 0, 2, 2, 2, 0, 2, 2, 2, 2, 2, 1, 1, 0, 2, 2, 2, 1, 0, 1, 1, 4, 4, 4, 4, 4, 4, 4, 4, 4, 4, 4, 4, 4, 4, 4, 4, 4, 1, 1, 1, 1, 2, 1, 1, 1, 1, 1, 1, 1, 1, 1, 1, 1, 1, 1, 2, 1, 1, 2, 1, 1, 1, 1, 1, 1, 4, 4, 4, 4, 4, 4, 4, 4, 4, 4, 4, 4, 4, 4, 4, 4, 4, 1, 1, 2, 1]
def tb_l : List Int := [0, 0, 0, 1600, 0, 0, 12, 12, 48, 72, 12, 12, 4, 96, 8, 8, 12, 12, 12, 12, 30, 30, 30, 30, 35, 0, 12, 12, 48, 72, 12, 12, 4, 96, 8, 8, 12, 12, 0, 1600, 64, 4, 0, 32, 384, 0, 12, 12, 5, 5, 0, 12, 48, 4, 0, 12, 32, 32, 0, 8, 8, 48, 56, 56, 6, 6, 0, 8631, 41, 12, 6, 0, 1600, 6, 4, 3, 5, 8, 5, 4, 3, 4, 5, 4, 2, 4, 3, 5, 5, 3, 2, 8, 24, 24, 24, 24, 24, 24, 2, 2, 8, 8, 192, 16, 16, 24, 24, 12, 30, 30, 30, 360, 8631, 12, 5, 12, 12, 6, 6, 5, 4, 5, 5, 4, 5, 3, 3, 2, 3, 3, 3, 6, 3, 4, 5, 5, 1700, 1700, 1700, 36]
/-- the class of a cell, the kind of an array's elements, its length -/
def shc (c : Int) : Int := match c with | .ofNat n => tb_c.getD n (-1) | _ => -1
def sht (c : Int) : Int := match c with | .ofNat n => tb_t.getD n 0 | _ => 0
def shl (c : Int) : Int := match c with | .ofNat n => tb_l.getD n 0 | _ => 0
theorem shc_1 : shc 1 = 10 := rfl
theorem shc_2 : shc 2 = 8 := rfl
theorem sht_3 : sht 3 = 3 := rfl
theorem shl_3 : shl 3 = 1600 := rfl
theorem shc_4 : shc 4 = 1 := rfl
theorem shc_5 : shc 5 = 5 := rfl
theorem sht_6 : sht 6 = 1 := rfl
theorem shl_6 : shl 6 = 12 := rfl
theorem sht_7 : sht 7 = 1 := rfl
theorem shl_7 : shl 7 = 12 := rfl
theorem sht_8 : sht 8 = 2 := rfl
theorem shl_8 : shl 8 = 48 := rfl
theorem sht_9 : sht 9 = 1 := rfl
theorem shl_9 : shl 9 = 72 := rfl
theorem sht_10 : sht 10 = 1 := rfl
theorem shl_10 : shl 10 = 12 := rfl
theorem sht_11 : sht 11 = 1 := rfl
theorem shl_11 : shl 11 = 12 := rfl
theorem sht_12 : sht 12 = 2 := rfl
theorem shl_12 : shl 12 = 4 := rfl
theorem sht_13 : sht 13 = 1 := rfl
theorem shl_13 : shl 13 = 96 := rfl
theorem sht_14 : sht 14 = 1 := rfl
theorem shl_14 : shl 14 = 8 := rfl
theorem sht_15 : sht 15 = 1 := rfl
theorem shl_15 : shl 15 = 8 := rfl
theorem sht_16 : sht 16 = 1 := rfl
theorem shl_16 : shl 16 = 12 := rfl
theorem sht_17 : sht 17 = 1 := rfl
theorem shl_17 : shl 17 = 12 := rfl
theorem sht_18 : sht 18 = 1 := rfl
theorem shl_18 : shl 18 = 12 := rfl
theorem sht_19 : sht 19 = 1 := rfl
theorem shl_19 : shl 19 = 12 := rfl
theorem sht_20 : sht 20 = 1 := rfl
theorem shl_20 : shl 20 = 30 := rfl
theorem sht_21 : sht 21 = 1 := rfl
theorem shl_21 : shl 21 = 30 := rfl
theorem sht_22 : sht 22 = 1 := rfl
theorem shl_22 : shl 22 = 30 := rfl
theorem sht_23 : sht 23 = 2 := rfl
theorem shl_23 : shl 23 = 30 := rfl
theorem sht_24 : sht 24 = 3 := rfl
theorem shl_24 : shl 24 = 35 := rfl
theorem shc_25 : shc 25 = 5 := rfl
theorem sht_26 : sht 26 = 1 := rfl
theorem shl_26 : shl 26 = 12 := rfl
theorem sht_27 : sht 27 = 1 := rfl
theorem shl_27 : shl 27 = 12 := rfl
theorem sht_28 : sht 28 = 2 := rfl
theorem shl_28 : shl 28 = 48 := rfl
theorem sht_29 : sht 29 = 1 := rfl
theorem shl_29 : shl 29 = 72 := rfl
theorem sht_30 : sht 30 = 1 := rfl
theorem shl_30 : shl 30 = 12 := rfl
theorem sht_31 : sht 31 = 1 := rfl
theorem shl_31 : shl 31 = 12 := rfl
theorem sht_32 : sht 32 = 2 := rfl
theorem shl_32 : shl 32 = 4 := rfl
theorem sht_33 : sht 33 = 1 := rfl
theorem shl_33 : shl 33 = 96 := rfl
theorem sht_34 : sht 34 = 1 := rfl
theorem shl_34 : shl 34 = 8 := rfl
theorem sht_35 : sht 35 = 1 := rfl
theorem shl_35 : shl 35 = 8 := rfl
theorem sht_36 : sht 36 = 1 := rfl
theorem shl_36 : shl 36 = 12 := rfl
theorem sht_37 : sht 37 = 1 := rfl
theorem shl_37 : shl 37 = 12 := rfl
theorem shc_38 : shc 38 = 6 := rfl
theorem sht_39 : sht 39 = 1 := rfl
theorem shl_39 : shl 39 = 1600 := rfl
theorem sht_40 : sht 40 = 2 := rfl
theorem shl_40 : shl 40 = 64 := rfl
theorem sht_41 : sht 41 = 2 := rfl
theorem shl_41 : shl 41 = 4 := rfl
theorem shc_42 : shc 42 = 3 := rfl
theorem sht_43 : sht 43 = 2 := rfl
theorem shl_43 : shl 43 = 32 := rfl
theorem sht_44 : sht 44 = 2 := rfl
theorem shl_44 : shl 44 = 384 := rfl
theorem shc_45 : shc 45 = 4 := rfl
theorem sht_46 : sht 46 = 2 := rfl
theorem shl_46 : shl 46 = 12 := rfl
theorem sht_47 : sht 47 = 1 := rfl
theorem shl_47 : shl 47 = 12 := rfl
theorem sht_48 : sht 48 = 1 := rfl
theorem shl_48 : shl 48 = 5 := rfl
theorem sht_49 : sht 49 = 1 := rfl
theorem shl_49 : shl 49 = 5 := rfl
theorem shc_50 : shc 50 = 0 := rfl
theorem sht_51 : sht 51 = 1 := rfl
theorem shl_51 : shl 51 = 12 := rfl
theorem sht_52 : sht 52 = 2 := rfl
theorem shl_52 : shl 52 = 48 := rfl
theorem sht_53 : sht 53 = 2 := rfl
theorem shl_53 : shl 53 = 4 := rfl
theorem shc_54 : shc 54 = 7 := rfl
theorem sht_55 : sht 55 = 2 := rfl
theorem shl_55 : shl 55 = 12 := rfl
theorem sht_56 : sht 56 = 2 := rfl
theorem shl_56 : shl 56 = 32 := rfl
theorem sht_57 : sht 57 = 2 := rfl
theorem shl_57 : shl 57 = 32 := rfl
theorem shc_58 : shc 58 = 9 := rfl
theorem sht_59 : sht 59 = 2 := rfl
theorem shl_59 : shl 59 = 8 := rfl
theorem sht_60 : sht 60 = 2 := rfl
theorem shl_60 : shl 60 = 8 := rfl
theorem sht_61 : sht 61 = 2 := rfl
theorem shl_61 : shl 61 = 48 := rfl
theorem sht_62 : sht 62 = 2 := rfl
theorem shl_62 : shl 62 = 56 := rfl
theorem sht_63 : sht 63 = 2 := rfl
theorem shl_63 : shl 63 = 56 := rfl
theorem sht_64 : sht 64 = 1 := rfl
theorem shl_64 : shl 64 = 6 := rfl
theorem sht_65 : sht 65 = 1 := rfl
theorem shl_65 : shl 65 = 6 := rfl
theorem shc_66 : shc 66 = 2 := rfl
theorem sht_67 : sht 67 = 2 := rfl
theorem shl_67 : shl 67 = 8631 := rfl
theorem sht_68 : sht 68 = 2 := rfl
theorem shl_68 : shl 68 = 41 := rfl
theorem sht_69 : sht 69 = 2 := rfl
theorem shl_69 : shl 69 = 12 := rfl
theorem sht_70 : sht 70 = 1 := rfl
theorem shl_70 : shl 70 = 6 := rfl
theorem shc_71 : shc 71 = 11 := rfl
theorem sht_72 : sht 72 = 1 := rfl
theorem shl_72 : shl 72 = 1600 := rfl
theorem sht_73 : sht 73 = 1 := rfl
theorem shl_73 : shl 73 = 6 := rfl
theorem sht_74 : sht 74 = 4 := rfl
theorem shl_74 : shl 74 = 4 := rfl
theorem sht_75 : sht 75 = 4 := rfl
theorem shl_75 : shl 75 = 3 := rfl
theorem sht_76 : sht 76 = 4 := rfl
theorem shl_76 : shl 76 = 5 := rfl
theorem sht_77 : sht 77 = 4 := rfl
theorem shl_77 : shl 77 = 8 := rfl
theorem sht_78 : sht 78 = 4 := rfl
theorem shl_78 : shl 78 = 5 := rfl
theorem sht_79 : sht 79 = 4 := rfl
theorem shl_79 : shl 79 = 4 := rfl
theorem sht_80 : sht 80 = 4 := rfl
theorem shl_80 : shl 80 = 3 := rfl
theorem sht_81 : sht 81 = 4 := rfl
theorem shl_81 : shl 81 = 4 := rfl
theorem sht_82 : sht 82 = 4 := rfl
theorem shl_82 : shl 82 = 5 := rfl
theorem sht_83 : sht 83 = 4 := rfl
theorem shl_83 : shl 83 = 4 := rfl
theorem sht_84 : sht 84 = 4 := rfl
theorem shl_84 : shl 84 = 2 := rfl
theorem sht_85 : sht 85 = 4 := rfl
theorem shl_85 : shl 85 = 4 := rfl
theorem sht_86 : sht 86 = 4 := rfl
theorem shl_86 : shl 86 = 3 := rfl
theorem sht_87 : sht 87 = 4 := rfl
theorem shl_87 : shl 87 = 5 := rfl
theorem sht_88 : sht 88 = 4 := rfl
theorem shl_88 : shl 88 = 5 := rfl
theorem sht_89 : sht 89 = 4 := rfl
theorem shl_89 : shl 89 = 3 := rfl
theorem sht_90 : sht 90 = 4 := rfl
theorem shl_90 : shl 90 = 2 := rfl
theorem sht_91 : sht 91 = 1 := rfl
theorem shl_91 : shl 91 = 8 := rfl
theorem sht_92 : sht 92 = 1 := rfl
theorem shl_92 : shl 92 = 24 := rfl
theorem sht_93 : sht 93 = 1 := rfl
theorem shl_93 : shl 93 = 24 := rfl
theorem sht_94 : sht 94 = 1 := rfl
theorem shl_94 : shl 94 = 24 := rfl
theorem sht_95 : sht 95 = 2 := rfl
theorem shl_95 : shl 95 = 24 := rfl
theorem sht_96 : sht 96 = 1 := rfl
theorem shl_96 : shl 96 = 24 := rfl
theorem sht_97 : sht 97 = 1 := rfl
theorem shl_97 : shl 97 = 24 := rfl
theorem sht_98 : sht 98 = 1 := rfl
theorem shl_98 : shl 98 = 2 := rfl
theorem sht_99 : sht 99 = 1 := rfl
theorem shl_99 : shl 99 = 2 := rfl
theorem sht_100 : sht 100 = 1 := rfl
theorem shl_100 : shl 100 = 8 := rfl
theorem sht_101 : sht 101 = 1 := rfl
theorem shl_101 : shl 101 = 8 := rfl
theorem sht_102 : sht 102 = 1 := rfl
theorem shl_102 : shl 102 = 192 := rfl
theorem sht_103 : sht 103 = 1 := rfl
theorem shl_103 : shl 103 = 16 := rfl
theorem sht_104 : sht 104 = 1 := rfl
theorem shl_104 : shl 104 = 16 := rfl
theorem sht_105 : sht 105 = 1 := rfl
theorem shl_105 : shl 105 = 24 := rfl
theorem sht_106 : sht 106 = 1 := rfl
theorem shl_106 : shl 106 = 24 := rfl
theorem sht_107 : sht 107 = 1 := rfl
theorem shl_107 : shl 107 = 12 := rfl
theorem sht_108 : sht 108 = 1 := rfl
theorem shl_108 : shl 108 = 30 := rfl
theorem sht_109 : sht 109 = 2 := rfl
theorem shl_109 : shl 109 = 30 := rfl
theorem sht_110 : sht 110 = 1 := rfl
theorem shl_110 : shl 110 = 30 := rfl
theorem sht_111 : sht 111 = 1 := rfl
theorem shl_111 : shl 111 = 360 := rfl
theorem sht_112 : sht 112 = 2 := rfl
theorem shl_112 : shl 112 = 8631 := rfl
theorem sht_113 : sht 113 = 1 := rfl
theorem shl_113 : shl 113 = 12 := rfl
theorem sht_114 : sht 114 = 1 := rfl
theorem shl_114 : shl 114 = 5 := rfl
theorem sht_115 : sht 115 = 1 := rfl
theorem shl_115 : shl 115 = 12 := rfl
theorem sht_116 : sht 116 = 1 := rfl
theorem shl_116 : shl 116 = 12 := rfl
theorem sht_117 : sht 117 = 1 := rfl
theorem shl_117 : shl 117 = 6 := rfl
theorem sht_118 : sht 118 = 1 := rfl
theorem shl_118 : shl 118 = 6 := rfl
theorem sht_119 : sht 119 = 4 := rfl
theorem shl_119 : shl 119 = 5 := rfl
theorem sht_120 : sht 120 = 4 := rfl
theorem shl_120 : shl 120 = 4 := rfl
theorem sht_121 : sht 121 = 4 := rfl
theorem shl_121 : shl 121 = 5 := rfl
theorem sht_122 : sht 122 = 4 := rfl
theorem shl_122 : shl 122 = 5 := rfl
theorem sht_123 : sht 123 = 4 := rfl
theorem shl_123 : shl 123 = 4 := rfl
theorem sht_124 : sht 124 = 4 := rfl
theorem shl_124 : shl 124 = 5 := rfl
theorem sht_125 : sht 125 = 4 := rfl
theorem shl_125 : shl 125 = 3 := rfl
theorem sht_126 : sht 126 = 4 := rfl
theorem shl_126 : shl 126 = 3 := rfl
theorem sht_127 : sht 127 = 4 := rfl
theorem shl_127 : shl 127 = 2 := rfl
theorem sht_128 : sht 128 = 4 := rfl
theorem shl_128 : shl 128 = 3 := rfl
theorem sht_129 : sht 129 = 4 := rfl
theorem shl_129 : shl 129 = 3 := rfl
theorem sht_130 : sht 130 = 4 := rfl
theorem shl_130 : shl 130 = 3 := rfl
theorem sht_131 : sht 131 = 4 := rfl
theorem shl_131 : shl 131 = 6 := rfl
theorem sht_132 : sht 132 = 4 := rfl
theorem shl_132 : shl 132 = 3 := rfl
theorem sht_133 : sht 133 = 4 := rfl
theorem shl_133 : shl 133 = 4 := rfl
theorem sht_134 : sht 134 = 4 := rfl
theorem shl_134 : shl 134 = 5 := rfl
theorem sht_135 : sht 135 = 4 := rfl
theorem shl_135 : shl 135 = 5 := rfl
theorem sht_136 : sht 136 = 1 := rfl
theorem shl_136 : shl 136 = 1700 := rfl
theorem sht_137 : sht 137 = 1 := rfl
theorem shl_137 : shl 137 = 1700 := rfl
theorem sht_138 : sht 138 = 2 := rfl
theorem shl_138 : shl 138 = 1700 := rfl
theorem sht_139 : sht 139 = 1 := rfl
theorem shl_139 : shl 139 = 36 := rfl
def stx_901 : List Int := [115, 101, 97, 116, 32, 97, 114, 109, 32, 114, 111, 119, 101, 114, 32, 115, 116, 114, 101, 110, 103, 116, 104, 32, 116, 105, 114, 101, 115, 32, 101, 97, 99, 104, 32, 102, 105, 120, 32, 108, 101, 102, 116, 32, 114, 105, 103, 104, 116, 32, 119, 97, 110, 116, 32, 105, 115, 32, 110, 101, 97, 114, 32, 114, 117, 110, 32, 112, 111, 119, 101, 114, 32, 115, 119, 117, 110, 103, 32, 112, 97, 121, 32, 111, 110, 32]
def stx_902 : List Int := [102, 105, 114, 115, 116, 32, 108, 97, 115, 116, 32, 111, 102, 116, 101, 110, 32, 116, 111, 116, 97, 108, 32, 109, 111, 115, 116, 32, 108, 101, 97, 115, 116, 32, 111, 114, 32, 97, 110, 100, 32, 110, 111, 116, 32, 97, 108, 108, 32, 115, 116, 114, 111, 107, 101, 32, 111, 102, 102, 32, 103, 111, 111, 100, 32, 115, 119, 105, 110, 103, 32, 102, 111, 114, 99, 101, 32, 109, 105, 110, 32, 109, 97, 120, 32]
def stx (z : Int) : List Int := if z = 901 then stx_901 else if z = 902 then stx_902 else []
def JK_bitCount : Nat := 0
def JK_floorDiv : Nat := 1
def JK_absI : Nat := 2
def JK_absL : Nat := 3
def JK_maxI : Nat := 4
def JK_maxL : Nat := 5
def JK_minI : Nat := 6
def JK_minL : Nat := 7
def JK_fillL : Nat := 8
def JK_fillI : Nat := 9
def BT_read : Nat := 10
def BT_statement : Nat := 11
def BT_isOneTooMany : Nat := 12
def BT_seatTold : Nat := 13
def BT_rowerTold : Nat := 14
def BT_nameTold : Nat := 15
def BT_isName : Nat := 16
def BT_eachTold : Nat := 17
def BT_fixTold : Nat := 18
def BT_wantTold : Nat := 19
def BT_nearTold : Nat := 20
def BT_runTold : Nat := 21
def BT_sidesTold : Nat := 22
def BT_payTold : Nat := 23
def CH_init : Nat := 24
def CH_fewest : Nat := 25
def CH_load : Nat := 26
def CH_canBeLawful : Nat := 27
def CH_bySwaps : Nat := 28
def CH_byTurns : Nat := 29
def CH_isGood : Nat := 30
def CH_exchange : Nat := 31
def CH_flip : Nat := 32
def CW_init : Nat := 33
def CW_board : Nat := 34
def CW_seatOf : Nat := 35
def CW_sides : Nat := 36
def CW_strengthAt : Nat := 37
def CW_forceIn : Nat := 38
def CW_leverToSide : Nat := 39
def CW_swingAt : Nat := 40
def CW_offAt : Nat := 41
def CW_isGoodAt : Nat := 42
def CW_turnSeat : Nat := 43
def CW_swapRowers : Nat := 44
def CW_passBy : Nat := 45
def CW_rowOn : Nat := 46
def CW_undoAct : Nat := 47
def CW_writeImage : Nat := 48
def CW_takeImage : Nat := 49
def CW_isImage : Nat := 50
def CW_rowersCanSitSo : Nat := 51
def CW_sidesCanBeSo : Nat := 52
def CW_strokeIn : Nat := 53
def CW_checkOn : Nat := 54
def CW_writeOctet : Nat := 55
def CW_noteAct : Nat := 56
def CW_flip : Nat := 57
def CW_exchange : Nat := 58
def CW_drawnSwing : Nat := 59
def CW_drawOfThree : Nat := 60
def HV_init : Nat := 61
def HV_waysFor : Nat := 62
def HV_countWays : Nat := 63
def HV_wayAt : Nat := 64
def HV_choose : Nat := 65
def HV_canBe : Nat := 66
def HV_sumDoubled : Nat := 67
def HV_stillUpTo : Nat := 68
def HV_power : Nat := 69
def HV_partPayments : Nat := 70
def HV_addPayments : Nat := 71
def HV_heirsApart : Nat := 72
def LN_init : Nat := 73
def LN_clear : Nat := 74
def LN_add : Nat := 75
def LN_advanceTo : Nat := 76
def NE_init : Nat := 77
def NE_findAsTheySit : Nat := 78
def NE_findOrder : Nat := 79
def NE_bestRower : Nat := 80
def NE_arrange : Nat := 81
def NE_keepOrder : Nat := 82
def NE_scan : Nat := 83
def NE_setLanes : Nat := 84
def NE_weigh : Nat := 85
def PL_init : Nat := 86
def PL_clear : Nat := 87
def PL_isSeat : Nat := 88
def PL_isRower : Nat := 89
def PL_isPower : Nat := 90
def PL_isFixed : Nat := 91
def PL_seatAtPlace : Nat := 92
def PL_addSeat : Nat := 93
def PL_fixSeat : Nat := 94
def PL_addRower : Nat := 95
def PL_wantSwing : Nat := 96
def PL_addRun : Nat := 97
def PL_setRunSide : Nat := 98
def PL_addPayment : Nat := 99
def PL_wants : Nat := 100
def PL_leverOf : Nat := 101
def PL_allows : Nat := 102
def PL_sideAtFirst : Nat := 103
def PL_seatedAtFirst : Nat := 104
def PL_runLever : Nat := 105
def PL_swungOf : Nat := 106
def PL_payment : Nat := 107
def QU_init : Nat := 108
def QU_read : Nat := 109
def QU_test : Nat := 110
def QU_both : Nat := 111
def QU_fact : Nat := 112
def QU_comparison : Nat := 113
def QU_sum : Nat := 114
def QU_product : Nat := 115
def QU_part : Nat := 116
def QU_partOf : Nat := 117
def QU_pair : Nat := 118
def QU_mayOpen : Nat := 119
def QU_code : Nat := 120
def QU_keep : Nat := 121
def QU_answer : Nat := 122
def QU_answerTest : Nat := 123
def QU_answerSum : Nat := 124
def QU_valueAt : Nat := 125
def QU_keepTen : Nat := 126
def QU_apply : Nat := 127
def QU_applyToTwo : Nat := 128
def QU_swingOf : Nat := 129
def QU_forceOf : Nat := 130
def QU_joined : Nat := 131
def QU_held : Nat := 132
def QU_push : Nat := 133
def QU_pop : Nat := 134
def RA_init : Nat := 135
def RA_greatest : Nat := 136
def RA_findStillest : Nat := 137
def RA_findUnderWay : Nat := 138
def RA_sailAsTheySit : Nat := 139
def RA_tryChange : Nat := 140
def RA_setLanes : Nat := 141
def RA_greatestOf : Nat := 142
def RA_firstTen : Nat := 143
def RA_lastTen : Nat := 144
def TP_init : Nat := 145
def TP_hasRoomForFive : Nat := 146
def TP_put : Nat := 147
def TP_cut : Nat := 148
def TP_clear : Nat := 149
def TP_byteAt : Nat := 150
def TP_begin : Nat := 151
def TP_fail : Nat := 152
def TP_failHere : Nat := 153
def TP_next : Nat := 154
def TP_takeSign : Nat := 155
def TP_wordHere : Nat := 156
def TP_passWord : Nat := 157
def TP_takeWord : Nat := 158
def TP_anyWordEnd : Nat := 159
def TP_placeIn : Nat := 160
def TP_takeNumber : Nat := 161
def TP_takeSignedNumber : Nat := 162
def TP_wordEnd : Nat := 163
def TP_isLetter : Nat := 164
def TP_isDigit : Nat := 165
def TP_isBlank : Nat := 166
def TR_init : Nat := 167
def TR_forget : Nat := 168
def TR_firstUnfit : Nat := 169
def TR_told : Nat := 170
def TR_crookedSeats : Nat := 171
def TR_gapAsTold : Nat := 172
def TR_canBeCrooked : Nat := 173
def TR_allFitWith : Nat := 174
def TR_countRows : Nat := 175
def TR_setBounds : Nat := 176
def TR_rowsFrom : Nat := 177
def TR_verdictFrom : Nat := 178
def TR_allRowsFrom : Nat := 179
def TR_rowsOfLast : Nat := 180
def TR_tryMore : Nat := 181
def TR_noteStrengths : Nat := 182
def EO_init : Nat := 183
def EO_feed : Nat := 184
def EO_end : Nat := 185
def EO_text : Nat := 186
def EO_fault : Nat := 187
def EO_boat : Nat := 188
def EO_letter : Nat := 189
def EO_seat : Nat := 190
def EO_rower : Nat := 191
def EO_want : Nat := 192
def EO_swing : Nat := 193
def EO_off : Nat := 194
def EO_good : Nat := 195
def EO_lawful : Nat := 196
def EO_heading : Nat := 197
def EO_turn : Nat := 198
def EO_swap : Nat := 199
def EO_stroke : Nat := 200
def EO_row : Nat := 201
def EO_undo : Nat := 202
def EO_seed : Nat := 203
def EO_ways : Nat := 204
def EO_made : Nat := 205
def EO_doubled : Nat := 206
def EO_still : Nat := 207
def EO_nearest : Nat := 208
def EO_seated : Nat := 209
def EO_changes : Nat := 210
def EO_race : Nat := 211
def EO_stillest : Nat := 212
def EO_under : Nat := 213
def EO_fits : Nat := 214
def EO_strengths : Nat := 215
def EO_crooked : Nat := 216
def EO_heirs : Nat := 217
def EO_apart : Nat := 218
def EO_ask : Nat := 219
def EO_image : Nat := 220
def EO_octet : Nat := 221
def EO_on : Nat := 222
def EO_status : Nat := 223
def EO_refuse : Nat := 224
def EO_canGoBy : Nat := 225
def EO_keepFault : Nat := 226
def MO_init : Nat := 227
def MO_isIn : Nat := 228
def MO_feed : Nat := 229
def MO_end : Nat := 230
def MO_fail : Nat := 231
def MO_isLetter : Nat := 232
def MO_isDigit : Nat := 233
def MO_look : Nat := 234
def MO_isHere : Nat := 235
def MO_takes : Nat := 236
def MO_asks : Nat := 237
def MO_takesSign : Nat := 238
def MO_asksSign : Nat := 239
def MO_number : Nat := 240
def MO_signed : Nat := 241
def MO_isOwnHere : Nat := 242
def MO_name : Nat := 243
def MO_isFull : Nat := 244
def MO_seatAt : Nat := 245
def MO_seatTold : Nat := 246
def MO_rowerTold : Nat := 247
def MO_fixTold : Nat := 248
def MO_wantTold : Nat := 249
def MO_sidesTold : Nat := 250
def MO_runTold : Nat := 251
def MO_payTold : Nat := 252
def MO_statementTold : Nat := 253
def MO_text : Nat := 254
def MO_stands : Nat := 255
def MO_fault : Nat := 256
def MO_seats : Nat := 257
def MO_rowers : Nat := 258
def MO_runs : Nat := 259
def MO_each : Nat := 260
def MO_near : Nat := 261
def MO_isSeat : Nat := 262
def MO_isRower : Nat := 263
def MO_isFixed : Nat := 264
def MO_strengthAt : Nat := 265
def MO_pullOf : Nat := 266
def MO_raised : Nat := 267
def MO_swingBy : Nat := 268
def MO_size : Nat := 269
def MO_isWantedOf : Nat := 270
def MO_offBy : Nat := 271
def MO_isGood : Nat := 272
def MO_bits : Nat := 273
def MO_isLawful : Nat := 274
def MO_fixedMany : Nat := 275
def MO_wants : Nat := 276
def MO_boat : Nat := 277
def MO_letter : Nat := 278
def MO_seat : Nat := 279
def MO_seatOf : Nat := 280
def MO_rower : Nat := 281
def MO_isPower : Nat := 282
def MO_want : Nat := 283
def MO_swing : Nat := 284
def MO_off : Nat := 285
def MO_good : Nat := 286
def MO_lawful : Nat := 287
def MO_heading : Nat := 288
def MO_keeps : Nat := 289
def MO_undo : Nat := 290
def MO_turn : Nat := 291
def MO_changesSeats : Nat := 292
def MO_canSwap : Nat := 293
def MO_swap : Nat := 294
def MO_canGo : Nat := 295
def MO_stroke : Nat := 296
def MO_seed : Nat := 297
def MO_drawOf : Nat := 298
def MO_rows : Nat := 299
def MO_row : Nat := 300
def MO_ways : Nat := 301
def MO_sumBy : Nat := 302
def MO_made : Nat := 303
def MO_doubled : Nat := 304
def MO_still : Nat := 305
def MO_isNearest : Nat := 306
def MO_nearest : Nat := 307
def MO_putsAside : Nat := 308
def MO_takesBack : Nat := 309
def MO_sitBy : Nat := 310
def MO_seated : Nat := 311
def MO_actMany : Nat := 312
def MO_acts : Nat := 313
def MO_isRight : Nat := 314
def MO_isOneOff : Nat := 315
def MO_isTwoOff : Nat := 316
def MO_isThreeOff : Nat := 317
def MO_changes : Nat := 318
def MO_greater : Nat := 319
def MO_greatest : Nat := 320
def MO_race : Nat := 321
def MO_stillest : Nat := 322
def MO_underBy : Nat := 323
def MO_under : Nat := 324
def MO_triesTold : Nat := 325
def MO_isFit : Nat := 326
def MO_firstUnfit : Nat := 327
def MO_fits : Nat := 328
def MO_fittingRows : Nat := 329
def MO_strengths : Nat := 330
def MO_crooked : Nat := 331
def MO_payments : Nat := 332
def MO_apartBy : Nat := 333
def MO_heirs : Nat := 334
def MO_apart : Nat := 335
def MO_qCode : Nat := 336
def MO_qOpens : Nat := 337
def MO_qIsOn : Nat := 338
def MO_qDrops : Nat := 339
def MO_qIsBracket : Nat := 340
def MO_qBracket : Nat := 341
def MO_qDropsToBracket : Nat := 342
def MO_qWordHere : Nat := 343
def MO_qWordOf : Nat := 344
def MO_qAsksWord : Nat := 345
def MO_qEndsPart : Nat := 346
def MO_qPartTold : Nat := 347
def MO_qGoesOn : Nat := 348
def MO_qSums : Nat := 349
def MO_qFact : Nat := 350
def MO_qHasSquare : Nat := 351
def MO_qDropsNots : Nat := 352
def MO_qTest : Nat := 353
def MO_qGoesOnTest : Nat := 354
def MO_qClip : Nat := 355
def MO_qFloor : Nat := 356
def MO_qPuts : Nat := 357
def MO_qJoins : Nat := 358
def MO_qPartOf : Nat := 359
def MO_qOf : Nat := 360
def MO_qTold : Nat := 361
def MO_qKind : Nat := 362
def MO_qTakes : Nat := 363
def MO_ask : Nat := 364
def MO_qOffAt : Nat := 365
def MO_qIsGoodAt : Nat := 366
def MO_checked : Nat := 367
def MO_image : Nat := 368
def MO_octet : Nat := 369
def MO_isImage : Nat := 370
def MO_on : Nat := 371
def MO_status : Nat := 372
def LW_law : Nat := 373
def k_JK_bitCount_0 : List AI := [x_ldi 0, x_ldi 0, x_ic 1, x_iushr, x_ic 1431655765, x_iand, x_isub, x_s1i 0, x_ldi 0, x_ic 858993459, x_iand, x_ldi 0, x_ic 2, x_iushr, x_ic 858993459, x_iand, x_iadd, x_s1i 0, x_ldi 0, x_ldi 0, x_ic 4, x_iushr, x_iadd, x_ic 252645135, x_iand, x_s1i 0, x_ldi 0, x_ldi 0, x_ic 8, x_iushr, x_iadd, x_s1i 0, x_ldi 0, x_ldi 0, x_ic 16, x_iushr, x_iadd, x_s1i 0, x_ldi 0, x_ic 63, x_iand, x_ri]
def kb_JK_bitCount : List (List AI) := [k_JK_bitCount_0]
def k_JK_floorDiv_0 : List AI := [x_ldl 0, x_ldl 2, x_ldiv, x_s2 4, x_ldl 0, x_ldl 2, x_lxor, x_lc 0, x_lcmp, x_ifge 1, x_ldl 4, x_ldl 2, x_lmul, x_ldl 0, x_lcmp, x_ifeq 1, x_ldl 4, x_lc 1, x_lsub, x_rl]
def k_JK_floorDiv_1 : List AI := [x_ldl 4, x_rl]
def kb_JK_floorDiv : List (List AI) := [k_JK_floorDiv_0, k_JK_floorDiv_1]
def k_JK_absI_0 : List AI := [x_ldi 0, x_ifge 1, x_ldi 0, x_ineg, x_go 2]
def k_JK_absI_1 : List AI := [x_ldi 0, x_fall 2]
def k_JK_absI_2 : List AI := [x_ri]
def kb_JK_absI : List (List AI) := [k_JK_absI_0, k_JK_absI_1, k_JK_absI_2]
def k_JK_absL_0 : List AI := [x_ldl 0, x_lc 0, x_lcmp, x_ifge 1, x_ldl 0, x_lneg, x_go 2]
def k_JK_absL_1 : List AI := [x_ldl 0, x_fall 2]
def k_JK_absL_2 : List AI := [x_rl]
def kb_JK_absL : List (List AI) := [k_JK_absL_0, k_JK_absL_1, k_JK_absL_2]
def k_JK_maxI_0 : List AI := [x_ldi 0, x_ldi 1, x_iclt 1, x_ldi 0, x_go 2]
def k_JK_maxI_1 : List AI := [x_ldi 1, x_fall 2]
def k_JK_maxI_2 : List AI := [x_ri]
def kb_JK_maxI : List (List AI) := [k_JK_maxI_0, k_JK_maxI_1, k_JK_maxI_2]
def k_JK_maxL_0 : List AI := [x_ldl 0, x_ldl 2, x_lcmp, x_iflt 1, x_ldl 0, x_go 2]
def k_JK_maxL_1 : List AI := [x_ldl 2, x_fall 2]
def k_JK_maxL_2 : List AI := [x_rl]
def kb_JK_maxL : List (List AI) := [k_JK_maxL_0, k_JK_maxL_1, k_JK_maxL_2]
def k_JK_minI_0 : List AI := [x_ldi 0, x_ldi 1, x_icgt 1, x_ldi 0, x_go 2]
def k_JK_minI_1 : List AI := [x_ldi 1, x_fall 2]
def k_JK_minI_2 : List AI := [x_ri]
def kb_JK_minI : List (List AI) := [k_JK_minI_0, k_JK_minI_1, k_JK_minI_2]
def k_JK_minL_0 : List AI := [x_ldl 0, x_ldl 2, x_lcmp, x_ifgt 1, x_ldl 0, x_go 2]
def k_JK_minL_1 : List AI := [x_ldl 2, x_fall 2]
def k_JK_minL_2 : List AI := [x_rl]
def kb_JK_minL : List (List AI) := [k_JK_minL_0, k_JK_minL_1, k_JK_minL_2]
def k_JK_fillL_0 : List AI := [x_ic 0, x_s1i 3, x_lda 0, x_len, x_s1i 4, x_fall 1]
def k_JK_fillL_1 : List AI := [x_ldi 3, x_ldi 4, x_icge 2, x_lda 0, x_ldi 3, x_ldl 1, x_asl, x_inc 3 1, x_go 1]
def k_JK_fillL_2 : List AI := [x_ret]
def kb_JK_fillL : List (List AI) := [k_JK_fillL_0, k_JK_fillL_1, k_JK_fillL_2]
def k_JK_fillI_0 : List AI := [x_ic 0, x_s1i 2, x_lda 0, x_len, x_s1i 3, x_fall 1]
def k_JK_fillI_1 : List AI := [x_ldi 2, x_ldi 3, x_icge 2, x_lda 0, x_ldi 2, x_ldi 1, x_asi, x_inc 2 1, x_go 1]
def k_JK_fillI_2 : List AI := [x_ret]
def kb_JK_fillI : List (List AI) := [k_JK_fillI_0, k_JK_fillI_1, k_JK_fillI_2]
def k_BT_read_0 : List AI := [x_lda 0, x_calv0 TP_begin 1 8, x_lda 1, x_calv0 PL_clear 1 5, x_ic 0, x_s1i 2, x_fall 1]
def k_BT_read_1 : List AI := [x_ldi 2, x_ic 70, x_icgt 6, x_lda 0, x_calv TP_next 1 8, x_ic (-1), x_icne 2, x_ldi 2, x_ri]
def k_BT_read_2 : List AI := [x_ldi 2, x_ic 70, x_icne 3, x_lda 0, x_ic 5, x_lda 0, x_gi 2 8, x_calv TP_fail 3 8, x_pop, x_go 4]
def k_BT_read_3 : List AI := [x_lda 0, x_lda 1, x_call BT_statement 2, x_ifeq 4, x_lda 0, x_ic 59, x_calv TP_takeSign 2 8, x_pop, x_fall 4]
def k_BT_read_4 : List AI := [x_lda 0, x_gi 6 8, x_ifeq 5, x_ic (-1), x_ri]
def k_BT_read_5 : List AI := [x_inc 2 1, x_go 1]
def k_BT_read_6 : List AI := [x_ic (-1), x_ri]
def kb_BT_read : List (List AI) := [k_BT_read_0, k_BT_read_1, k_BT_read_2, k_BT_read_3, k_BT_read_4, k_BT_read_5, k_BT_read_6]
def k_BT_statement_0 : List AI := [x_lda 0, x_str 901, x_calv TP_wordHere 2 8, x_s1i 2, x_lda 1, x_ldi 2, x_call BT_isOneTooMany 2, x_ifeq 1, x_lda 0, x_ic 5, x_lda 0, x_gi 2 8, x_calv TP_fail 3 8, x_rz]
def k_BT_statement_1 : List AI := [x_ldi 2, x_ic (-1), x_icne 2, x_lda 0, x_calv TP_failHere 1 8, x_rz]
def k_BT_statement_2 : List AI := [x_lda 0, x_gi 2 8, x_s1i 3, x_lda 0, x_calv0 TP_passWord 1 8, x_ldi 2, x_sw 11 [(0, 3), (1, 11), (2, 4), (3, 11), (4, 11), (5, 5), (6, 6), (7, 11), (8, 11), (9, 7), (10, 11), (11, 8), (12, 9), (13, 11), (14, 11), (15, 10)]]
def k_BT_statement_3 : List AI := [x_lda 0, x_lda 1, x_call BT_seatTold 2, x_rz]
def k_BT_statement_4 : List AI := [x_lda 0, x_lda 1, x_call BT_rowerTold 2, x_rz]
def k_BT_statement_5 : List AI := [x_lda 0, x_lda 1, x_call BT_eachTold 2, x_rz]
def k_BT_statement_6 : List AI := [x_lda 0, x_lda 1, x_call BT_fixTold 2, x_rz]
def k_BT_statement_7 : List AI := [x_lda 0, x_lda 1, x_call BT_wantTold 2, x_rz]
def k_BT_statement_8 : List AI := [x_lda 0, x_lda 1, x_call BT_nearTold 2, x_rz]
def k_BT_statement_9 : List AI := [x_lda 0, x_lda 1, x_call BT_runTold 2, x_rz]
def k_BT_statement_10 : List AI := [x_lda 0, x_lda 1, x_call BT_payTold 2, x_rz]
def k_BT_statement_11 : List AI := [x_lda 0, x_ic 1, x_ldi 3, x_calv TP_fail 3 8, x_rz]
def kb_BT_statement : List (List AI) := [k_BT_statement_0, k_BT_statement_1, k_BT_statement_2, k_BT_statement_3, k_BT_statement_4, k_BT_statement_5, k_BT_statement_6, k_BT_statement_7, k_BT_statement_8, k_BT_statement_9, k_BT_statement_10, k_BT_statement_11]
def k_BT_isOneTooMany_0 : List AI := [x_ldi 1, x_lsw 13 [(0, 1), (2, 4), (12, 7), (15, 10)]]
def k_BT_isOneTooMany_1 : List AI := [x_lda 0, x_gi 0 5, x_ic 12, x_iclt 2, x_ic 1, x_go 3]
def k_BT_isOneTooMany_2 : List AI := [x_ic 0, x_fall 3]
def k_BT_isOneTooMany_3 : List AI := [x_rz]
def k_BT_isOneTooMany_4 : List AI := [x_lda 0, x_gi 6 5, x_ic 12, x_iclt 5, x_ic 1, x_go 6]
def k_BT_isOneTooMany_5 : List AI := [x_ic 0, x_fall 6]
def k_BT_isOneTooMany_6 : List AI := [x_rz]
def k_BT_isOneTooMany_7 : List AI := [x_lda 0, x_gi 13 5, x_ic 8, x_iclt 8, x_ic 1, x_go 9]
def k_BT_isOneTooMany_8 : List AI := [x_ic 0, x_fall 9]
def k_BT_isOneTooMany_9 : List AI := [x_rz]
def k_BT_isOneTooMany_10 : List AI := [x_lda 0, x_gi 17 5, x_ic 12, x_iclt 11, x_ic 1, x_go 12]
def k_BT_isOneTooMany_11 : List AI := [x_ic 0, x_fall 12]
def k_BT_isOneTooMany_12 : List AI := [x_rz]
def k_BT_isOneTooMany_13 : List AI := [x_ic 0, x_rz]
def kb_BT_isOneTooMany : List (List AI) := [k_BT_isOneTooMany_0, k_BT_isOneTooMany_1, k_BT_isOneTooMany_2, k_BT_isOneTooMany_3, k_BT_isOneTooMany_4, k_BT_isOneTooMany_5, k_BT_isOneTooMany_6, k_BT_isOneTooMany_7, k_BT_isOneTooMany_8, k_BT_isOneTooMany_9, k_BT_isOneTooMany_10, k_BT_isOneTooMany_11, k_BT_isOneTooMany_12, k_BT_isOneTooMany_13]
def k_BT_seatTold_0 : List AI := [x_lda 0, x_ic 1, x_ic 99, x_calv TP_takeNumber 3 8, x_ifne 1, x_ic 0, x_rz]
def k_BT_seatTold_1 : List AI := [x_lda 0, x_gi 4 8, x_s1i 2, x_lda 1, x_ldi 2, x_calv PL_seatAtPlace 2 5, x_ic (-1), x_iceq 2, x_lda 0, x_ic 2, x_lda 0, x_gi 5 8, x_calv TP_fail 3 8, x_rz]
def k_BT_seatTold_2 : List AI := [x_lda 0, x_str 901, x_ic 1, x_calv TP_takeWord 3 8, x_ifeq 3, x_lda 0, x_ic 1, x_ic 99, x_calv TP_takeNumber 3 8, x_ifne 4, x_fall 3]
def k_BT_seatTold_3 : List AI := [x_ic 0, x_rz]
def k_BT_seatTold_4 : List AI := [x_lda 1, x_ldi 2, x_lda 0, x_gi 4 8, x_calv0 PL_addSeat 3 5, x_ic 1, x_rz]
def kb_BT_seatTold : List (List AI) := [k_BT_seatTold_0, k_BT_seatTold_1, k_BT_seatTold_2, k_BT_seatTold_3, k_BT_seatTold_4]
def k_BT_rowerTold_0 : List AI := [x_lda 0, x_lda 1, x_call BT_nameTold 2, x_ifeq 1, x_lda 0, x_str 901, x_ic 3, x_calv TP_takeWord 3 8, x_ifeq 1, x_lda 0, x_ic 1, x_ic 99, x_calv TP_takeNumber 3 8, x_ifne 2, x_fall 1]
def k_BT_rowerTold_1 : List AI := [x_ic 0, x_rz]
def k_BT_rowerTold_2 : List AI := [x_lda 0, x_gi 4 8, x_s1i 2, x_lda 0, x_str 901, x_ic 4, x_calv TP_takeWord 3 8, x_ifeq 3, x_lda 0, x_ic 0, x_ic 9, x_calv TP_takeNumber 3 8, x_ifne 4, x_fall 3]
def k_BT_rowerTold_3 : List AI := [x_ic 0, x_rz]
def k_BT_rowerTold_4 : List AI := [x_lda 1, x_ldi 2, x_lda 0, x_gi 4 8, x_calv0 PL_addRower 3 5, x_ic 1, x_rz]
def kb_BT_rowerTold : List (List AI) := [k_BT_rowerTold_0, k_BT_rowerTold_1, k_BT_rowerTold_2, k_BT_rowerTold_3, k_BT_rowerTold_4]
def k_BT_nameTold_0 : List AI := [x_lda 0, x_calv TP_anyWordEnd 1 8, x_s1i 2, x_lda 0, x_gi 2 8, x_s1i 3, x_ldi 2, x_ic (-1), x_iceq 1, x_lda 0, x_str 901, x_ldi 2, x_calv TP_placeIn 3 8, x_ic (-1), x_iceq 2, x_fall 1]
def k_BT_nameTold_1 : List AI := [x_lda 0, x_calv TP_failHere 1 8, x_rz]
def k_BT_nameTold_2 : List AI := [x_ldi 2, x_ldi 3, x_isub, x_ic 6, x_icle 3, x_lda 0, x_ic 1, x_ldi 3, x_ic 6, x_iadd, x_calv TP_fail 3 8, x_rz]
def k_BT_nameTold_3 : List AI := [x_ic 0, x_s1i 4, x_fall 4]
def k_BT_nameTold_4 : List AI := [x_ldi 4, x_lda 1, x_gi 6 5, x_icge 6, x_lda 0, x_lda 1, x_ldi 4, x_ldi 2, x_call BT_isName 4, x_ifeq 5, x_lda 0, x_ic 3, x_ldi 3, x_calv TP_fail 3 8, x_rz]
def k_BT_nameTold_5 : List AI := [x_inc 4 1, x_go 4]
def k_BT_nameTold_6 : List AI := [x_lda 1, x_gi 6 5, x_ic 6, x_imul, x_s1i 4, x_ic 0, x_s1i 5, x_fall 7]
def k_BT_nameTold_7 : List AI := [x_ldi 5, x_ldi 2, x_ldi 3, x_isub, x_icge 8, x_ldi 4, x_ldi 5, x_iadd, x_lda 1, x_ga 7 5, x_len, x_icge 8, x_lda 1, x_ga 7 5, x_ldi 4, x_ldi 5, x_iadd, x_lda 0, x_ldi 3, x_ldi 5, x_iadd, x_calv TP_byteAt 2 8, x_ic 97, x_isub, x_ic 1, x_iadd, x_asi, x_inc 5 1, x_go 7]
def k_BT_nameTold_8 : List AI := [x_lda 0, x_calv0 TP_passWord 1 8, x_ic 1, x_rz]
def kb_BT_nameTold : List (List AI) := [k_BT_nameTold_0, k_BT_nameTold_1, k_BT_nameTold_2, k_BT_nameTold_3, k_BT_nameTold_4, k_BT_nameTold_5, k_BT_nameTold_6, k_BT_nameTold_7, k_BT_nameTold_8]
def k_BT_isName_0 : List AI := [x_ic 0, x_s1i 4, x_fall 1]
def k_BT_isName_1 : List AI := [x_ldi 4, x_ic 6, x_icge 5, x_lda 0, x_gi 2 8, x_ldi 4, x_iadd, x_ldi 3, x_icge 2, x_lda 0, x_lda 0, x_gi 2 8, x_ldi 4, x_iadd, x_calv TP_byteAt 2 8, x_ic 97, x_isub, x_ic 1, x_iadd, x_go 3]
def k_BT_isName_2 : List AI := [x_ic 0, x_fall 3]
def k_BT_isName_3 : List AI := [x_s1i 5, x_lda 1, x_ga 7 5, x_ldi 2, x_ic 6, x_imul, x_ldi 4, x_iadd, x_ali, x_ldi 5, x_iceq 4, x_ic 0, x_rz]
def k_BT_isName_4 : List AI := [x_inc 4 1, x_go 1]
def k_BT_isName_5 : List AI := [x_ic 1, x_rz]
def kb_BT_isName : List (List AI) := [k_BT_isName_0, k_BT_isName_1, k_BT_isName_2, k_BT_isName_3, k_BT_isName_4, k_BT_isName_5]
def k_BT_eachTold_0 : List AI := [x_lda 0, x_ic 0, x_ic 12, x_calv TP_takeNumber 3 8, x_ifne 1, x_ic 0, x_rz]
def k_BT_eachTold_1 : List AI := [x_lda 1, x_lda 0, x_gi 4 8, x_pi 10 5, x_ic 1, x_rz]
def kb_BT_eachTold : List (List AI) := [k_BT_eachTold_0, k_BT_eachTold_1]
def k_BT_fixTold_0 : List AI := [x_lda 0, x_ic 0, x_ic 99999, x_calv TP_takeNumber 3 8, x_ifne 1, x_ic 0, x_rz]
def k_BT_fixTold_1 : List AI := [x_lda 1, x_lda 0, x_gi 4 8, x_calv PL_seatAtPlace 2 5, x_s1i 2, x_ldi 2, x_ic (-1), x_icne 2, x_lda 0, x_ic 2, x_lda 0, x_gi 5 8, x_calv TP_fail 3 8, x_rz]
def k_BT_fixTold_2 : List AI := [x_lda 0, x_str 901, x_calv TP_wordHere 2 8, x_ic 8, x_icne 3, x_ic 1, x_go 4]
def k_BT_fixTold_3 : List AI := [x_ic 0, x_fall 4]
def k_BT_fixTold_4 : List AI := [x_s1i 3, x_lda 0, x_str 901, x_ldi 3, x_ifeq 5, x_ic 8, x_go 6]
def k_BT_fixTold_5 : List AI := [x_ic 7, x_fall 6]
def k_BT_fixTold_6 : List AI := [x_calv TP_takeWord 3 8, x_ifne 7, x_ic 0, x_rz]
def k_BT_fixTold_7 : List AI := [x_lda 1, x_ldi 2, x_ldi 3, x_calv0 PL_fixSeat 3 5, x_ic 1, x_rz]
def kb_BT_fixTold : List (List AI) := [k_BT_fixTold_0, k_BT_fixTold_1, k_BT_fixTold_2, k_BT_fixTold_3, k_BT_fixTold_4, k_BT_fixTold_5, k_BT_fixTold_6, k_BT_fixTold_7]
def k_BT_wantTold_0 : List AI := [x_lda 0, x_ic 0, x_ic 3, x_calv TP_takeNumber 3 8, x_ifne 1, x_ic 0, x_rz]
def k_BT_wantTold_1 : List AI := [x_lda 0, x_gi 4 8, x_s1i 2, x_lda 0, x_str 901, x_ic 10, x_calv TP_takeWord 3 8, x_ifeq 2, x_lda 0, x_ic 9999, x_calv TP_takeSignedNumber 2 8, x_ifne 3, x_fall 2]
def k_BT_wantTold_2 : List AI := [x_ic 0, x_rz]
def k_BT_wantTold_3 : List AI := [x_lda 1, x_ldi 2, x_lda 0, x_gi 4 8, x_calv0 PL_wantSwing 3 5, x_ic 1, x_rz]
def kb_BT_wantTold : List (List AI) := [k_BT_wantTold_0, k_BT_wantTold_1, k_BT_wantTold_2, k_BT_wantTold_3]
def k_BT_nearTold_0 : List AI := [x_lda 0, x_ic 0, x_ic 9999, x_calv TP_takeNumber 3 8, x_ifne 1, x_ic 0, x_rz]
def k_BT_nearTold_1 : List AI := [x_lda 1, x_lda 0, x_gi 4 8, x_pi 12 5, x_ic 1, x_rz]
def kb_BT_nearTold : List (List AI) := [k_BT_nearTold_0, k_BT_nearTold_1]
def k_BT_runTold_0 : List AI := [x_lda 0, x_lda 1, x_call BT_sidesTold 2, x_ifeq 1, x_lda 0, x_str 901, x_ic 13, x_calv TP_takeWord 3 8, x_ifeq 1, x_lda 0, x_ic 0, x_ic 3, x_calv TP_takeNumber 3 8, x_ifne 2, x_fall 1]
def k_BT_runTold_1 : List AI := [x_ic 0, x_rz]
def k_BT_runTold_2 : List AI := [x_lda 0, x_gi 4 8, x_s1i 2, x_lda 0, x_str 901, x_ic 14, x_calv TP_takeWord 3 8, x_ifeq 3, x_lda 0, x_ic 99999, x_calv TP_takeSignedNumber 2 8, x_ifne 4, x_fall 3]
def k_BT_runTold_3 : List AI := [x_ic 0, x_rz]
def k_BT_runTold_4 : List AI := [x_lda 1, x_ldi 2, x_lda 0, x_gi 4 8, x_calv0 PL_addRun 3 5, x_ic 1, x_rz]
def kb_BT_runTold : List (List AI) := [k_BT_runTold_0, k_BT_runTold_1, k_BT_runTold_2, k_BT_runTold_3, k_BT_runTold_4]
def k_BT_sidesTold_0 : List AI := [x_lda 0, x_calv TP_anyWordEnd 1 8, x_s1i 2, x_ldi 2, x_ic (-1), x_iceq 1, x_ldi 2, x_lda 0, x_gi 2 8, x_isub, x_lda 1, x_gi 0 5, x_iceq 2, x_fall 1]
def k_BT_sidesTold_1 : List AI := [x_lda 0, x_calv TP_failHere 1 8, x_rz]
def k_BT_sidesTold_2 : List AI := [x_ic 0, x_s1i 3, x_fall 3]
def k_BT_sidesTold_3 : List AI := [x_ldi 3, x_lda 1, x_gi 0 5, x_icge 9, x_lda 0, x_lda 0, x_gi 2 8, x_ldi 3, x_iadd, x_calv TP_byteAt 2 8, x_s1i 4, x_ldi 4, x_ic 108, x_iceq 4, x_ldi 4, x_ic 114, x_iceq 4, x_ldi 4, x_ic 120, x_iceq 4, x_lda 0, x_calv TP_failHere 1 8, x_rz]
def k_BT_sidesTold_4 : List AI := [x_ldi 4, x_ic 114, x_icne 5, x_ic 1, x_go 6]
def k_BT_sidesTold_5 : List AI := [x_ic (-1), x_fall 6]
def k_BT_sidesTold_6 : List AI := [x_s1i 5, x_lda 1, x_ldi 3, x_ldi 4, x_ic 120, x_icne 7, x_ic 0, x_go 8]
def k_BT_sidesTold_7 : List AI := [x_ldi 5, x_fall 8]
def k_BT_sidesTold_8 : List AI := [x_calv0 PL_setRunSide 3 5, x_inc 3 1, x_go 3]
def k_BT_sidesTold_9 : List AI := [x_lda 0, x_calv0 TP_passWord 1 8, x_ic 1, x_rz]
def kb_BT_sidesTold : List (List AI) := [k_BT_sidesTold_0, k_BT_sidesTold_1, k_BT_sidesTold_2, k_BT_sidesTold_3, k_BT_sidesTold_4, k_BT_sidesTold_5, k_BT_sidesTold_6, k_BT_sidesTold_7, k_BT_sidesTold_8, k_BT_sidesTold_9]
def k_BT_payTold_0 : List AI := [x_lda 0, x_ic 1, x_ic 999, x_calv TP_takeNumber 3 8, x_ifne 1, x_ic 0, x_rz]
def k_BT_payTold_1 : List AI := [x_lda 0, x_gi 4 8, x_s1i 2, x_lda 0, x_str 901, x_ic 16, x_calv TP_takeWord 3 8, x_ifeq 2, x_lda 0, x_ic 0, x_ic 999, x_calv TP_takeNumber 3 8, x_ifne 3, x_fall 2]
def k_BT_payTold_2 : List AI := [x_ic 0, x_rz]
def k_BT_payTold_3 : List AI := [x_lda 1, x_ldi 2, x_lda 0, x_gi 4 8, x_calv0 PL_addPayment 3 5, x_ic 1, x_rz]
def kb_BT_payTold : List (List AI) := [k_BT_payTold_0, k_BT_payTold_1, k_BT_payTold_2, k_BT_payTold_3]
def k_CH_init_0 : List AI := [x_lda 0, x_obj, x_lda 0, x_ic 12, x_nw 1, x_pa 0 0, x_lda 0, x_ic 48, x_nw 2, x_pa 1 0, x_lda 0, x_ic 4, x_nw 2, x_pa 2 0, x_lda 0, x_ic 0, x_pi 3 0, x_lda 0, x_ic 0, x_pi 4 0, x_ret]
def kb_CH_init : List (List AI) := [k_CH_init_0]
def k_CH_fewest_0 : List AI := [x_lda 0, x_lda 1, x_calv0 CH_load 2 0, x_ic 0, x_s1i 2, x_fall 1]
def k_CH_fewest_1 : List AI := [x_ldi 2, x_ic 3, x_icgt 5, x_ldi 2, x_s1i 3, x_fall 2]
def k_CH_fewest_2 : List AI := [x_ldi 3, x_iflt 4, x_lda 0, x_lda 1, x_ga 0 1, x_ldi 3, x_calv CH_canBeLawful 3 0, x_ifeq 3, x_lda 0, x_lda 1, x_ga 0 1, x_ldi 2, x_ldi 3, x_isub, x_ldi 3, x_ic 1, x_calv CH_bySwaps 5 0, x_ifeq 3, x_ldi 2, x_ri]
def k_CH_fewest_3 : List AI := [x_inc 3 (-1), x_go 2]
def k_CH_fewest_4 : List AI := [x_inc 2 1, x_go 1]
def k_CH_fewest_5 : List AI := [x_ic (-1), x_ri]
def kb_CH_fewest : List (List AI) := [k_CH_fewest_0, k_CH_fewest_1, k_CH_fewest_2, k_CH_fewest_3, k_CH_fewest_4, k_CH_fewest_5]
def k_CH_load_0 : List AI := [x_lda 0, x_lda 1, x_calv CW_sides 1 1, x_pi 4 0, x_ic 0, x_s1i 2, x_fall 1]
def k_CH_load_1 : List AI := [x_ldi 2, x_ic 12, x_icge 2, x_lda 0, x_ga 0 0, x_ldi 2, x_lda 1, x_ldi 2, x_lda 1, x_gi 3 1, x_calv CW_forceIn 3 1, x_asi, x_inc 2 1, x_go 1]
def k_CH_load_2 : List AI := [x_lda 0, x_ic 0, x_pi 3 0, x_ic 0, x_s1i 2, x_fall 3]
def k_CH_load_3 : List AI := [x_ldi 2, x_ic 4, x_icge 7, x_lda 1, x_ga 0 1, x_ga 11 5, x_ldi 2, x_all, x_s2 3, x_ldl 3, x_lc (-1000000000000000), x_lcmp, x_ifeq 6, x_ic 0, x_s1i 5, x_fall 4]
def k_CH_load_4 : List AI := [x_ldi 5, x_ic 12, x_icge 5, x_lda 0, x_ga 1 0, x_lda 0, x_gi 3 0, x_ic 12, x_imul, x_ldi 5, x_iadd, x_lda 1, x_ldi 2, x_ldi 5, x_calv CW_leverToSide 3 1, x_asl, x_inc 5 1, x_go 4]
def k_CH_load_5 : List AI := [x_lda 0, x_ga 2 0, x_lda 0, x_gi 3 0, x_lda 1, x_ldi 2, x_lda 1, x_gi 3 1, x_calv CW_swingAt 3 1, x_ldl 3, x_lsub, x_asl, x_lda 0, x_dup, x_gi 3 0, x_ic 1, x_iadd, x_pi 3 0, x_fall 6]
def k_CH_load_6 : List AI := [x_inc 2 1, x_go 3]
def k_CH_load_7 : List AI := [x_ret]
def kb_CH_load : List (List AI) := [k_CH_load_0, k_CH_load_1, k_CH_load_2, k_CH_load_3, k_CH_load_4, k_CH_load_5, k_CH_load_6, k_CH_load_7]
def k_CH_canBeLawful_0 : List AI := [x_lda 1, x_gi 10 5, x_ic (-1), x_icne 1, x_ic 1, x_rz]
def k_CH_canBeLawful_1 : List AI := [x_lda 1, x_gi 0 5, x_lda 0, x_gi 4 0, x_call JK_bitCount 1, x_isub, x_lda 1, x_gi 10 5, x_isub, x_call JK_absI 1, x_s1i 3, x_ldi 3, x_ldi 2, x_icgt 2, x_ldi 2, x_ldi 3, x_isub, x_ic 2, x_irem, x_ifne 2, x_ic 1, x_go 3]
def k_CH_canBeLawful_2 : List AI := [x_ic 0, x_fall 3]
def k_CH_canBeLawful_3 : List AI := [x_rz]
def kb_CH_canBeLawful : List (List AI) := [k_CH_canBeLawful_0, k_CH_canBeLawful_1, k_CH_canBeLawful_2, k_CH_canBeLawful_3]
def k_CH_bySwaps_0 : List AI := [x_ldi 2, x_ifgt 1, x_lda 0, x_lda 1, x_ldi 3, x_ic 0, x_calv CH_byTurns 4 0, x_rz]
def k_CH_bySwaps_1 : List AI := [x_ldi 4, x_s1i 5, x_fall 2]
def k_CH_bySwaps_2 : List AI := [x_ldi 5, x_lda 1, x_gi 0 5, x_icge 6, x_ic 0, x_s1i 6, x_fall 3]
def k_CH_bySwaps_3 : List AI := [x_ldi 6, x_ldi 5, x_icge 5, x_lda 0, x_ga 0 0, x_ldi 6, x_ali, x_lda 0, x_ga 0 0, x_ldi 5, x_ali, x_iceq 4, x_lda 0, x_ldi 6, x_ldi 5, x_calv0 CH_exchange 3 0, x_lda 0, x_lda 1, x_ldi 2, x_ic 1, x_isub, x_ldi 3, x_ldi 5, x_ic 1, x_iadd, x_calv CH_bySwaps 5 0, x_s1i 7, x_lda 0, x_ldi 6, x_ldi 5, x_calv0 CH_exchange 3 0, x_ldi 7, x_ifeq 4, x_ic 1, x_rz]
def k_CH_bySwaps_4 : List AI := [x_inc 6 1, x_go 3]
def k_CH_bySwaps_5 : List AI := [x_inc 5 1, x_go 2]
def k_CH_bySwaps_6 : List AI := [x_ic 0, x_rz]
def kb_CH_bySwaps : List (List AI) := [k_CH_bySwaps_0, k_CH_bySwaps_1, k_CH_bySwaps_2, k_CH_bySwaps_3, k_CH_bySwaps_4, k_CH_bySwaps_5, k_CH_bySwaps_6]
def k_CH_byTurns_0 : List AI := [x_ldi 2, x_ifgt 3, x_lda 1, x_lda 0, x_gi 4 0, x_calv PL_allows 2 5, x_ifeq 1, x_lda 0, x_lda 1, x_gi 12 5, x_calv CH_isGood 2 0, x_ifeq 1, x_ic 1, x_go 2]
def k_CH_byTurns_1 : List AI := [x_ic 0, x_fall 2]
def k_CH_byTurns_2 : List AI := [x_rz]
def k_CH_byTurns_3 : List AI := [x_ldi 3, x_s1i 4, x_fall 4]
def k_CH_byTurns_4 : List AI := [x_ldi 4, x_lda 1, x_gi 0 5, x_icge 6, x_lda 1, x_ldi 4, x_calv PL_isFixed 2 5, x_ifne 5, x_lda 0, x_ldi 4, x_calv0 CH_flip 2 0, x_lda 0, x_lda 1, x_ldi 2, x_ic 1, x_isub, x_ldi 4, x_ic 1, x_iadd, x_calv CH_byTurns 4 0, x_s1i 5, x_lda 0, x_ldi 4, x_calv0 CH_flip 2 0, x_ldi 5, x_ifeq 5, x_ic 1, x_rz]
def k_CH_byTurns_5 : List AI := [x_inc 4 1, x_go 4]
def k_CH_byTurns_6 : List AI := [x_ic 0, x_rz]
def kb_CH_byTurns : List (List AI) := [k_CH_byTurns_0, k_CH_byTurns_1, k_CH_byTurns_2, k_CH_byTurns_3, k_CH_byTurns_4, k_CH_byTurns_5, k_CH_byTurns_6]
def k_CH_isGood_0 : List AI := [x_ic 0, x_s1i 2, x_fall 1]
def k_CH_isGood_1 : List AI := [x_ldi 2, x_lda 0, x_gi 3 0, x_icge 3, x_lda 0, x_ga 2 0, x_ldi 2, x_all, x_call JK_absL 1, x_ldi 1, x_i2l, x_lcmp, x_ifle 2, x_ic 0, x_rz]
def k_CH_isGood_2 : List AI := [x_inc 2 1, x_go 1]
def k_CH_isGood_3 : List AI := [x_ic 1, x_rz]
def kb_CH_isGood : List (List AI) := [k_CH_isGood_0, k_CH_isGood_1, k_CH_isGood_2, k_CH_isGood_3]
def k_CH_exchange_0 : List AI := [x_lda 0, x_ga 0 0, x_ldi 2, x_ali, x_lda 0, x_ga 0 0, x_ldi 1, x_ali, x_isub, x_i2l, x_s2 3, x_ic 0, x_s1i 5, x_fall 1]
def k_CH_exchange_1 : List AI := [x_ldi 5, x_lda 0, x_gi 3 0, x_icge 2, x_ldi 5, x_ic 12, x_imul, x_s1i 6, x_lda 0, x_ga 2 0, x_ldi 5, x_dup2, x_all, x_ldl 3, x_lda 0, x_ga 1 0, x_ldi 6, x_ldi 1, x_iadd, x_all, x_lda 0, x_ga 1 0, x_ldi 6, x_ldi 2, x_iadd, x_all, x_lsub, x_lmul, x_ladd, x_asl, x_inc 5 1, x_go 1]
def k_CH_exchange_2 : List AI := [x_lda 0, x_ga 0 0, x_ldi 1, x_ali, x_s1i 5, x_lda 0, x_ga 0 0, x_ldi 1, x_lda 0, x_ga 0 0, x_ldi 2, x_ali, x_asi, x_lda 0, x_ga 0 0, x_ldi 2, x_ldi 5, x_asi, x_ret]
def kb_CH_exchange : List (List AI) := [k_CH_exchange_0, k_CH_exchange_1, k_CH_exchange_2]
def k_CH_flip_0 : List AI := [x_lda 0, x_dup, x_gi 4 0, x_ic 1, x_ldi 1, x_ishl, x_ixor, x_pi 4 0, x_ic 0, x_s1i 2, x_fall 1]
def k_CH_flip_1 : List AI := [x_ldi 2, x_lda 0, x_gi 3 0, x_icge 2, x_ldi 2, x_ic 12, x_imul, x_ldi 1, x_iadd, x_s1i 3, x_lda 0, x_ga 2 0, x_ldi 2, x_dup2, x_all, x_ic 2, x_lda 0, x_ga 0 0, x_ldi 1, x_ali, x_imul, x_i2l, x_lda 0, x_ga 1 0, x_ldi 3, x_all, x_lmul, x_lsub, x_asl, x_lda 0, x_ga 1 0, x_ldi 3, x_lda 0, x_ga 1 0, x_ldi 3, x_all, x_lneg, x_asl, x_inc 2 1, x_go 1]
def k_CH_flip_2 : List AI := [x_ret]
def kb_CH_flip : List (List AI) := [k_CH_flip_0, k_CH_flip_1, k_CH_flip_2]
def k_CW_init_0 : List AI := [x_lda 0, x_obj, x_lda 0, x_new 5, x_dup, x_cals0 PL_init 1 5, x_pa 0 1, x_lda 0, x_ic 12, x_nw 1, x_pa 1 1, x_lda 0, x_ic 12, x_nw 1, x_pa 2 1, x_lda 0, x_ic 0, x_pi 3 1, x_lda 0, x_lc 0, x_pl 4 1, x_lda 0, x_lc 1, x_pl 5 1, x_lda 0, x_ic 30, x_nw 1, x_pa 6 1, x_lda 0, x_ic 30, x_nw 1, x_pa 7 1, x_lda 0, x_ic 30, x_nw 1, x_pa 8 1, x_lda 0, x_ic 30, x_nw 2, x_pa 9 1, x_lda 0, x_ic 0, x_pi 10 1, x_lda 0, x_ic 0, x_pi 11 1, x_lda 0, x_ic 35, x_nw 3, x_pa 12 1, x_lda 0, x_ic 0, x_pi 13 1, x_lda 0, x_ga 1 1, x_ic (-1), x_call0 JK_fillI 2, x_ret]
def kb_CW_init : List (List AI) := [k_CW_init_0]
def k_CW_board_0 : List AI := [x_lda 0, x_lda 1, x_pa 0 1, x_ic 0, x_s1i 2, x_fall 1]
def k_CW_board_1 : List AI := [x_ldi 2, x_ic 12, x_icge 4, x_lda 0, x_ga 1 1, x_ldi 2, x_ldi 2, x_lda 1, x_calv PL_seatedAtFirst 1 5, x_icge 2, x_ldi 2, x_go 3]
def k_CW_board_2 : List AI := [x_ic (-1), x_fall 3]
def k_CW_board_3 : List AI := [x_asi, x_lda 0, x_ga 2 1, x_ldi 2, x_lda 1, x_ldi 2, x_calv PL_sideAtFirst 2 5, x_asi, x_inc 2 1, x_go 1]
def k_CW_board_4 : List AI := [x_lda 0, x_ic 0, x_pi 3 1, x_lda 0, x_lc 0, x_pl 4 1, x_lda 0, x_ic 0, x_pi 11 1, x_ret]
def kb_CW_board : List (List AI) := [k_CW_board_0, k_CW_board_1, k_CW_board_2, k_CW_board_3, k_CW_board_4]
def k_CW_seatOf_0 : List AI := [x_ic 0, x_s1i 2, x_fall 1]
def k_CW_seatOf_1 : List AI := [x_ldi 2, x_lda 0, x_ga 0 1, x_gi 0 5, x_icge 3, x_lda 0, x_ga 1 1, x_ldi 2, x_ali, x_ldi 1, x_icne 2, x_ldi 2, x_ri]
def k_CW_seatOf_2 : List AI := [x_inc 2 1, x_go 1]
def k_CW_seatOf_3 : List AI := [x_ic (-1), x_ri]
def kb_CW_seatOf : List (List AI) := [k_CW_seatOf_0, k_CW_seatOf_1, k_CW_seatOf_2, k_CW_seatOf_3]
def k_CW_sides_0 : List AI := [x_ic 0, x_s1i 1, x_ic 0, x_s1i 2, x_fall 1]
def k_CW_sides_1 : List AI := [x_ldi 2, x_lda 0, x_ga 0 1, x_gi 0 5, x_icge 2, x_ldi 1, x_lda 0, x_ga 2 1, x_ldi 2, x_ali, x_ldi 2, x_ishl, x_ior, x_s1i 1, x_inc 2 1, x_go 1]
def k_CW_sides_2 : List AI := [x_ldi 1, x_ri]
def kb_CW_sides : List (List AI) := [k_CW_sides_0, k_CW_sides_1, k_CW_sides_2]
def k_CW_strengthAt_0 : List AI := [x_ldi 1, x_iflt 1, x_ldi 1, x_lda 0, x_ga 0 1, x_gi 6 5, x_iclt 2, x_fall 1]
def k_CW_strengthAt_1 : List AI := [x_ic 0, x_ri]
def k_CW_strengthAt_2 : List AI := [x_ic 0, x_lda 0, x_ga 0 1, x_ga 8 5, x_ldi 1, x_ali, x_lda 0, x_ga 0 1, x_ga 9 5, x_ldi 1, x_ali, x_ldi 2, x_ic 10, x_idiv, x_imul, x_isub, x_call JK_maxI 2, x_ri]
def kb_CW_strengthAt : List (List AI) := [k_CW_strengthAt_0, k_CW_strengthAt_1, k_CW_strengthAt_2]
def k_CW_forceIn_0 : List AI := [x_lda 0, x_ga 0 1, x_ldi 1, x_calv PL_isSeat 2 5, x_ifeq 1, x_lda 0, x_lda 0, x_ga 1 1, x_ldi 1, x_ali, x_ldi 2, x_calv CW_strengthAt 3 1, x_go 2]
def k_CW_forceIn_1 : List AI := [x_ic 0, x_fall 2]
def k_CW_forceIn_2 : List AI := [x_ri]
def kb_CW_forceIn : List (List AI) := [k_CW_forceIn_0, k_CW_forceIn_1, k_CW_forceIn_2]
def k_CW_leverToSide_0 : List AI := [x_lda 0, x_ga 0 1, x_ldi 2, x_calv PL_isSeat 2 5, x_ifne 1, x_lc 0, x_rl]
def k_CW_leverToSide_1 : List AI := [x_lda 0, x_ga 0 1, x_ldi 1, x_ldi 2, x_calv PL_leverOf 3 5, x_s2 3, x_lda 0, x_ga 2 1, x_ldi 2, x_ali, x_ic 1, x_icne 2, x_ldl 3, x_go 3]
def k_CW_leverToSide_2 : List AI := [x_ldl 3, x_lneg, x_fall 3]
def k_CW_leverToSide_3 : List AI := [x_rl]
def kb_CW_leverToSide : List (List AI) := [k_CW_leverToSide_0, k_CW_leverToSide_1, k_CW_leverToSide_2, k_CW_leverToSide_3]
def k_CW_swingAt_0 : List AI := [x_lc 0, x_s2 3, x_ic 0, x_s1i 5, x_fall 1]
def k_CW_swingAt_1 : List AI := [x_ldi 5, x_lda 0, x_ga 0 1, x_gi 0 5, x_icge 2, x_ldl 3, x_lda 0, x_ldi 5, x_ldi 2, x_calv CW_forceIn 3 1, x_i2l, x_lda 0, x_ldi 1, x_ldi 5, x_calv CW_leverToSide 3 1, x_lmul, x_ladd, x_s2 3, x_inc 5 1, x_go 1]
def k_CW_swingAt_2 : List AI := [x_ldl 3, x_rl]
def kb_CW_swingAt : List (List AI) := [k_CW_swingAt_0, k_CW_swingAt_1, k_CW_swingAt_2]
def k_CW_offAt_0 : List AI := [x_lc 0, x_s2 2, x_ic 0, x_s1i 4, x_fall 1]
def k_CW_offAt_1 : List AI := [x_ldi 4, x_ic 4, x_icge 3, x_lda 0, x_ga 0 1, x_ga 11 5, x_ldi 4, x_all, x_lc (-1000000000000000), x_lcmp, x_ifeq 2, x_ldl 2, x_lda 0, x_ldi 4, x_ldi 1, x_calv CW_swingAt 3 1, x_lda 0, x_ga 0 1, x_ga 11 5, x_ldi 4, x_all, x_lsub, x_call JK_absL 1, x_ladd, x_s2 2, x_fall 2]
def k_CW_offAt_2 : List AI := [x_inc 4 1, x_go 1]
def k_CW_offAt_3 : List AI := [x_ldl 2, x_rl]
def kb_CW_offAt : List (List AI) := [k_CW_offAt_0, k_CW_offAt_1, k_CW_offAt_2, k_CW_offAt_3]
def k_CW_isGoodAt_0 : List AI := [x_ic 0, x_s1i 2, x_fall 1]
def k_CW_isGoodAt_1 : List AI := [x_ldi 2, x_ic 4, x_icge 3, x_lda 0, x_ga 0 1, x_ga 11 5, x_ldi 2, x_all, x_lc (-1000000000000000), x_lcmp, x_ifeq 2, x_lda 0, x_ldi 2, x_ldi 1, x_calv CW_swingAt 3 1, x_lda 0, x_ga 0 1, x_ga 11 5, x_ldi 2, x_all, x_lsub, x_call JK_absL 1, x_lda 0, x_ga 0 1, x_gi 12 5, x_i2l, x_lcmp, x_ifle 2, x_ic 0, x_rz]
def k_CW_isGoodAt_2 : List AI := [x_inc 2 1, x_go 1]
def k_CW_isGoodAt_3 : List AI := [x_ic 1, x_rz]
def kb_CW_isGoodAt : List (List AI) := [k_CW_isGoodAt_0, k_CW_isGoodAt_1, k_CW_isGoodAt_2, k_CW_isGoodAt_3]
def k_CW_turnSeat_0 : List AI := [x_lda 0, x_ga 0 1, x_ldi 1, x_calv PL_isSeat 2 5, x_ifeq 1, x_lda 0, x_ga 0 1, x_ldi 1, x_calv PL_isFixed 2 5, x_ifeq 2, x_fall 1]
def k_CW_turnSeat_1 : List AI := [x_ic 0, x_rz]
def k_CW_turnSeat_2 : List AI := [x_lda 0, x_ic 0, x_ldi 1, x_ic (-1), x_calv0 CW_noteAct 4 1, x_lda 0, x_ldi 1, x_calv0 CW_flip 2 1, x_ic 1, x_rz]
def kb_CW_turnSeat : List (List AI) := [k_CW_turnSeat_0, k_CW_turnSeat_1, k_CW_turnSeat_2]
def k_CW_swapRowers_0 : List AI := [x_lda 0, x_ga 0 1, x_ldi 1, x_calv PL_isSeat 2 5, x_ifeq 1, x_lda 0, x_ga 0 1, x_ldi 2, x_calv PL_isSeat 2 5, x_ifeq 1, x_ldi 1, x_ldi 2, x_icne 2, x_fall 1]
def k_CW_swapRowers_1 : List AI := [x_ic 0, x_rz]
def k_CW_swapRowers_2 : List AI := [x_lda 0, x_ga 1 1, x_ldi 1, x_ali, x_ic (-1), x_icne 3, x_lda 0, x_ga 1 1, x_ldi 2, x_ali, x_ic (-1), x_icne 3, x_ic 0, x_rz]
def k_CW_swapRowers_3 : List AI := [x_lda 0, x_ic 1, x_ldi 1, x_ldi 2, x_calv0 CW_noteAct 4 1, x_lda 0, x_ldi 1, x_ldi 2, x_calv0 CW_exchange 3 1, x_ic 1, x_rz]
def kb_CW_swapRowers : List (List AI) := [k_CW_swapRowers_0, k_CW_swapRowers_1, k_CW_swapRowers_2, k_CW_swapRowers_3]
def k_CW_passBy_0 : List AI := [x_lda 0, x_ic 2, x_ldi 1, x_ic (-1), x_calv0 CW_noteAct 4 1, x_lda 0, x_dup, x_gi 3 1, x_ldi 1, x_iadd, x_pi 3 1, x_ret]
def kb_CW_passBy : List (List AI) := [k_CW_passBy_0]
def k_CW_rowOn_0 : List AI := [x_lda 0, x_ic 2, x_ldi 1, x_ic (-1), x_calv0 CW_noteAct 4 1, x_ic 0, x_s1i 2, x_fall 1]
def k_CW_rowOn_1 : List AI := [x_ldi 2, x_ldi 1, x_icge 2, x_lda 0, x_dup, x_gi 3 1, x_ic 1, x_iadd, x_pi 3 1, x_lda 0, x_dup, x_gl 4 1, x_lda 0, x_calv CW_drawnSwing 1 1, x_ladd, x_pl 4 1, x_inc 2 1, x_go 1]
def k_CW_rowOn_2 : List AI := [x_ret]
def kb_CW_rowOn : List (List AI) := [k_CW_rowOn_0, k_CW_rowOn_1, k_CW_rowOn_2]
def k_CW_undoAct_0 : List AI := [x_lda 0, x_gi 11 1, x_ifne 1, x_ic 0, x_rz]
def k_CW_undoAct_1 : List AI := [x_lda 0, x_dup, x_gi 11 1, x_ic 1, x_isub, x_pi 11 1, x_lda 0, x_lda 0, x_gi 10 1, x_ic 30, x_iadd, x_ic 1, x_isub, x_ic 30, x_irem, x_pi 10 1, x_lda 0, x_ga 7 1, x_lda 0, x_gi 10 1, x_ali, x_s1i 1, x_lda 0, x_ga 6 1, x_lda 0, x_gi 10 1, x_ali, x_lsw 4 [(0, 2), (1, 3)]]
def k_CW_undoAct_2 : List AI := [x_lda 0, x_ldi 1, x_calv0 CW_flip 2 1, x_go 5]
def k_CW_undoAct_3 : List AI := [x_lda 0, x_ldi 1, x_lda 0, x_ga 8 1, x_lda 0, x_gi 10 1, x_ali, x_calv0 CW_exchange 3 1, x_go 5]
def k_CW_undoAct_4 : List AI := [x_lda 0, x_dup, x_gi 3 1, x_ldi 1, x_isub, x_pi 3 1, x_lda 0, x_lda 0, x_ga 9 1, x_lda 0, x_gi 10 1, x_all, x_pl 4 1, x_fall 5]
def k_CW_undoAct_5 : List AI := [x_ic 1, x_rz]
def kb_CW_undoAct : List (List AI) := [k_CW_undoAct_0, k_CW_undoAct_1, k_CW_undoAct_2, k_CW_undoAct_3, k_CW_undoAct_4, k_CW_undoAct_5]
def k_CW_writeImage_0 : List AI := [x_lda 0, x_ic 0, x_pi 13 1, x_lda 0, x_lda 0, x_gi 3 1, x_ic 8, x_ishr, x_calv0 CW_writeOctet 2 1, x_lda 0, x_lda 0, x_gi 3 1, x_calv0 CW_writeOctet 2 1, x_ic 56, x_s1i 1, x_fall 1]
def k_CW_writeImage_1 : List AI := [x_ldi 1, x_iflt 2, x_lda 0, x_lda 0, x_gl 4 1, x_ldi 1, x_lshr, x_l2i, x_calv0 CW_writeOctet 2 1, x_inc 1 (-8), x_go 1]
def k_CW_writeImage_2 : List AI := [x_ic 0, x_s1i 1, x_fall 3]
def k_CW_writeImage_3 : List AI := [x_ldi 1, x_lda 0, x_ga 0 1, x_gi 0 5, x_icge 4, x_lda 0, x_lda 0, x_ga 1 1, x_ldi 1, x_ali, x_ic 1, x_iadd, x_calv0 CW_writeOctet 2 1, x_lda 0, x_lda 0, x_ga 2 1, x_ldi 1, x_ali, x_calv0 CW_writeOctet 2 1, x_inc 1 1, x_go 3]
def k_CW_writeImage_4 : List AI := [x_ic 107, x_s1i 1, x_ic 0, x_s1i 2, x_fall 5]
def k_CW_writeImage_5 : List AI := [x_ldi 2, x_lda 0, x_gi 13 1, x_icge 6, x_ldi 1, x_lda 0, x_ga 12 1, x_ldi 2, x_alb, x_ic 255, x_iand, x_call CW_checkOn 2, x_s1i 1, x_inc 2 1, x_go 5]
def k_CW_writeImage_6 : List AI := [x_lda 0, x_ldi 1, x_calv0 CW_writeOctet 2 1, x_lda 0, x_gi 13 1, x_ri]
def kb_CW_writeImage : List (List AI) := [k_CW_writeImage_0, k_CW_writeImage_1, k_CW_writeImage_2, k_CW_writeImage_3, k_CW_writeImage_4, k_CW_writeImage_5, k_CW_writeImage_6]
def k_CW_takeImage_0 : List AI := [x_lda 0, x_lda 1, x_calv CW_isImage 2 1, x_ifne 1, x_ic 0, x_rz]
def k_CW_takeImage_1 : List AI := [x_lda 0, x_lda 1, x_call CW_strokeIn 1, x_pi 3 1, x_lda 0, x_lc 0, x_pl 4 1, x_ic 2, x_s1i 2, x_fall 2]
def k_CW_takeImage_2 : List AI := [x_ldi 2, x_ic 10, x_icge 3, x_lda 0, x_lda 0, x_gl 4 1, x_ic 8, x_lshl, x_lda 1, x_ldi 2, x_calv TP_byteAt 2 8, x_i2l, x_lor, x_pl 4 1, x_inc 2 1, x_go 2]
def k_CW_takeImage_3 : List AI := [x_ic 0, x_s1i 2, x_fall 4]
def k_CW_takeImage_4 : List AI := [x_ldi 2, x_lda 0, x_ga 0 1, x_gi 0 5, x_icge 5, x_lda 0, x_ga 1 1, x_ldi 2, x_lda 1, x_ic 10, x_ic 2, x_ldi 2, x_imul, x_iadd, x_calv TP_byteAt 2 8, x_ic 1, x_isub, x_asi, x_lda 0, x_ga 2 1, x_ldi 2, x_lda 1, x_ic 11, x_ic 2, x_ldi 2, x_imul, x_iadd, x_calv TP_byteAt 2 8, x_asi, x_inc 2 1, x_go 4]
def k_CW_takeImage_5 : List AI := [x_lda 0, x_ic 0, x_pi 11 1, x_ic 1, x_rz]
def kb_CW_takeImage : List (List AI) := [k_CW_takeImage_0, k_CW_takeImage_1, k_CW_takeImage_2, k_CW_takeImage_3, k_CW_takeImage_4, k_CW_takeImage_5]
def k_CW_isImage_0 : List AI := [x_ic 11, x_ic 2, x_lda 0, x_ga 0 1, x_gi 0 5, x_imul, x_iadd, x_s1i 2, x_lda 1, x_gi 1 8, x_ldi 2, x_iceq 1, x_ic 0, x_rz]
def k_CW_isImage_1 : List AI := [x_ic 107, x_s1i 3, x_ic 0, x_s1i 4, x_fall 2]
def k_CW_isImage_2 : List AI := [x_ldi 4, x_ldi 2, x_ic 1, x_isub, x_icge 3, x_ldi 3, x_lda 1, x_ldi 4, x_calv TP_byteAt 2 8, x_call CW_checkOn 2, x_s1i 3, x_inc 4 1, x_go 2]
def k_CW_isImage_3 : List AI := [x_ldi 3, x_lda 1, x_ldi 2, x_ic 1, x_isub, x_calv TP_byteAt 2 8, x_icne 4, x_lda 1, x_call CW_strokeIn 1, x_ic 9999, x_icgt 4, x_lda 0, x_lda 1, x_calv CW_rowersCanSitSo 2 1, x_ifeq 4, x_lda 0, x_lda 1, x_calv CW_sidesCanBeSo 2 1, x_ifeq 4, x_ic 1, x_go 5]
def k_CW_isImage_4 : List AI := [x_ic 0, x_fall 5]
def k_CW_isImage_5 : List AI := [x_rz]
def kb_CW_isImage : List (List AI) := [k_CW_isImage_0, k_CW_isImage_1, k_CW_isImage_2, k_CW_isImage_3, k_CW_isImage_4, k_CW_isImage_5]
def k_CW_rowersCanSitSo_0 : List AI := [x_ic 0, x_s1i 2, x_ic 0, x_s1i 3, x_fall 1]
def k_CW_rowersCanSitSo_1 : List AI := [x_ldi 3, x_lda 0, x_ga 0 1, x_gi 0 5, x_icge 5, x_lda 1, x_ic 10, x_ic 2, x_ldi 3, x_imul, x_iadd, x_calv TP_byteAt 2 8, x_ic 1, x_isub, x_s1i 4, x_ldi 4, x_ic (-1), x_iceq 4, x_lda 0, x_ga 0 1, x_ldi 4, x_calv PL_isRower 2 5, x_ifeq 2, x_ldi 2, x_ldi 4, x_ishr, x_ic 1, x_iand, x_ic 1, x_icne 3, x_fall 2]
def k_CW_rowersCanSitSo_2 : List AI := [x_ic 0, x_rz]
def k_CW_rowersCanSitSo_3 : List AI := [x_ldi 2, x_ic 1, x_ldi 4, x_ishl, x_ior, x_s1i 2, x_fall 4]
def k_CW_rowersCanSitSo_4 : List AI := [x_inc 3 1, x_go 1]
def k_CW_rowersCanSitSo_5 : List AI := [x_ldi 2, x_call JK_bitCount 1, x_lda 0, x_ga 0 1, x_calv PL_seatedAtFirst 1 5, x_icne 6, x_ic 1, x_go 7]
def k_CW_rowersCanSitSo_6 : List AI := [x_ic 0, x_fall 7]
def k_CW_rowersCanSitSo_7 : List AI := [x_rz]
def kb_CW_rowersCanSitSo : List (List AI) := [k_CW_rowersCanSitSo_0, k_CW_rowersCanSitSo_1, k_CW_rowersCanSitSo_2, k_CW_rowersCanSitSo_3, k_CW_rowersCanSitSo_4, k_CW_rowersCanSitSo_5, k_CW_rowersCanSitSo_6, k_CW_rowersCanSitSo_7]
def k_CW_sidesCanBeSo_0 : List AI := [x_ic 0, x_s1i 2, x_fall 1]
def k_CW_sidesCanBeSo_1 : List AI := [x_ldi 2, x_lda 0, x_ga 0 1, x_gi 0 5, x_icge 4, x_lda 1, x_ic 11, x_ic 2, x_ldi 2, x_imul, x_iadd, x_calv TP_byteAt 2 8, x_s1i 3, x_ldi 3, x_ic 1, x_icgt 2, x_lda 0, x_ga 0 1, x_ldi 2, x_calv PL_isFixed 2 5, x_ifeq 3, x_ldi 3, x_lda 0, x_ga 0 1, x_ldi 2, x_calv PL_sideAtFirst 2 5, x_iceq 3, x_fall 2]
def k_CW_sidesCanBeSo_2 : List AI := [x_ic 0, x_rz]
def k_CW_sidesCanBeSo_3 : List AI := [x_inc 2 1, x_go 1]
def k_CW_sidesCanBeSo_4 : List AI := [x_ic 1, x_rz]
def kb_CW_sidesCanBeSo : List (List AI) := [k_CW_sidesCanBeSo_0, k_CW_sidesCanBeSo_1, k_CW_sidesCanBeSo_2, k_CW_sidesCanBeSo_3, k_CW_sidesCanBeSo_4]
def k_CW_strokeIn_0 : List AI := [x_lda 0, x_ic 0, x_calv TP_byteAt 2 8, x_ic 8, x_ishl, x_lda 0, x_ic 1, x_calv TP_byteAt 2 8, x_ior, x_ri]
def kb_CW_strokeIn : List (List AI) := [k_CW_strokeIn_0]
def k_CW_checkOn_0 : List AI := [x_ic 5, x_ldi 0, x_imul, x_ldi 1, x_iadd, x_ic 251, x_irem, x_ri]
def kb_CW_checkOn : List (List AI) := [k_CW_checkOn_0]
def k_CW_writeOctet_0 : List AI := [x_lda 0, x_gi 13 1, x_lda 0, x_ga 12 1, x_len, x_icge 1, x_lda 0, x_ga 12 1, x_lda 0, x_gi 13 1, x_ldi 1, x_i2b, x_asb, x_lda 0, x_dup, x_gi 13 1, x_ic 1, x_iadd, x_pi 13 1, x_fall 1]
def k_CW_writeOctet_1 : List AI := [x_ret]
def kb_CW_writeOctet : List (List AI) := [k_CW_writeOctet_0, k_CW_writeOctet_1]
def k_CW_noteAct_0 : List AI := [x_lda 0, x_ga 6 1, x_lda 0, x_gi 10 1, x_ldi 1, x_asi, x_lda 0, x_ga 7 1, x_lda 0, x_gi 10 1, x_ldi 2, x_asi, x_lda 0, x_ga 8 1, x_lda 0, x_gi 10 1, x_ldi 3, x_asi, x_lda 0, x_ga 9 1, x_lda 0, x_gi 10 1, x_lda 0, x_gl 4 1, x_asl, x_lda 0, x_lda 0, x_gi 10 1, x_ic 1, x_iadd, x_ic 30, x_irem, x_pi 10 1, x_lda 0, x_ic 30, x_lda 0, x_gi 11 1, x_ic 1, x_iadd, x_call JK_minI 2, x_pi 11 1, x_ret]
def kb_CW_noteAct : List (List AI) := [k_CW_noteAct_0]
def k_CW_flip_0 : List AI := [x_lda 0, x_ga 0 1, x_ldi 1, x_calv PL_isSeat 2 5, x_ifeq 1, x_lda 0, x_ga 2 1, x_ldi 1, x_ic 1, x_lda 0, x_ga 2 1, x_ldi 1, x_ali, x_isub, x_asi, x_fall 1]
def k_CW_flip_1 : List AI := [x_ret]
def kb_CW_flip : List (List AI) := [k_CW_flip_0, k_CW_flip_1]
def k_CW_exchange_0 : List AI := [x_lda 0, x_ga 0 1, x_ldi 1, x_calv PL_isSeat 2 5, x_ifeq 1, x_lda 0, x_ga 0 1, x_ldi 2, x_calv PL_isSeat 2 5, x_ifeq 1, x_lda 0, x_ga 1 1, x_ldi 1, x_ali, x_s1i 3, x_lda 0, x_ga 1 1, x_ldi 1, x_lda 0, x_ga 1 1, x_ldi 2, x_ali, x_asi, x_lda 0, x_ga 1 1, x_ldi 2, x_ldi 3, x_asi, x_fall 1]
def k_CW_exchange_1 : List AI := [x_ret]
def kb_CW_exchange : List (List AI) := [k_CW_exchange_0, k_CW_exchange_1]
def k_CW_drawnSwing_0 : List AI := [x_lc 0, x_s2 1, x_ic 0, x_s1i 3, x_fall 1]
def k_CW_drawnSwing_1 : List AI := [x_ldi 3, x_lda 0, x_ga 0 1, x_gi 0 5, x_icge 3, x_lda 0, x_ga 1 1, x_ldi 3, x_ali, x_ic (-1), x_iceq 2, x_ic 0, x_lda 0, x_ldi 3, x_lda 0, x_gi 3 1, x_calv CW_forceIn 3 1, x_lda 0, x_calv CW_drawOfThree 1 1, x_iadd, x_ic 1, x_isub, x_call JK_maxI 2, x_s1i 4, x_ldl 1, x_ldi 4, x_i2l, x_lda 0, x_ic 1, x_ldi 3, x_calv CW_leverToSide 3 1, x_lmul, x_ladd, x_s2 1, x_fall 2]
def k_CW_drawnSwing_2 : List AI := [x_inc 3 1, x_go 1]
def k_CW_drawnSwing_3 : List AI := [x_ldl 1, x_rl]
def kb_CW_drawnSwing : List (List AI) := [k_CW_drawnSwing_0, k_CW_drawnSwing_1, k_CW_drawnSwing_2, k_CW_drawnSwing_3]
def k_CW_drawOfThree_0 : List AI := [x_lda 0, x_lc 1103515245, x_lda 0, x_gl 5 1, x_lmul, x_lc 12345, x_ladd, x_lc 2147483647, x_land, x_pl 5 1, x_lda 0, x_gl 5 1, x_lc 64, x_ldiv, x_lc 3, x_lrem, x_l2i, x_ri]
def kb_CW_drawOfThree : List (List AI) := [k_CW_drawOfThree_0]
def k_HV_init_0 : List AI := [x_lda 0, x_obj, x_lda 0, x_ic 8631, x_nw 2, x_pa 0 2, x_lda 0, x_ic 41, x_nw 2, x_pa 1 2, x_lda 0, x_ic 0, x_pz 2 2, x_lda 0, x_ic 0, x_pi 3 2, x_lda 0, x_ic 12, x_nw 2, x_pa 4 2, x_lda 0, x_ic 0, x_pi 5 2, x_lda 0, x_ic (-1), x_pi 6 2, x_ret]
def kb_HV_init : List (List AI) := [k_HV_init_0]
def k_HV_waysFor_0 : List AI := [x_ldi 1, x_ic 1, x_iclt 1, x_ldi 1, x_ic 40, x_icle 2, x_fall 1]
def k_HV_waysFor_1 : List AI := [x_lc (-1), x_rl]
def k_HV_waysFor_2 : List AI := [x_lda 0, x_gi 2 2, x_ifne 3, x_lda 0, x_calv0 HV_countWays 1 2, x_lda 0, x_ic 1, x_pz 2 2, x_fall 3]
def k_HV_waysFor_3 : List AI := [x_lda 0, x_ga 1 2, x_ldi 1, x_all, x_rl]
def kb_HV_waysFor : List (List AI) := [k_HV_waysFor_0, k_HV_waysFor_1, k_HV_waysFor_2, k_HV_waysFor_3]
def k_HV_countWays_0 : List AI := [x_lda 0, x_ga 0 2, x_ic 0, x_lc 1, x_asl, x_ic 1, x_s1i 1, x_fall 1]
def k_HV_countWays_1 : List AI := [x_ldi 1, x_ic 40, x_icgt 7, x_ldi 1, x_ic 20, x_call JK_minI 2, x_s1i 2, x_fall 2]
def k_HV_countWays_2 : List AI := [x_ldi 2, x_ic 1, x_iclt 5, x_ldi 2, x_ic 411, x_imul, x_s1i 3, x_ic 410, x_s1i 4, x_fall 3]
def k_HV_countWays_3 : List AI := [x_ldi 4, x_ldi 1, x_iclt 4, x_lda 0, x_ga 0 2, x_ldi 3, x_ldi 4, x_iadd, x_dup2, x_all, x_lda 0, x_ga 0 2, x_ldi 3, x_ic 411, x_isub, x_ldi 4, x_iadd, x_ldi 1, x_isub, x_all, x_ladd, x_asl, x_inc 4 (-1), x_go 3]
def k_HV_countWays_4 : List AI := [x_inc 2 (-1), x_go 2]
def k_HV_countWays_5 : List AI := [x_ldi 1, x_ic 4, x_irem, x_ifne 6, x_lda 0, x_ga 1 2, x_ldi 1, x_lda 0, x_ga 0 2, x_ldi 1, x_ic 2, x_idiv, x_ic 411, x_imul, x_ldi 1, x_ldi 1, x_ic 1, x_iadd, x_imul, x_ic 4, x_idiv, x_iadd, x_all, x_asl, x_fall 6]
def k_HV_countWays_6 : List AI := [x_inc 1 1, x_go 1]
def k_HV_countWays_7 : List AI := [x_ret]
def kb_HV_countWays : List (List AI) := [k_HV_countWays_0, k_HV_countWays_1, k_HV_countWays_2, k_HV_countWays_3, k_HV_countWays_4, k_HV_countWays_5, k_HV_countWays_6, k_HV_countWays_7]
def k_HV_wayAt_0 : List AI := [x_ldi 1, x_ic 1, x_iclt 1, x_ldi 1, x_ic 16, x_icgt 1, x_ldi 1, x_ic 4, x_irem, x_ifne 1, x_ldi 2, x_ifge 2, x_fall 1]
def k_HV_wayAt_1 : List AI := [x_ic (-1), x_ri]
def k_HV_wayAt_2 : List AI := [x_lda 0, x_ldi 2, x_pi 3 2, x_lda 0, x_ldi 1, x_ldi 1, x_ic 2, x_idiv, x_ldi 1, x_ldi 1, x_ic 1, x_iadd, x_imul, x_ic 4, x_idiv, x_ic 0, x_calv HV_choose 5 2, x_ri]
def kb_HV_wayAt : List (List AI) := [k_HV_wayAt_0, k_HV_wayAt_1, k_HV_wayAt_2]
def k_HV_choose_0 : List AI := [x_ldi 1, x_ifgt 3, x_lda 0, x_dup, x_gi 3 2, x_ic 1, x_isub, x_pi 3 2, x_lda 0, x_gi 3 2, x_ifge 1, x_ldi 4, x_go 2]
def k_HV_choose_1 : List AI := [x_ic (-1), x_fall 2]
def k_HV_choose_2 : List AI := [x_ri]
def k_HV_choose_3 : List AI := [x_ldi 1, x_ic 1, x_isub, x_ldi 2, x_ldi 3, x_call HV_canBe 3, x_ifeq 4, x_lda 0, x_ldi 1, x_ic 1, x_isub, x_ldi 2, x_ldi 3, x_ldi 4, x_calv HV_choose 5 2, x_s1i 5, x_ldi 5, x_ic (-1), x_iceq 4, x_ldi 5, x_ri]
def k_HV_choose_4 : List AI := [x_ldi 1, x_ic 1, x_isub, x_ldi 2, x_ic 1, x_isub, x_ldi 3, x_ldi 1, x_isub, x_call HV_canBe 3, x_ifeq 5, x_lda 0, x_ldi 1, x_ic 1, x_isub, x_ldi 2, x_ic 1, x_isub, x_ldi 3, x_ldi 1, x_isub, x_ldi 4, x_ic 1, x_ldi 1, x_ic 1, x_isub, x_ishl, x_ior, x_calv HV_choose 5 2, x_ri]
def k_HV_choose_5 : List AI := [x_ic (-1), x_ri]
def kb_HV_choose : List (List AI) := [k_HV_choose_0, k_HV_choose_1, k_HV_choose_2, k_HV_choose_3, k_HV_choose_4, k_HV_choose_5]
def k_HV_canBe_0 : List AI := [x_ldi 1, x_iflt 1, x_ldi 1, x_ldi 0, x_icgt 1, x_ldi 2, x_ldi 1, x_ldi 1, x_ic 1, x_iadd, x_imul, x_ic 2, x_idiv, x_iclt 1, x_ldi 2, x_ldi 1, x_ic 2, x_ldi 0, x_imul, x_ldi 1, x_isub, x_ic 1, x_iadd, x_imul, x_ic 2, x_idiv, x_icgt 1, x_ic 1, x_go 2]
def k_HV_canBe_1 : List AI := [x_ic 0, x_fall 2]
def k_HV_canBe_2 : List AI := [x_rz]
def kb_HV_canBe : List (List AI) := [k_HV_canBe_0, k_HV_canBe_1, k_HV_canBe_2]
def k_HV_sumDoubled_0 : List AI := [x_ldi 0, x_ic 1, x_iclt 1, x_ldi 0, x_ic 10, x_icgt 1, x_ldi 1, x_iflt 1, x_ldi 1, x_ic 5, x_icle 2, x_fall 1]
def k_HV_sumDoubled_1 : List AI := [x_lc (-1000000000000000), x_rl]
def k_HV_sumDoubled_2 : List AI := [x_lc 0, x_s2 2, x_ic 0, x_s1i 4, x_fall 3]
def k_HV_sumDoubled_3 : List AI := [x_ldi 4, x_ic 1, x_ldi 0, x_ishl, x_icge 6, x_ldi 4, x_ic 1, x_iadd, x_i2l, x_ldi 1, x_call HV_power 2, x_s2 5, x_ldl 2, x_ldi 4, x_call JK_bitCount 1, x_ic 2, x_irem, x_ic 1, x_icne 4, x_ldl 5, x_go 5]
def k_HV_sumDoubled_4 : List AI := [x_ldl 5, x_lneg, x_fall 5]
def k_HV_sumDoubled_5 : List AI := [x_ladd, x_s2 2, x_inc 4 1, x_go 3]
def k_HV_sumDoubled_6 : List AI := [x_ldl 2, x_rl]
def kb_HV_sumDoubled : List (List AI) := [k_HV_sumDoubled_0, k_HV_sumDoubled_1, k_HV_sumDoubled_2, k_HV_sumDoubled_3, k_HV_sumDoubled_4, k_HV_sumDoubled_5, k_HV_sumDoubled_6]
def k_HV_stillUpTo_0 : List AI := [x_ldi 0, x_ic 1, x_iclt 1, x_ldi 0, x_ic 16, x_icgt 1, x_ldi 1, x_iflt 1, x_ldi 1, x_ic 1, x_ldi 0, x_ishl, x_iclt 2, x_fall 1]
def k_HV_stillUpTo_1 : List AI := [x_ic (-1), x_ri]
def k_HV_stillUpTo_2 : List AI := [x_ic 0, x_s1i 2, x_fall 3]
def k_HV_stillUpTo_3 : List AI := [x_ldi 2, x_ic 5, x_icgt 9, x_lc 0, x_s2 3, x_ic 0, x_s1i 5, x_fall 4]
def k_HV_stillUpTo_4 : List AI := [x_ldi 5, x_ldi 0, x_icge 7, x_ldi 5, x_ic 1, x_iadd, x_i2l, x_ldi 2, x_call HV_power 2, x_s2 6, x_ldl 3, x_ldi 1, x_ldi 5, x_ishr, x_ic 1, x_iand, x_ic 1, x_icne 5, x_ldl 6, x_go 6]
def k_HV_stillUpTo_5 : List AI := [x_ldl 6, x_lneg, x_fall 6]
def k_HV_stillUpTo_6 : List AI := [x_ladd, x_s2 3, x_inc 5 1, x_go 4]
def k_HV_stillUpTo_7 : List AI := [x_ldl 3, x_lc 0, x_lcmp, x_ifeq 8, x_ldi 2, x_ic 1, x_isub, x_ri]
def k_HV_stillUpTo_8 : List AI := [x_inc 2 1, x_go 3]
def k_HV_stillUpTo_9 : List AI := [x_ic 5, x_ri]
def kb_HV_stillUpTo : List (List AI) := [k_HV_stillUpTo_0, k_HV_stillUpTo_1, k_HV_stillUpTo_2, k_HV_stillUpTo_3, k_HV_stillUpTo_4, k_HV_stillUpTo_5, k_HV_stillUpTo_6, k_HV_stillUpTo_7, k_HV_stillUpTo_8, k_HV_stillUpTo_9]
def k_HV_power_0 : List AI := [x_lc 1, x_s2 3, x_ic 0, x_s1i 5, x_fall 1]
def k_HV_power_1 : List AI := [x_ldi 5, x_ldi 2, x_icge 2, x_ldl 3, x_ldl 0, x_lmul, x_s2 3, x_inc 5 1, x_go 1]
def k_HV_power_2 : List AI := [x_ldl 3, x_rl]
def kb_HV_power : List (List AI) := [k_HV_power_0, k_HV_power_1, k_HV_power_2]
def k_HV_partPayments_0 : List AI := [x_lda 2, x_calv0 LN_clear 1 3, x_lda 0, x_lda 1, x_lda 2, x_ic 0, x_calv0 HV_addPayments 4 2, x_lda 0, x_lda 1, x_lda 2, x_ic 1, x_calv0 HV_addPayments 4 2, x_lda 0, x_ic 0, x_pi 5 2, x_lda 0, x_ic (-1), x_pi 6 2, x_ic 1, x_lda 1, x_gi 17 5, x_ishl, x_s1i 3, x_ic 0, x_s1i 4, x_fall 1]
def k_HV_partPayments_1 : List AI := [x_ldi 4, x_ldi 3, x_icge 6, x_ldi 4, x_ifle 2, x_lda 2, x_ldi 4, x_calv0 LN_advanceTo 2 3, x_fall 2]
def k_HV_partPayments_2 : List AI := [x_ldi 4, x_ic 2, x_irem, x_ifne 5, x_lda 2, x_ga 0 3, x_ic 0, x_all, x_lc 0, x_lcmp, x_ifne 5, x_lda 2, x_ga 0 3, x_ic 1, x_all, x_lc 0, x_lcmp, x_ifne 5, x_lda 0, x_lda 0, x_gi 5 2, x_ifne 3, x_ldi 4, x_go 4]
def k_HV_partPayments_3 : List AI := [x_lda 0, x_gi 6 2, x_fall 4]
def k_HV_partPayments_4 : List AI := [x_pi 6 2, x_lda 0, x_dup, x_gi 5 2, x_ic 1, x_iadd, x_pi 5 2, x_fall 5]
def k_HV_partPayments_5 : List AI := [x_inc 4 1, x_go 1]
def k_HV_partPayments_6 : List AI := [x_ret]
def kb_HV_partPayments : List (List AI) := [k_HV_partPayments_0, k_HV_partPayments_1, k_HV_partPayments_2, k_HV_partPayments_3, k_HV_partPayments_4, k_HV_partPayments_5, k_HV_partPayments_6]
def k_HV_addPayments_0 : List AI := [x_ic 0, x_s1i 4, x_fall 1]
def k_HV_addPayments_1 : List AI := [x_ldi 4, x_lda 1, x_gi 17 5, x_icge 2, x_lda 0, x_ga 4 2, x_ldi 4, x_lda 1, x_ldi 4, x_ldi 3, x_calv PL_payment 3 5, x_asl, x_inc 4 1, x_go 1]
def k_HV_addPayments_2 : List AI := [x_lda 2, x_lc 0, x_lda 0, x_ga 4 2, x_lda 1, x_gi 17 5, x_calv0 LN_add 4 3, x_ret]
def kb_HV_addPayments : List (List AI) := [k_HV_addPayments_0, k_HV_addPayments_1, k_HV_addPayments_2]
def k_HV_heirsApart_0 : List AI := [x_lda 0, x_gi 17 5, x_ifeq 1, x_ldi 1, x_iflt 1, x_ldi 1, x_ic 1, x_lda 0, x_gi 17 5, x_ishl, x_icge 1, x_ldi 1, x_ic 2, x_irem, x_ic 1, x_icne 2, x_fall 1]
def k_HV_heirsApart_1 : List AI := [x_lc (-1000000000000000), x_rl]
def k_HV_heirsApart_2 : List AI := [x_lc 0, x_s2 3, x_ic 0, x_s1i 5, x_fall 3]
def k_HV_heirsApart_3 : List AI := [x_ldi 5, x_lda 0, x_gi 17 5, x_icge 6, x_lda 0, x_ldi 5, x_ldi 2, x_calv PL_payment 3 5, x_s2 6, x_ldl 3, x_ldi 1, x_ldi 5, x_ishr, x_ic 1, x_iand, x_ic 1, x_icne 4, x_ldl 6, x_lneg, x_go 5]
def k_HV_heirsApart_4 : List AI := [x_ldl 6, x_fall 5]
def k_HV_heirsApart_5 : List AI := [x_ladd, x_s2 3, x_inc 5 1, x_go 3]
def k_HV_heirsApart_6 : List AI := [x_ldl 3, x_rl]
def kb_HV_heirsApart : List (List AI) := [k_HV_heirsApart_0, k_HV_heirsApart_1, k_HV_heirsApart_2, k_HV_heirsApart_3, k_HV_heirsApart_4, k_HV_heirsApart_5, k_HV_heirsApart_6]
def k_LN_init_0 : List AI := [x_lda 0, x_obj, x_lda 0, x_ic 32, x_nw 2, x_pa 0 3, x_lda 0, x_ic 384, x_nw 2, x_pa 1 3, x_lda 0, x_ic 0, x_pi 2 3, x_ret]
def kb_LN_init : List (List AI) := [k_LN_init_0]
def k_LN_clear_0 : List AI := [x_lda 0, x_ic 0, x_pi 2 3, x_ret]
def kb_LN_clear : List (List AI) := [k_LN_clear_0]
def k_LN_add_0 : List AI := [x_lda 0, x_gi 2 3, x_ic 32, x_icge 1, x_ldi 4, x_ic 12, x_icgt 1, x_ldi 4, x_lda 3, x_len, x_icle 2, x_fall 1]
def k_LN_add_1 : List AI := [x_ret]
def k_LN_add_2 : List AI := [x_lc 0, x_s2 5, x_ic 0, x_s1i 7, x_fall 3]
def k_LN_add_3 : List AI := [x_ldi 7, x_ldi 4, x_icge 4, x_lda 0, x_ga 1 3, x_lda 0, x_gi 2 3, x_ic 12, x_imul, x_ldi 7, x_iadd, x_lc 2, x_lda 3, x_ldi 7, x_all, x_ldl 5, x_lsub, x_lmul, x_asl, x_ldl 5, x_lda 3, x_ldi 7, x_all, x_ladd, x_s2 5, x_inc 7 1, x_go 3]
def k_LN_add_4 : List AI := [x_lda 0, x_ga 0 3, x_lda 0, x_gi 2 3, x_ldl 1, x_ldl 5, x_lsub, x_asl, x_lda 0, x_dup, x_gi 2 3, x_ic 1, x_iadd, x_pi 2 3, x_ret]
def kb_LN_add : List (List AI) := [k_LN_add_0, k_LN_add_1, k_LN_add_2, k_LN_add_3, k_LN_add_4]
def k_LN_advanceTo_0 : List AI := [x_ldi 1, x_ldi 1, x_ineg, x_iand, x_ic 1, x_isub, x_call JK_bitCount 1, x_s1i 2, x_ldi 2, x_ic 12, x_iclt 1, x_ret]
def k_LN_advanceTo_1 : List AI := [x_ic 0, x_s1i 3, x_fall 2]
def k_LN_advanceTo_2 : List AI := [x_ldi 3, x_lda 0, x_gi 2 3, x_icge 3, x_lda 0, x_ga 0 3, x_ldi 3, x_dup2, x_all, x_lda 0, x_ga 1 3, x_ldi 3, x_ic 12, x_imul, x_ldi 2, x_iadd, x_all, x_ladd, x_asl, x_inc 3 1, x_go 2]
def k_LN_advanceTo_3 : List AI := [x_ret]
def kb_LN_advanceTo : List (List AI) := [k_LN_advanceTo_0, k_LN_advanceTo_1, k_LN_advanceTo_2, k_LN_advanceTo_3]
def k_NE_init_0 : List AI := [x_lda 0, x_obj, x_lda 0, x_ic 12, x_nw 2, x_pa 0 4, x_lda 0, x_ic 12, x_nw 1, x_pa 1 4, x_lda 0, x_ic 0, x_pz 2 4, x_lda 0, x_lc 0, x_pl 3 4, x_lda 0, x_ic 0, x_pi 4 4, x_lda 0, x_ic 0, x_pi 5 4, x_lda 0, x_ic 5, x_nw 1, x_pa 6 4, x_lda 0, x_ic 5, x_nw 1, x_pa 7 4, x_lda 0, x_ic 0, x_pz 8 4, x_lda 0, x_lc 0, x_pl 9 4, x_lda 0, x_ic 0, x_pi 10 4, x_ret]
def kb_NE_init : List (List AI) := [k_NE_init_0]
def k_NE_findAsTheySit_0 : List AI := [x_ic 0, x_s1i 3, x_fall 1]
def k_NE_findAsTheySit_1 : List AI := [x_ldi 3, x_ic 12, x_icge 2, x_lda 0, x_ga 1 4, x_ldi 3, x_lda 1, x_ldi 3, x_lda 1, x_gi 3 1, x_calv CW_forceIn 3 1, x_asi, x_inc 3 1, x_go 1]
def k_NE_findAsTheySit_2 : List AI := [x_lda 0, x_lda 1, x_ga 0 1, x_lda 2, x_calv0 NE_scan 3 4, x_lda 0, x_gi 2 4, x_rz]
def kb_NE_findAsTheySit : List (List AI) := [k_NE_findAsTheySit_0, k_NE_findAsTheySit_1, k_NE_findAsTheySit_2]
def k_NE_findOrder_0 : List AI := [x_lda 1, x_ga 0 1, x_s1a 3, x_lda 0, x_ic 0, x_pz 8 4, x_lda 3, x_gi 0 5, x_lda 3, x_gi 6 5, x_icne 1, x_lda 3, x_gi 0 5, x_ic 5, x_icgt 1, x_lda 0, x_lda 1, x_lda 2, x_ic 0, x_ic 0, x_calv0 NE_arrange 5 4, x_fall 1]
def k_NE_findOrder_1 : List AI := [x_lda 0, x_gi 8 4, x_rz]
def kb_NE_findOrder : List (List AI) := [k_NE_findOrder_0, k_NE_findOrder_1]
def k_NE_bestRower_0 : List AI := [x_ldi 1, x_iflt 1, x_ldi 1, x_ic 5, x_icge 1, x_lda 0, x_ga 7 4, x_ldi 1, x_ali, x_go 2]
def k_NE_bestRower_1 : List AI := [x_ic (-1), x_fall 2]
def k_NE_bestRower_2 : List AI := [x_ri]
def kb_NE_bestRower : List (List AI) := [k_NE_bestRower_0, k_NE_bestRower_1, k_NE_bestRower_2]
def k_NE_arrange_0 : List AI := [x_lda 1, x_ga 0 1, x_s1a 5, x_ldi 3, x_lda 5, x_gi 0 5, x_icge 1, x_ldi 3, x_ic 5, x_iclt 4, x_fall 1]
def k_NE_arrange_1 : List AI := [x_lda 0, x_lda 5, x_lda 2, x_calv0 NE_scan 3 4, x_lda 0, x_gi 2 4, x_ifeq 3, x_lda 0, x_gi 8 4, x_ifeq 2, x_lda 0, x_gl 3 4, x_lda 0, x_gl 9 4, x_lcmp, x_ifge 3, x_fall 2]
def k_NE_arrange_2 : List AI := [x_lda 0, x_calv0 NE_keepOrder 1 4, x_fall 3]
def k_NE_arrange_3 : List AI := [x_ret]
def k_NE_arrange_4 : List AI := [x_ic 0, x_s1i 6, x_fall 5]
def k_NE_arrange_5 : List AI := [x_ldi 6, x_lda 5, x_gi 6 5, x_icge 7, x_ldi 4, x_ldi 6, x_ishr, x_ic 1, x_iand, x_ifne 6, x_lda 0, x_ga 6 4, x_ldi 3, x_ldi 6, x_asi, x_lda 0, x_ga 1 4, x_ldi 3, x_lda 1, x_ldi 6, x_lda 1, x_gi 3 1, x_calv CW_strengthAt 3 1, x_asi, x_lda 0, x_lda 1, x_lda 2, x_ldi 3, x_ic 1, x_iadd, x_ldi 4, x_ic 1, x_ldi 6, x_ishl, x_ior, x_calv0 NE_arrange 5 4, x_fall 6]
def k_NE_arrange_6 : List AI := [x_inc 6 1, x_go 5]
def k_NE_arrange_7 : List AI := [x_ret]
def kb_NE_arrange : List (List AI) := [k_NE_arrange_0, k_NE_arrange_1, k_NE_arrange_2, k_NE_arrange_3, k_NE_arrange_4, k_NE_arrange_5, k_NE_arrange_6, k_NE_arrange_7]
def k_NE_keepOrder_0 : List AI := [x_lda 0, x_ic 1, x_pz 8 4, x_lda 0, x_lda 0, x_gl 3 4, x_pl 9 4, x_lda 0, x_lda 0, x_gi 4 4, x_pi 10 4, x_lda 0, x_ga 6 4, x_ic 0, x_lda 0, x_ga 7 4, x_ic 0, x_ic 5, x_acp, x_ret]
def kb_NE_keepOrder : List (List AI) := [k_NE_keepOrder_0]
def k_NE_scan_0 : List AI := [x_lda 0, x_lda 1, x_lda 2, x_calv0 NE_setLanes 3 4, x_lda 0, x_ic 0, x_pz 2 4, x_lda 0, x_ic 0, x_pi 5 4, x_ic 1, x_lda 1, x_gi 0 5, x_ishl, x_s1i 3, x_ic 0, x_s1i 4, x_fall 1]
def k_NE_scan_1 : List AI := [x_ldi 4, x_ldi 3, x_icge 4, x_ldi 4, x_ifle 2, x_lda 2, x_ldi 4, x_calv0 LN_advanceTo 2 3, x_fall 2]
def k_NE_scan_2 : List AI := [x_lda 1, x_ldi 4, x_calv PL_allows 2 5, x_ifeq 3, x_lda 0, x_lda 2, x_lda 1, x_gi 12 5, x_ldi 4, x_calv0 NE_weigh 4 4, x_fall 3]
def k_NE_scan_3 : List AI := [x_inc 4 1, x_go 1]
def k_NE_scan_4 : List AI := [x_ret]
def kb_NE_scan : List (List AI) := [k_NE_scan_0, k_NE_scan_1, k_NE_scan_2, k_NE_scan_3, k_NE_scan_4]
def k_NE_setLanes_0 : List AI := [x_lda 2, x_calv0 LN_clear 1 3, x_ic 0, x_s1i 3, x_fall 1]
def k_NE_setLanes_1 : List AI := [x_ldi 3, x_ic 4, x_icge 5, x_lda 1, x_ga 11 5, x_ldi 3, x_all, x_lc (-1000000000000000), x_lcmp, x_ifeq 4, x_ic 0, x_s1i 4, x_fall 2]
def k_NE_setLanes_2 : List AI := [x_ldi 4, x_lda 1, x_gi 0 5, x_icge 3, x_lda 0, x_ga 0 4, x_ldi 4, x_lda 0, x_ga 1 4, x_ldi 4, x_ali, x_i2l, x_lda 1, x_ldi 3, x_ldi 4, x_calv PL_leverOf 3 5, x_lmul, x_asl, x_inc 4 1, x_go 2]
def k_NE_setLanes_3 : List AI := [x_lda 2, x_lda 1, x_ga 11 5, x_ldi 3, x_all, x_lneg, x_lda 0, x_ga 0 4, x_lda 1, x_gi 0 5, x_calv0 LN_add 4 3, x_fall 4]
def k_NE_setLanes_4 : List AI := [x_inc 3 1, x_go 1]
def k_NE_setLanes_5 : List AI := [x_ret]
def kb_NE_setLanes : List (List AI) := [k_NE_setLanes_0, k_NE_setLanes_1, k_NE_setLanes_2, k_NE_setLanes_3, k_NE_setLanes_4, k_NE_setLanes_5]
def k_NE_weigh_0 : List AI := [x_lc 0, x_s2 4, x_ic 1, x_s1i 6, x_ic 0, x_s1i 7, x_fall 1]
def k_NE_weigh_1 : List AI := [x_ldi 7, x_lda 1, x_gi 2 3, x_icge 4, x_lda 1, x_ga 0 3, x_ldi 7, x_all, x_call JK_absL 1, x_s2 8, x_ldl 4, x_ldl 8, x_ladd, x_s2 4, x_ldi 6, x_ifeq 2, x_ldl 8, x_ldi 2, x_i2l, x_lcmp, x_ifgt 2, x_ic 1, x_go 3]
def k_NE_weigh_2 : List AI := [x_ic 0, x_fall 3]
def k_NE_weigh_3 : List AI := [x_s1i 6, x_inc 7 1, x_go 1]
def k_NE_weigh_4 : List AI := [x_ldi 6, x_ifeq 5, x_lda 0, x_dup, x_gi 5 4, x_ic 1, x_iadd, x_pi 5 4, x_fall 5]
def k_NE_weigh_5 : List AI := [x_lda 0, x_gi 2 4, x_ifeq 6, x_ldl 4, x_lda 0, x_gl 3 4, x_lcmp, x_ifge 7, x_fall 6]
def k_NE_weigh_6 : List AI := [x_lda 0, x_ic 1, x_pz 2 4, x_lda 0, x_ldl 4, x_pl 3 4, x_lda 0, x_ldi 3, x_pi 4 4, x_fall 7]
def k_NE_weigh_7 : List AI := [x_ret]
def kb_NE_weigh : List (List AI) := [k_NE_weigh_0, k_NE_weigh_1, k_NE_weigh_2, k_NE_weigh_3, k_NE_weigh_4, k_NE_weigh_5, k_NE_weigh_6, k_NE_weigh_7]
def k_PL_init_0 : List AI := [x_lda 0, x_obj, x_lda 0, x_ic 0, x_pi 0 5, x_lda 0, x_ic 12, x_nw 1, x_pa 1 5, x_lda 0, x_ic 12, x_nw 1, x_pa 2 5, x_lda 0, x_ic 48, x_nw 2, x_pa 3 5, x_lda 0, x_ic 0, x_pi 4 5, x_lda 0, x_ic 0, x_pi 5 5, x_lda 0, x_ic 0, x_pi 6 5, x_lda 0, x_ic 72, x_nw 1, x_pa 7 5, x_lda 0, x_ic 12, x_nw 1, x_pa 8 5, x_lda 0, x_ic 12, x_nw 1, x_pa 9 5, x_lda 0, x_ic (-1), x_pi 10 5, x_lda 0, x_ic 4, x_nw 2, x_pa 11 5, x_lda 0, x_ic 0, x_pi 12 5, x_lda 0, x_ic 0, x_pi 13 5, x_lda 0, x_ic 96, x_nw 1, x_pa 14 5, x_lda 0, x_ic 8, x_nw 1, x_pa 15 5, x_lda 0, x_ic 8, x_nw 1, x_pa 16 5, x_lda 0, x_ic 0, x_pi 17 5, x_lda 0, x_ic 12, x_nw 1, x_pa 18 5, x_lda 0, x_ic 12, x_nw 1, x_pa 19 5, x_lda 0, x_ga 11 5, x_lc (-1000000000000000), x_call0 JK_fillL 2, x_ret]
def kb_PL_init : List (List AI) := [k_PL_init_0]
def k_PL_clear_0 : List AI := [x_lda 0, x_ic 0, x_pi 0 5, x_lda 0, x_ic 0, x_pi 4 5, x_lda 0, x_ic 0, x_pi 5 5, x_lda 0, x_ic 0, x_pi 6 5, x_lda 0, x_ic (-1), x_pi 10 5, x_lda 0, x_ic 0, x_pi 12 5, x_lda 0, x_ic 0, x_pi 13 5, x_lda 0, x_ic 0, x_pi 17 5, x_lda 0, x_ga 7 5, x_ic 0, x_call0 JK_fillI 2, x_lda 0, x_ga 11 5, x_lc (-1000000000000000), x_call0 JK_fillL 2, x_lda 0, x_ga 14 5, x_ic 0, x_call0 JK_fillI 2, x_ret]
def kb_PL_clear : List (List AI) := [k_PL_clear_0]
def k_PL_isSeat_0 : List AI := [x_ldi 1, x_iflt 1, x_ldi 1, x_lda 0, x_gi 0 5, x_icge 1, x_ic 1, x_go 2]
def k_PL_isSeat_1 : List AI := [x_ic 0, x_fall 2]
def k_PL_isSeat_2 : List AI := [x_rz]
def kb_PL_isSeat : List (List AI) := [k_PL_isSeat_0, k_PL_isSeat_1, k_PL_isSeat_2]
def k_PL_isRower_0 : List AI := [x_ldi 1, x_iflt 1, x_ldi 1, x_lda 0, x_gi 6 5, x_icge 1, x_ic 1, x_go 2]
def k_PL_isRower_1 : List AI := [x_ic 0, x_fall 2]
def k_PL_isRower_2 : List AI := [x_rz]
def kb_PL_isRower : List (List AI) := [k_PL_isRower_0, k_PL_isRower_1, k_PL_isRower_2]
def k_PL_isPower_0 : List AI := [x_ldi 0, x_iflt 1, x_ldi 0, x_ic 4, x_icge 1, x_ic 1, x_go 2]
def k_PL_isPower_1 : List AI := [x_ic 0, x_fall 2]
def k_PL_isPower_2 : List AI := [x_rz]
def kb_PL_isPower : List (List AI) := [k_PL_isPower_0, k_PL_isPower_1, k_PL_isPower_2]
def k_PL_isFixed_0 : List AI := [x_lda 0, x_gi 4 5, x_lda 0, x_gi 5 5, x_ior, x_ldi 1, x_ishr, x_ic 1, x_iand, x_ic 1, x_icne 1, x_ic 1, x_go 2]
def k_PL_isFixed_1 : List AI := [x_ic 0, x_fall 2]
def k_PL_isFixed_2 : List AI := [x_rz]
def kb_PL_isFixed : List (List AI) := [k_PL_isFixed_0, k_PL_isFixed_1, k_PL_isFixed_2]
def k_PL_seatAtPlace_0 : List AI := [x_ic 0, x_s1i 2, x_fall 1]
def k_PL_seatAtPlace_1 : List AI := [x_ldi 2, x_lda 0, x_gi 0 5, x_icge 3, x_lda 0, x_ga 1 5, x_ldi 2, x_ali, x_ldi 1, x_icne 2, x_ldi 2, x_ri]
def k_PL_seatAtPlace_2 : List AI := [x_inc 2 1, x_go 1]
def k_PL_seatAtPlace_3 : List AI := [x_ic (-1), x_ri]
def kb_PL_seatAtPlace : List (List AI) := [k_PL_seatAtPlace_0, k_PL_seatAtPlace_1, k_PL_seatAtPlace_2, k_PL_seatAtPlace_3]
def k_PL_addSeat_0 : List AI := [x_lda 0, x_gi 0 5, x_ic 12, x_iclt 1, x_ret]
def k_PL_addSeat_1 : List AI := [x_lda 0, x_ga 1 5, x_lda 0, x_gi 0 5, x_ldi 1, x_asi, x_lda 0, x_ga 2 5, x_lda 0, x_gi 0 5, x_ldi 2, x_asi, x_ldi 2, x_i2l, x_s2 3, x_ic 0, x_s1i 5, x_fall 2]
def k_PL_addSeat_2 : List AI := [x_ldi 5, x_ic 4, x_icge 3, x_lda 0, x_ga 3 5, x_ldi 5, x_ic 12, x_imul, x_lda 0, x_gi 0 5, x_iadd, x_ldl 3, x_asl, x_ldl 3, x_ldi 1, x_i2l, x_lmul, x_s2 3, x_inc 5 1, x_go 2]
def k_PL_addSeat_3 : List AI := [x_lda 0, x_dup, x_gi 0 5, x_ic 1, x_iadd, x_pi 0 5, x_ret]
def kb_PL_addSeat : List (List AI) := [k_PL_addSeat_0, k_PL_addSeat_1, k_PL_addSeat_2, k_PL_addSeat_3]
def k_PL_fixSeat_0 : List AI := [x_ic 1, x_ldi 1, x_ishl, x_s1i 3, x_lda 0, x_ldi 2, x_ifeq 1, x_lda 0, x_gi 4 5, x_ldi 3, x_ic (-1), x_ixor, x_iand, x_go 2]
def k_PL_fixSeat_1 : List AI := [x_lda 0, x_gi 4 5, x_ldi 3, x_ior, x_fall 2]
def k_PL_fixSeat_2 : List AI := [x_pi 4 5, x_lda 0, x_ldi 2, x_ifeq 3, x_lda 0, x_gi 5 5, x_ldi 3, x_ior, x_go 4]
def k_PL_fixSeat_3 : List AI := [x_lda 0, x_gi 5 5, x_ldi 3, x_ic (-1), x_ixor, x_iand, x_fall 4]
def k_PL_fixSeat_4 : List AI := [x_pi 5 5, x_ret]
def kb_PL_fixSeat : List (List AI) := [k_PL_fixSeat_0, k_PL_fixSeat_1, k_PL_fixSeat_2, k_PL_fixSeat_3, k_PL_fixSeat_4]
def k_PL_addRower_0 : List AI := [x_lda 0, x_gi 6 5, x_ic 12, x_iclt 1, x_ret]
def k_PL_addRower_1 : List AI := [x_lda 0, x_ga 8 5, x_lda 0, x_gi 6 5, x_ldi 1, x_asi, x_lda 0, x_ga 9 5, x_lda 0, x_gi 6 5, x_ldi 2, x_asi, x_lda 0, x_dup, x_gi 6 5, x_ic 1, x_iadd, x_pi 6 5, x_ret]
def kb_PL_addRower : List (List AI) := [k_PL_addRower_0, k_PL_addRower_1]
def k_PL_wantSwing_0 : List AI := [x_ldi 1, x_call PL_isPower 1, x_ifeq 1, x_lda 0, x_ga 11 5, x_ldi 1, x_ldi 2, x_i2l, x_asl, x_fall 1]
def k_PL_wantSwing_1 : List AI := [x_ret]
def kb_PL_wantSwing : List (List AI) := [k_PL_wantSwing_0, k_PL_wantSwing_1]
def k_PL_addRun_0 : List AI := [x_lda 0, x_gi 13 5, x_ic 8, x_iclt 1, x_ret]
def k_PL_addRun_1 : List AI := [x_lda 0, x_ga 15 5, x_lda 0, x_gi 13 5, x_ldi 1, x_asi, x_lda 0, x_ga 16 5, x_lda 0, x_gi 13 5, x_ldi 2, x_asi, x_lda 0, x_dup, x_gi 13 5, x_ic 1, x_iadd, x_pi 13 5, x_ret]
def kb_PL_addRun : List (List AI) := [k_PL_addRun_0, k_PL_addRun_1]
def k_PL_setRunSide_0 : List AI := [x_lda 0, x_gi 13 5, x_ic 8, x_icge 1, x_lda 0, x_ldi 1, x_calv PL_isSeat 2 5, x_ifeq 1, x_lda 0, x_ga 14 5, x_lda 0, x_gi 13 5, x_ic 12, x_imul, x_ldi 1, x_iadd, x_ldi 2, x_asi, x_fall 1]
def k_PL_setRunSide_1 : List AI := [x_ret]
def kb_PL_setRunSide : List (List AI) := [k_PL_setRunSide_0, k_PL_setRunSide_1]
def k_PL_addPayment_0 : List AI := [x_lda 0, x_gi 17 5, x_ic 12, x_iclt 1, x_ret]
def k_PL_addPayment_1 : List AI := [x_lda 0, x_ga 18 5, x_lda 0, x_gi 17 5, x_ldi 1, x_asi, x_lda 0, x_ga 19 5, x_lda 0, x_gi 17 5, x_ldi 2, x_asi, x_lda 0, x_dup, x_gi 17 5, x_ic 1, x_iadd, x_pi 17 5, x_ret]
def kb_PL_addPayment : List (List AI) := [k_PL_addPayment_0, k_PL_addPayment_1]
def k_PL_wants_0 : List AI := [x_ic 0, x_s1i 1, x_ic 0, x_s1i 2, x_fall 1]
def k_PL_wants_1 : List AI := [x_ldi 2, x_ic 4, x_icge 3, x_lda 0, x_ga 11 5, x_ldi 2, x_all, x_lc (-1000000000000000), x_lcmp, x_ifeq 2, x_inc 1 1, x_fall 2]
def k_PL_wants_2 : List AI := [x_inc 2 1, x_go 1]
def k_PL_wants_3 : List AI := [x_ldi 1, x_ri]
def kb_PL_wants : List (List AI) := [k_PL_wants_0, k_PL_wants_1, k_PL_wants_2, k_PL_wants_3]
def k_PL_leverOf_0 : List AI := [x_ldi 1, x_iflt 1, x_ldi 1, x_ic 4, x_icge 1, x_ldi 2, x_iflt 1, x_ldi 2, x_lda 0, x_gi 0 5, x_icge 1, x_ic 1, x_go 2]
def k_PL_leverOf_1 : List AI := [x_ic 0, x_fall 2]
def k_PL_leverOf_2 : List AI := [x_s1i 3, x_ldi 3, x_ifeq 3, x_lda 0, x_ga 3 5, x_ldi 1, x_ic 12, x_imul, x_ldi 2, x_iadd, x_all, x_go 4]
def k_PL_leverOf_3 : List AI := [x_lc 0, x_fall 4]
def k_PL_leverOf_4 : List AI := [x_rl]
def kb_PL_leverOf : List (List AI) := [k_PL_leverOf_0, k_PL_leverOf_1, k_PL_leverOf_2, k_PL_leverOf_3, k_PL_leverOf_4]
def k_PL_allows_0 : List AI := [x_ldi 1, x_lda 0, x_gi 4 5, x_iand, x_ifne 2, x_ldi 1, x_lda 0, x_gi 5 5, x_iand, x_lda 0, x_gi 5 5, x_icne 2, x_lda 0, x_gi 10 5, x_ic (-1), x_iceq 1, x_lda 0, x_gi 0 5, x_ldi 1, x_call JK_bitCount 1, x_isub, x_lda 0, x_gi 10 5, x_icne 2, x_fall 1]
def k_PL_allows_1 : List AI := [x_ic 1, x_go 3]
def k_PL_allows_2 : List AI := [x_ic 0, x_fall 3]
def k_PL_allows_3 : List AI := [x_rz]
def kb_PL_allows : List (List AI) := [k_PL_allows_0, k_PL_allows_1, k_PL_allows_2, k_PL_allows_3]
def k_PL_sideAtFirst_0 : List AI := [x_lda 0, x_ldi 1, x_calv PL_isFixed 2 5, x_ifeq 1, x_lda 0, x_gi 5 5, x_ldi 1, x_ishr, x_ic 1, x_iand, x_ri]
def k_PL_sideAtFirst_1 : List AI := [x_ldi 1, x_ic 1, x_iand, x_ri]
def kb_PL_sideAtFirst : List (List AI) := [k_PL_sideAtFirst_0, k_PL_sideAtFirst_1]
def k_PL_seatedAtFirst_0 : List AI := [x_lda 0, x_gi 0 5, x_lda 0, x_gi 6 5, x_call JK_minI 2, x_ri]
def kb_PL_seatedAtFirst : List (List AI) := [k_PL_seatedAtFirst_0]
def k_PL_runLever_0 : List AI := [x_ldi 1, x_iflt 1, x_ldi 1, x_lda 0, x_gi 13 5, x_icge 1, x_ldi 2, x_iflt 1, x_ldi 2, x_lda 0, x_calv PL_seatedAtFirst 1 5, x_iclt 2, x_fall 1]
def k_PL_runLever_1 : List AI := [x_lc 0, x_rl]
def k_PL_runLever_2 : List AI := [x_lda 0, x_ga 14 5, x_ldi 1, x_ic 12, x_imul, x_ldi 2, x_iadd, x_ali, x_i2l, x_lda 0, x_lda 0, x_ga 15 5, x_ldi 1, x_ali, x_ldi 2, x_calv PL_leverOf 3 5, x_lmul, x_rl]
def kb_PL_runLever : List (List AI) := [k_PL_runLever_0, k_PL_runLever_1, k_PL_runLever_2]
def k_PL_swungOf_0 : List AI := [x_ldi 1, x_iflt 1, x_ldi 1, x_lda 0, x_gi 13 5, x_icge 1, x_lda 0, x_ga 16 5, x_ldi 1, x_ali, x_i2l, x_go 2]
def k_PL_swungOf_1 : List AI := [x_lc 0, x_fall 2]
def k_PL_swungOf_2 : List AI := [x_rl]
def kb_PL_swungOf : List (List AI) := [k_PL_swungOf_0, k_PL_swungOf_1, k_PL_swungOf_2]
def k_PL_payment_0 : List AI := [x_ldi 1, x_iflt 1, x_ldi 1, x_lda 0, x_gi 17 5, x_iclt 2, x_fall 1]
def k_PL_payment_1 : List AI := [x_lc 0, x_rl]
def k_PL_payment_2 : List AI := [x_ldi 2, x_ifeq 3, x_lda 0, x_ga 18 5, x_ldi 1, x_ali, x_i2l, x_lda 0, x_ga 19 5, x_ldi 1, x_ali, x_i2l, x_lmul, x_go 4]
def k_PL_payment_3 : List AI := [x_lda 0, x_ga 18 5, x_ldi 1, x_ali, x_i2l, x_fall 4]
def k_PL_payment_4 : List AI := [x_rl]
def kb_PL_payment : List (List AI) := [k_PL_payment_0, k_PL_payment_1, k_PL_payment_2, k_PL_payment_3, k_PL_payment_4]
def k_QU_init_0 : List AI := [x_lda 0, x_obj, x_lda 0, x_ic (-1), x_pi 0 6, x_lda 0, x_ic 1600, x_nw 1, x_pa 1 6, x_lda 0, x_ic 0, x_pi 2 6, x_lda 0, x_ic 64, x_nw 2, x_pa 3 6, x_lda 0, x_ic 0, x_pi 4 6, x_lda 0, x_ic (-1), x_pi 5 6, x_lda 0, x_ic 4, x_nw 2, x_pa 6 6, x_lda 0, x_lc 0, x_pl 7 6, x_lda 0, x_lc 0, x_pl 8 6, x_ret]
def kb_QU_init : List (List AI) := [k_QU_init_0]
def k_QU_read_0 : List AI := [x_lda 1, x_calv0 TP_begin 1 8, x_lda 0, x_ic 0, x_pi 2 6, x_lda 0, x_lda 1, x_str 902, x_calv TP_wordHere 2 8, x_pi 0 6, x_lda 0, x_gi 0 6, x_iflt 1, x_lda 0, x_gi 0 6, x_ic 5, x_icle 2, x_fall 1]
def k_QU_read_1 : List AI := [x_lda 1, x_calv TP_failHere 1 8, x_rz]
def k_QU_read_2 : List AI := [x_lda 1, x_calv0 TP_passWord 1 8, x_lda 0, x_gi 0 6, x_ic 2, x_icgt 3, x_lda 0, x_lda 1, x_ic 0, x_calv QU_test 3 6, x_go 4]
def k_QU_read_3 : List AI := [x_lda 0, x_lda 1, x_ic 0, x_calv QU_sum 3 6, x_fall 4]
def k_QU_read_4 : List AI := [x_s1i 2, x_ldi 2, x_ifeq 6, x_lda 1, x_calv TP_next 1 8, x_ic (-1), x_iceq 5, x_lda 1, x_calv TP_failHere 1 8, x_ifeq 6, x_fall 5]
def k_QU_read_5 : List AI := [x_ic 1, x_go 7]
def k_QU_read_6 : List AI := [x_ic 0, x_fall 7]
def k_QU_read_7 : List AI := [x_rz]
def kb_QU_read : List (List AI) := [k_QU_read_0, k_QU_read_1, k_QU_read_2, k_QU_read_3, k_QU_read_4, k_QU_read_5, k_QU_read_6, k_QU_read_7]
def k_QU_test_0 : List AI := [x_lda 0, x_lda 1, x_ldi 2, x_calv QU_both 3 6, x_ifne 1, x_ic 0, x_rz]
def k_QU_test_1 : List AI := [x_ic 0, x_s1i 3, x_fall 2]
def k_QU_test_2 : List AI := [x_ldi 3, x_ic 1600, x_icge 4, x_lda 1, x_str 902, x_calv TP_wordHere 2 8, x_ic 6, x_icne 4, x_lda 1, x_calv0 TP_passWord 1 8, x_lda 0, x_lda 1, x_ldi 2, x_calv QU_both 3 6, x_ifne 3, x_ic 0, x_rz]
def k_QU_test_3 : List AI := [x_lda 0, x_ic 6, x_calv0 QU_code 2 6, x_inc 3 1, x_go 2]
def k_QU_test_4 : List AI := [x_ic 1, x_rz]
def kb_QU_test : List (List AI) := [k_QU_test_0, k_QU_test_1, k_QU_test_2, k_QU_test_3, k_QU_test_4]
def k_QU_both_0 : List AI := [x_lda 0, x_lda 1, x_ldi 2, x_calv QU_fact 3 6, x_ifne 1, x_ic 0, x_rz]
def k_QU_both_1 : List AI := [x_ic 0, x_s1i 3, x_fall 2]
def k_QU_both_2 : List AI := [x_ldi 3, x_ic 1600, x_icge 4, x_lda 1, x_str 902, x_calv TP_wordHere 2 8, x_ic 7, x_icne 4, x_lda 1, x_calv0 TP_passWord 1 8, x_lda 0, x_lda 1, x_ldi 2, x_calv QU_fact 3 6, x_ifne 3, x_ic 0, x_rz]
def k_QU_both_3 : List AI := [x_lda 0, x_ic 7, x_calv0 QU_code 2 6, x_inc 3 1, x_go 2]
def k_QU_both_4 : List AI := [x_ic 1, x_rz]
def kb_QU_both : List (List AI) := [k_QU_both_0, k_QU_both_1, k_QU_both_2, k_QU_both_3, k_QU_both_4]
def k_QU_fact_0 : List AI := [x_lda 1, x_str 902, x_calv TP_wordHere 2 8, x_s1i 3, x_ldi 3, x_ic 9, x_icne 1, x_lda 1, x_calv0 TP_passWord 1 8, x_lda 0, x_ic 9, x_calv0 QU_code 2 6, x_ic 1, x_rz]
def k_QU_fact_1 : List AI := [x_ldi 3, x_ic 8, x_icne 3, x_lda 1, x_ldi 2, x_call QU_mayOpen 2, x_ifne 2, x_ic 0, x_rz]
def k_QU_fact_2 : List AI := [x_lda 1, x_calv0 TP_passWord 1 8, x_lda 0, x_lda 1, x_ldi 2, x_ic 1, x_iadd, x_calv QU_fact 3 6, x_s1i 4, x_lda 0, x_ic 8, x_calv0 QU_code 2 6, x_ldi 4, x_rz]
def k_QU_fact_3 : List AI := [x_lda 1, x_calv TP_next 1 8, x_ic 91, x_icne 6, x_lda 1, x_ldi 2, x_call QU_mayOpen 2, x_ifeq 4, x_lda 1, x_ic 91, x_calv TP_takeSign 2 8, x_ifeq 4, x_lda 0, x_lda 1, x_ldi 2, x_ic 1, x_iadd, x_calv QU_test 3 6, x_ifeq 4, x_lda 1, x_ic 93, x_calv TP_takeSign 2 8, x_ifeq 4, x_ic 1, x_go 5]
def k_QU_fact_4 : List AI := [x_ic 0, x_fall 5]
def k_QU_fact_5 : List AI := [x_rz]
def k_QU_fact_6 : List AI := [x_lda 0, x_lda 1, x_ldi 2, x_calv QU_comparison 3 6, x_rz]
def kb_QU_fact : List (List AI) := [k_QU_fact_0, k_QU_fact_1, k_QU_fact_2, k_QU_fact_3, k_QU_fact_4, k_QU_fact_5, k_QU_fact_6]
def k_QU_comparison_0 : List AI := [x_lda 0, x_lda 1, x_ldi 2, x_calv QU_sum 3 6, x_ifne 1, x_ic 0, x_rz]
def k_QU_comparison_1 : List AI := [x_lda 1, x_calv TP_next 1 8, x_s1i 3, x_ldi 3, x_ic 60, x_iceq 2, x_ldi 3, x_ic 62, x_iceq 2, x_ldi 3, x_ic 61, x_iceq 2, x_lda 1, x_calv TP_failHere 1 8, x_rz]
def k_QU_comparison_2 : List AI := [x_lda 1, x_ldi 3, x_calv TP_takeSign 2 8, x_pop, x_lda 0, x_lda 1, x_ldi 2, x_calv QU_sum 3 6, x_s1i 4, x_ldi 3, x_ic 60, x_icne 3, x_lda 0, x_ic 21, x_calv0 QU_code 2 6, x_go 6]
def k_QU_comparison_3 : List AI := [x_lda 0, x_ldi 3, x_ic 62, x_icne 4, x_ic 22, x_go 5]
def k_QU_comparison_4 : List AI := [x_ic 23, x_fall 5]
def k_QU_comparison_5 : List AI := [x_calv0 QU_code 2 6, x_fall 6]
def k_QU_comparison_6 : List AI := [x_ldi 4, x_rz]
def kb_QU_comparison : List (List AI) := [k_QU_comparison_0, k_QU_comparison_1, k_QU_comparison_2, k_QU_comparison_3, k_QU_comparison_4, k_QU_comparison_5, k_QU_comparison_6]
def k_QU_sum_0 : List AI := [x_lda 0, x_lda 1, x_ldi 2, x_calv QU_product 3 6, x_ifne 1, x_ic 0, x_rz]
def k_QU_sum_1 : List AI := [x_ic 0, x_s1i 3, x_fall 2]
def k_QU_sum_2 : List AI := [x_ldi 3, x_ic 1600, x_icge 8, x_lda 1, x_calv TP_next 1 8, x_ic 43, x_iceq 3, x_lda 1, x_calv TP_next 1 8, x_ic 45, x_icne 8, x_fall 3]
def k_QU_sum_3 : List AI := [x_lda 1, x_calv TP_next 1 8, x_s1i 4, x_lda 1, x_ldi 4, x_calv TP_takeSign 2 8, x_ifeq 4, x_lda 0, x_lda 1, x_ldi 2, x_calv QU_product 3 6, x_ifne 5, x_fall 4]
def k_QU_sum_4 : List AI := [x_ic 0, x_rz]
def k_QU_sum_5 : List AI := [x_lda 0, x_ldi 4, x_ic 43, x_icne 6, x_ic 17, x_go 7]
def k_QU_sum_6 : List AI := [x_ic 18, x_fall 7]
def k_QU_sum_7 : List AI := [x_calv0 QU_code 2 6, x_inc 3 1, x_go 2]
def k_QU_sum_8 : List AI := [x_ic 1, x_rz]
def kb_QU_sum : List (List AI) := [k_QU_sum_0, k_QU_sum_1, k_QU_sum_2, k_QU_sum_3, k_QU_sum_4, k_QU_sum_5, k_QU_sum_6, k_QU_sum_7, k_QU_sum_8]
def k_QU_product_0 : List AI := [x_lda 0, x_lda 1, x_ldi 2, x_calv QU_part 3 6, x_ifne 1, x_ic 0, x_rz]
def k_QU_product_1 : List AI := [x_ic 0, x_s1i 3, x_fall 2]
def k_QU_product_2 : List AI := [x_ldi 3, x_ic 1600, x_icge 8, x_lda 1, x_calv TP_next 1 8, x_ic 42, x_iceq 3, x_lda 1, x_calv TP_next 1 8, x_ic 47, x_icne 8, x_fall 3]
def k_QU_product_3 : List AI := [x_lda 1, x_calv TP_next 1 8, x_s1i 4, x_lda 1, x_ldi 4, x_calv TP_takeSign 2 8, x_ifeq 4, x_lda 0, x_lda 1, x_ldi 2, x_calv QU_part 3 6, x_ifne 5, x_fall 4]
def k_QU_product_4 : List AI := [x_ic 0, x_rz]
def k_QU_product_5 : List AI := [x_lda 0, x_ldi 4, x_ic 42, x_icne 6, x_ic 19, x_go 7]
def k_QU_product_6 : List AI := [x_ic 20, x_fall 7]
def k_QU_product_7 : List AI := [x_calv0 QU_code 2 6, x_inc 3 1, x_go 2]
def k_QU_product_8 : List AI := [x_ic 1, x_rz]
def kb_QU_product : List (List AI) := [k_QU_product_0, k_QU_product_1, k_QU_product_2, k_QU_product_3, k_QU_product_4, k_QU_product_5, k_QU_product_6, k_QU_product_7, k_QU_product_8]
def k_QU_part_0 : List AI := [x_lda 1, x_calv TP_next 1 8, x_s1i 3, x_ldi 3, x_ic 40, x_icne 3, x_lda 1, x_ldi 2, x_call QU_mayOpen 2, x_ifeq 1, x_lda 1, x_ic 40, x_calv TP_takeSign 2 8, x_ifeq 1, x_lda 0, x_lda 1, x_ldi 2, x_ic 1, x_iadd, x_calv QU_sum 3 6, x_ifeq 1, x_lda 1, x_ic 41, x_calv TP_takeSign 2 8, x_ifeq 1, x_ic 1, x_go 2]
def k_QU_part_1 : List AI := [x_ic 0, x_fall 2]
def k_QU_part_2 : List AI := [x_rz]
def k_QU_part_3 : List AI := [x_ldi 3, x_call TP_isDigit 1, x_ifeq 4, x_lda 1, x_ic 0, x_ic 99999, x_calv TP_takeNumber 3 8, x_s1i 4, x_lda 0, x_lda 1, x_gi 4 8, x_calv0 QU_keep 2 6, x_ldi 4, x_rz]
def k_QU_part_4 : List AI := [x_lda 1, x_str 902, x_calv TP_wordHere 2 8, x_s1i 4, x_ldi 4, x_sw 8 [(10, 5), (11, 5), (12, 5), (13, 6), (14, 6), (15, 7), (16, 7)]]
def k_QU_part_5 : List AI := [x_lda 1, x_calv0 TP_passWord 1 8, x_lda 0, x_ldi 4, x_calv0 QU_code 2 6, x_ic 1, x_rz]
def k_QU_part_6 : List AI := [x_lda 0, x_lda 1, x_ldi 2, x_ldi 4, x_calv QU_partOf 4 6, x_rz]
def k_QU_part_7 : List AI := [x_lda 0, x_lda 1, x_ldi 2, x_ldi 4, x_calv QU_pair 4 6, x_rz]
def k_QU_part_8 : List AI := [x_lda 1, x_calv TP_failHere 1 8, x_rz]
def kb_QU_part : List (List AI) := [k_QU_part_0, k_QU_part_1, k_QU_part_2, k_QU_part_3, k_QU_part_4, k_QU_part_5, k_QU_part_6, k_QU_part_7, k_QU_part_8]
def k_QU_partOf_0 : List AI := [x_lda 1, x_ldi 2, x_call QU_mayOpen 2, x_ifne 1, x_ic 0, x_rz]
def k_QU_partOf_1 : List AI := [x_lda 1, x_calv0 TP_passWord 1 8, x_lda 0, x_lda 1, x_ldi 2, x_ic 1, x_iadd, x_calv QU_part 3 6, x_s1i 4, x_lda 0, x_ldi 3, x_calv0 QU_code 2 6, x_ldi 4, x_rz]
def kb_QU_partOf : List (List AI) := [k_QU_partOf_0, k_QU_partOf_1]
def k_QU_pair_0 : List AI := [x_lda 1, x_calv0 TP_passWord 1 8, x_lda 1, x_calv TP_next 1 8, x_ic 40, x_iceq 1, x_lda 1, x_calv TP_failHere 1 8, x_rz]
def k_QU_pair_1 : List AI := [x_lda 1, x_ldi 2, x_call QU_mayOpen 2, x_ifeq 2, x_lda 1, x_ic 40, x_calv TP_takeSign 2 8, x_ifeq 2, x_lda 0, x_lda 1, x_ldi 2, x_ic 1, x_iadd, x_calv QU_sum 3 6, x_ifeq 2, x_lda 1, x_ic 44, x_calv TP_takeSign 2 8, x_ifeq 2, x_lda 0, x_lda 1, x_ldi 2, x_ic 1, x_iadd, x_calv QU_sum 3 6, x_ifeq 2, x_lda 1, x_ic 41, x_calv TP_takeSign 2 8, x_ifeq 2, x_ic 1, x_go 3]
def k_QU_pair_2 : List AI := [x_ic 0, x_fall 3]
def k_QU_pair_3 : List AI := [x_s1i 4, x_lda 0, x_ldi 3, x_calv0 QU_code 2 6, x_ldi 4, x_rz]
def kb_QU_pair : List (List AI) := [k_QU_pair_0, k_QU_pair_1, k_QU_pair_2, k_QU_pair_3]
def k_QU_mayOpen_0 : List AI := [x_ldi 1, x_ic 6, x_iclt 1, x_lda 0, x_ic 4, x_lda 0, x_gi 2 8, x_calv TP_fail 3 8, x_ifeq 2, x_fall 1]
def k_QU_mayOpen_1 : List AI := [x_ic 1, x_go 3]
def k_QU_mayOpen_2 : List AI := [x_ic 0, x_fall 3]
def k_QU_mayOpen_3 : List AI := [x_rz]
def kb_QU_mayOpen : List (List AI) := [k_QU_mayOpen_0, k_QU_mayOpen_1, k_QU_mayOpen_2, k_QU_mayOpen_3]
def k_QU_code_0 : List AI := [x_lda 0, x_ic (-1), x_ldi 1, x_isub, x_calv0 QU_keep 2 6, x_ret]
def kb_QU_code : List (List AI) := [k_QU_code_0]
def k_QU_keep_0 : List AI := [x_lda 0, x_gi 2 6, x_lda 0, x_ga 1 6, x_len, x_icge 1, x_lda 0, x_ga 1 6, x_lda 0, x_gi 2 6, x_ldi 1, x_asi, x_lda 0, x_dup, x_gi 2 6, x_ic 1, x_iadd, x_pi 2 6, x_fall 1]
def k_QU_keep_1 : List AI := [x_ret]
def kb_QU_keep : List (List AI) := [k_QU_keep_0, k_QU_keep_1]
def k_QU_answer_0 : List AI := [x_lda 0, x_ic (-1), x_pi 5 6, x_lda 1, x_gi 3 1, x_s1i 2, x_ldi 2, x_ic 100, x_iadd, x_ic 9999, x_call JK_minI 2, x_s1i 3, x_lda 0, x_gi 0 6, x_ic 2, x_icgt 1, x_lda 0, x_lda 1, x_ldi 2, x_ldi 3, x_calv QU_answerTest 4 6, x_go 2]
def k_QU_answer_1 : List AI := [x_lda 0, x_lda 1, x_ldi 2, x_ldi 3, x_calv QU_answerSum 4 6, x_fall 2]
def k_QU_answer_2 : List AI := [x_rl]
def kb_QU_answer : List (List AI) := [k_QU_answer_0, k_QU_answer_1, k_QU_answer_2]
def k_QU_answerTest_0 : List AI := [x_ic (-1), x_s1i 4, x_ic (-1), x_s1i 5, x_ic 0, x_s1i 6, x_ldi 2, x_s1i 7, x_fall 1]
def k_QU_answerTest_1 : List AI := [x_ldi 7, x_ldi 3, x_icgt 5, x_lda 0, x_lda 1, x_ldi 7, x_calv0 QU_keepTen 3 6, x_lda 0, x_lda 1, x_ldi 7, x_calv QU_valueAt 3 6, x_lc 0, x_lcmp, x_ifeq 4, x_ldi 4, x_ic (-1), x_icne 2, x_ldi 7, x_go 3]
def k_QU_answerTest_2 : List AI := [x_ldi 4, x_fall 3]
def k_QU_answerTest_3 : List AI := [x_s1i 4, x_ldi 7, x_s1i 5, x_inc 6 1, x_fall 4]
def k_QU_answerTest_4 : List AI := [x_inc 7 1, x_go 1]
def k_QU_answerTest_5 : List AI := [x_lda 0, x_gi 0 6, x_ic 2, x_icne 6, x_ldi 6, x_i2l, x_rl]
def k_QU_answerTest_6 : List AI := [x_lda 0, x_gi 0 6, x_ifne 7, x_ldi 4, x_i2l, x_go 8]
def k_QU_answerTest_7 : List AI := [x_ldi 5, x_i2l, x_fall 8]
def k_QU_answerTest_8 : List AI := [x_rl]
def kb_QU_answerTest : List (List AI) := [k_QU_answerTest_0, k_QU_answerTest_1, k_QU_answerTest_2, k_QU_answerTest_3, k_QU_answerTest_4, k_QU_answerTest_5, k_QU_answerTest_6, k_QU_answerTest_7, k_QU_answerTest_8]
def k_QU_answerSum_0 : List AI := [x_lc 0, x_s2 4, x_lc (-1000000), x_s2 6, x_lc 1000000, x_s2 8, x_ldi 2, x_s1i 10, x_fall 1]
def k_QU_answerSum_1 : List AI := [x_ldi 10, x_ldi 3, x_icgt 2, x_lda 0, x_lda 1, x_ldi 10, x_calv0 QU_keepTen 3 6, x_lda 0, x_lda 1, x_ldi 10, x_calv QU_valueAt 3 6, x_s2 11, x_ldl 4, x_ldl 11, x_ladd, x_s2 4, x_ldl 6, x_ldl 11, x_call JK_maxL 2, x_s2 6, x_ldl 8, x_ldl 11, x_call JK_minL 2, x_s2 8, x_inc 10 1, x_go 1]
def k_QU_answerSum_2 : List AI := [x_lda 0, x_gi 0 6, x_ic 3, x_icne 3, x_ldl 4, x_rl]
def k_QU_answerSum_3 : List AI := [x_lda 0, x_gi 0 6, x_ic 4, x_icne 4, x_ldl 6, x_go 5]
def k_QU_answerSum_4 : List AI := [x_ldl 8, x_fall 5]
def k_QU_answerSum_5 : List AI := [x_rl]
def kb_QU_answerSum : List (List AI) := [k_QU_answerSum_0, k_QU_answerSum_1, k_QU_answerSum_2, k_QU_answerSum_3, k_QU_answerSum_4, k_QU_answerSum_5]
def k_QU_valueAt_0 : List AI := [x_lda 0, x_ic 0, x_pi 4 6, x_ic 0, x_s1i 3, x_fall 1]
def k_QU_valueAt_1 : List AI := [x_ldi 3, x_lda 0, x_gi 2 6, x_icge 4, x_lda 0, x_ga 1 6, x_ldi 3, x_ali, x_s1i 4, x_ldi 4, x_iflt 2, x_lda 0, x_ldi 4, x_i2l, x_calv0 QU_push 2 6, x_go 3]
def k_QU_valueAt_2 : List AI := [x_lda 0, x_lda 1, x_ic (-1), x_ldi 4, x_isub, x_ldi 2, x_calv0 QU_apply 4 6, x_fall 3]
def k_QU_valueAt_3 : List AI := [x_inc 3 1, x_go 1]
def k_QU_valueAt_4 : List AI := [x_lda 0, x_calv QU_pop 1 6, x_rl]
def kb_QU_valueAt : List (List AI) := [k_QU_valueAt_0, k_QU_valueAt_1, k_QU_valueAt_2, k_QU_valueAt_3, k_QU_valueAt_4]
def k_QU_keepTen_0 : List AI := [x_lda 0, x_gi 5 6, x_ldi 2, x_ic 10, x_idiv, x_icne 1, x_ret]
def k_QU_keepTen_1 : List AI := [x_lda 0, x_ldi 2, x_ic 10, x_idiv, x_pi 5 6, x_ic 0, x_s1i 3, x_fall 2]
def k_QU_keepTen_2 : List AI := [x_ldi 3, x_ic 4, x_icge 3, x_lda 0, x_ga 6 6, x_ldi 3, x_lda 1, x_ldi 3, x_ldi 2, x_calv CW_swingAt 3 1, x_call QU_held 1, x_asl, x_inc 3 1, x_go 2]
def k_QU_keepTen_3 : List AI := [x_lda 0, x_lda 1, x_ldi 2, x_calv CW_offAt 2 1, x_call QU_held 1, x_pl 7 6, x_lda 0, x_lda 1, x_ldi 2, x_calv CW_isGoodAt 2 1, x_ifeq 4, x_lc 1, x_go 5]
def k_QU_keepTen_4 : List AI := [x_lc 0, x_fall 5]
def k_QU_keepTen_5 : List AI := [x_pl 8 6, x_ret]
def kb_QU_keepTen : List (List AI) := [k_QU_keepTen_0, k_QU_keepTen_1, k_QU_keepTen_2, k_QU_keepTen_3, k_QU_keepTen_4, k_QU_keepTen_5]
def k_QU_apply_0 : List AI := [x_ldi 2, x_sw 10 [(8, 5), (9, 1), (10, 2), (11, 3), (12, 4), (13, 8), (14, 9)]]
def k_QU_apply_1 : List AI := [x_lda 0, x_lc 1, x_calv0 QU_push 2 6, x_go 11]
def k_QU_apply_2 : List AI := [x_lda 0, x_ldi 3, x_i2l, x_calv0 QU_push 2 6, x_go 11]
def k_QU_apply_3 : List AI := [x_lda 0, x_lda 0, x_gl 7 6, x_calv0 QU_push 2 6, x_go 11]
def k_QU_apply_4 : List AI := [x_lda 0, x_lda 0, x_gl 8 6, x_calv0 QU_push 2 6, x_go 11]
def k_QU_apply_5 : List AI := [x_lda 0, x_lda 0, x_calv QU_pop 1 6, x_lc 0, x_lcmp, x_ifne 6, x_lc 1, x_go 7]
def k_QU_apply_6 : List AI := [x_lc 0, x_fall 7]
def k_QU_apply_7 : List AI := [x_calv0 QU_push 2 6, x_go 11]
def k_QU_apply_8 : List AI := [x_lda 0, x_lda 0, x_lda 0, x_calv QU_pop 1 6, x_calv QU_swingOf 2 6, x_calv0 QU_push 2 6, x_go 11]
def k_QU_apply_9 : List AI := [x_lda 0, x_lda 1, x_lda 0, x_calv QU_pop 1 6, x_ldi 3, x_call QU_forceOf 3, x_calv0 QU_push 2 6, x_go 11]
def k_QU_apply_10 : List AI := [x_lda 0, x_ldi 2, x_calv0 QU_applyToTwo 2 6, x_fall 11]
def k_QU_apply_11 : List AI := [x_ret]
def kb_QU_apply : List (List AI) := [k_QU_apply_0, k_QU_apply_1, k_QU_apply_2, k_QU_apply_3, k_QU_apply_4, k_QU_apply_5, k_QU_apply_6, k_QU_apply_7, k_QU_apply_8, k_QU_apply_9, k_QU_apply_10, k_QU_apply_11]
def k_QU_applyToTwo_0 : List AI := [x_lda 0, x_calv QU_pop 1 6, x_s2 2, x_lda 0, x_calv QU_pop 1 6, x_s2 4, x_lda 0, x_ldi 1, x_ldl 4, x_ldl 2, x_call QU_joined 3, x_calv0 QU_push 2 6, x_ret]
def kb_QU_applyToTwo : List (List AI) := [k_QU_applyToTwo_0]
def k_QU_swingOf_0 : List AI := [x_ldl 1, x_lc 0, x_lcmp, x_iflt 1, x_ldl 1, x_lc 4, x_lcmp, x_ifge 1, x_lda 0, x_ga 6 6, x_ldl 1, x_l2i, x_all, x_go 2]
def k_QU_swingOf_1 : List AI := [x_lc 0, x_fall 2]
def k_QU_swingOf_2 : List AI := [x_rl]
def kb_QU_swingOf : List (List AI) := [k_QU_swingOf_0, k_QU_swingOf_1, k_QU_swingOf_2]
def k_QU_forceOf_0 : List AI := [x_ldl 1, x_lc 0, x_lcmp, x_iflt 1, x_ldl 1, x_lc 12, x_lcmp, x_ifge 1, x_lda 0, x_ldl 1, x_l2i, x_ldi 3, x_calv CW_strengthAt 3 1, x_i2l, x_go 2]
def k_QU_forceOf_1 : List AI := [x_lc 0, x_fall 2]
def k_QU_forceOf_2 : List AI := [x_rl]
def kb_QU_forceOf : List (List AI) := [k_QU_forceOf_0, k_QU_forceOf_1, k_QU_forceOf_2]
def k_QU_joined_0 : List AI := [x_ldi 0, x_sw 17 [(6, 1), (7, 2), (8, 17), (9, 17), (10, 17), (11, 17), (12, 17), (13, 17), (14, 17), (15, 3), (16, 4), (17, 5), (18, 6), (19, 7), (20, 8), (21, 11), (22, 14)]]
def k_QU_joined_1 : List AI := [x_ldl 1, x_ldl 3, x_call JK_maxL 2, x_rl]
def k_QU_joined_2 : List AI := [x_ldl 1, x_ldl 3, x_call JK_minL 2, x_rl]
def k_QU_joined_3 : List AI := [x_ldl 1, x_ldl 3, x_call JK_minL 2, x_rl]
def k_QU_joined_4 : List AI := [x_ldl 1, x_ldl 3, x_call JK_maxL 2, x_rl]
def k_QU_joined_5 : List AI := [x_ldl 1, x_ldl 3, x_ladd, x_call QU_held 1, x_rl]
def k_QU_joined_6 : List AI := [x_ldl 1, x_ldl 3, x_lsub, x_call QU_held 1, x_rl]
def k_QU_joined_7 : List AI := [x_ldl 1, x_ldl 3, x_lmul, x_call QU_held 1, x_rl]
def k_QU_joined_8 : List AI := [x_ldl 3, x_lc 0, x_lcmp, x_ifne 9, x_lc 0, x_go 10]
def k_QU_joined_9 : List AI := [x_ldl 1, x_ldl 3, x_call JK_floorDiv 2, x_fall 10]
def k_QU_joined_10 : List AI := [x_rl]
def k_QU_joined_11 : List AI := [x_ldl 1, x_ldl 3, x_lcmp, x_ifge 12, x_lc 1, x_go 13]
def k_QU_joined_12 : List AI := [x_lc 0, x_fall 13]
def k_QU_joined_13 : List AI := [x_rl]
def k_QU_joined_14 : List AI := [x_ldl 1, x_ldl 3, x_lcmp, x_ifle 15, x_lc 1, x_go 16]
def k_QU_joined_15 : List AI := [x_lc 0, x_fall 16]
def k_QU_joined_16 : List AI := [x_rl]
def k_QU_joined_17 : List AI := [x_ldl 1, x_ldl 3, x_lcmp, x_ifne 18, x_lc 1, x_go 19]
def k_QU_joined_18 : List AI := [x_lc 0, x_fall 19]
def k_QU_joined_19 : List AI := [x_rl]
def kb_QU_joined : List (List AI) := [k_QU_joined_0, k_QU_joined_1, k_QU_joined_2, k_QU_joined_3, k_QU_joined_4, k_QU_joined_5, k_QU_joined_6, k_QU_joined_7, k_QU_joined_8, k_QU_joined_9, k_QU_joined_10, k_QU_joined_11, k_QU_joined_12, k_QU_joined_13, k_QU_joined_14, k_QU_joined_15, k_QU_joined_16, k_QU_joined_17, k_QU_joined_18, k_QU_joined_19]
def k_QU_held_0 : List AI := [x_lc (-1000000), x_lc 1000000, x_ldl 0, x_call JK_minL 2, x_call JK_maxL 2, x_rl]
def kb_QU_held : List (List AI) := [k_QU_held_0]
def k_QU_push_0 : List AI := [x_lda 0, x_gi 4 6, x_lda 0, x_ga 3 6, x_len, x_icge 1, x_lda 0, x_ga 3 6, x_lda 0, x_gi 4 6, x_ldl 1, x_asl, x_lda 0, x_dup, x_gi 4 6, x_ic 1, x_iadd, x_pi 4 6, x_fall 1]
def k_QU_push_1 : List AI := [x_ret]
def kb_QU_push : List (List AI) := [k_QU_push_0, k_QU_push_1]
def k_QU_pop_0 : List AI := [x_lda 0, x_gi 4 6, x_ifne 1, x_lc 0, x_rl]
def k_QU_pop_1 : List AI := [x_lda 0, x_dup, x_gi 4 6, x_ic 1, x_isub, x_pi 4 6, x_lda 0, x_ga 3 6, x_lda 0, x_gi 4 6, x_all, x_rl]
def kb_QU_pop : List (List AI) := [k_QU_pop_0, k_QU_pop_1]
def k_RA_init_0 : List AI := [x_lda 0, x_obj, x_lda 0, x_ic 12, x_nw 2, x_pa 0 7, x_lda 0, x_ic 32, x_nw 2, x_pa 1 7, x_lda 0, x_ic 32, x_nw 2, x_pa 2 7, x_lda 0, x_lc 0, x_pl 3 7, x_lda 0, x_ic 0, x_pi 4 7, x_lda 0, x_ic 0, x_pi 5 7, x_lda 0, x_ic 0, x_pi 6 7, x_lda 0, x_ic 0, x_pi 7 7, x_ret]
def kb_RA_init : List (List AI) := [k_RA_init_0]
def k_RA_greatest_0 : List AI := [x_lc 0, x_s2 2, x_lda 0, x_call RA_firstTen 1, x_s1i 4, x_fall 1]
def k_RA_greatest_1 : List AI := [x_ldi 4, x_lda 0, x_ldi 1, x_call RA_lastTen 2, x_icgt 2, x_ldl 2, x_lda 0, x_ic 1, x_ldi 4, x_ic 10, x_imul, x_calv CW_swingAt 3 1, x_call JK_absL 1, x_call JK_maxL 2, x_s2 2, x_inc 4 1, x_go 1]
def k_RA_greatest_2 : List AI := [x_ldl 2, x_rl]
def kb_RA_greatest : List (List AI) := [k_RA_greatest_0, k_RA_greatest_1, k_RA_greatest_2]
def k_RA_findStillest_0 : List AI := [x_lda 1, x_ga 0 1, x_s1a 4, x_lda 0, x_lda 1, x_lda 2, x_ldi 3, x_calv0 RA_setLanes 4 7, x_ic 0, x_s1i 5, x_ic 1, x_lda 4, x_gi 0 5, x_ishl, x_s1i 6, x_ic 0, x_s1i 7, x_fall 1]
def k_RA_findStillest_1 : List AI := [x_ldi 7, x_ldi 6, x_icge 5, x_ldi 7, x_ifle 2, x_lda 2, x_ldi 7, x_calv0 LN_advanceTo 2 3, x_fall 2]
def k_RA_findStillest_2 : List AI := [x_lda 4, x_ldi 7, x_calv PL_allows 2 5, x_ifeq 4, x_lda 2, x_call RA_greatestOf 1, x_s2 8, x_ldi 5, x_ifeq 3, x_ldl 8, x_lda 0, x_gl 3 7, x_lcmp, x_ifge 4, x_fall 3]
def k_RA_findStillest_3 : List AI := [x_ic 1, x_s1i 5, x_lda 0, x_ldl 8, x_pl 3 7, x_lda 0, x_ldi 7, x_pi 4 7, x_fall 4]
def k_RA_findStillest_4 : List AI := [x_inc 7 1, x_go 1]
def k_RA_findStillest_5 : List AI := [x_ldi 5, x_rz]
def kb_RA_findStillest : List (List AI) := [k_RA_findStillest_0, k_RA_findStillest_1, k_RA_findStillest_2, k_RA_findStillest_3, k_RA_findStillest_4, k_RA_findStillest_5]
def k_RA_findUnderWay_0 : List AI := [x_lda 1, x_ga 0 1, x_gi 0 5, x_ic 2, x_icge 1, x_ic 0, x_rz]
def k_RA_findUnderWay_1 : List AI := [x_lda 0, x_lda 1, x_ldi 2, x_calv0 RA_sailAsTheySit 3 7, x_lda 0, x_lc (-1), x_pl 3 7, x_ic 0, x_s1i 3, x_fall 2]
def k_RA_findUnderWay_2 : List AI := [x_ldi 3, x_lda 1, x_ga 0 1, x_gi 0 5, x_icge 5, x_ldi 3, x_ic 1, x_iadd, x_s1i 4, x_fall 3]
def k_RA_findUnderWay_3 : List AI := [x_ldi 4, x_lda 1, x_ga 0 1, x_gi 0 5, x_icge 4, x_lda 0, x_lda 1, x_ldi 2, x_ldi 3, x_ldi 4, x_calv0 RA_tryChange 5 7, x_inc 4 1, x_go 3]
def k_RA_findUnderWay_4 : List AI := [x_inc 3 1, x_go 2]
def k_RA_findUnderWay_5 : List AI := [x_ic 1, x_rz]
def kb_RA_findUnderWay : List (List AI) := [k_RA_findUnderWay_0, k_RA_findUnderWay_1, k_RA_findUnderWay_2, k_RA_findUnderWay_3, k_RA_findUnderWay_4, k_RA_findUnderWay_5]
def k_RA_sailAsTheySit_0 : List AI := [x_lda 1, x_ldi 2, x_call RA_lastTen 2, x_lda 1, x_call RA_firstTen 1, x_isub, x_ic 1, x_iadd, x_s1i 3, x_lc 0, x_s2 4, x_ic 0, x_s1i 6, x_fall 1]
def k_RA_sailAsTheySit_1 : List AI := [x_ldi 6, x_ldi 3, x_icge 2, x_ldi 6, x_lda 0, x_ga 1 7, x_len, x_icge 2, x_lda 0, x_ga 1 7, x_ldi 6, x_lda 1, x_ic 1, x_lda 1, x_call RA_firstTen 1, x_ldi 6, x_iadd, x_ic 10, x_imul, x_calv CW_swingAt 3 1, x_asl, x_lda 0, x_ga 2 7, x_ldi 6, x_ldl 4, x_asl, x_ldl 4, x_lda 0, x_ga 1 7, x_ldi 6, x_all, x_call JK_absL 1, x_call JK_maxL 2, x_s2 4, x_inc 6 1, x_go 1]
def k_RA_sailAsTheySit_2 : List AI := [x_ret]
def kb_RA_sailAsTheySit : List (List AI) := [k_RA_sailAsTheySit_0, k_RA_sailAsTheySit_1, k_RA_sailAsTheySit_2]
def k_RA_tryChange_0 : List AI := [x_lda 1, x_call RA_firstTen 1, x_s1i 5, x_lda 1, x_ldi 2, x_call RA_lastTen 2, x_ldi 5, x_isub, x_ic 1, x_iadd, x_lda 0, x_ga 1 7, x_len, x_call JK_minI 2, x_s1i 6, x_lda 1, x_ic 1, x_ldi 3, x_calv CW_leverToSide 3 1, x_lda 1, x_ic 1, x_ldi 4, x_calv CW_leverToSide 3 1, x_lsub, x_s2 7, x_lc 0, x_s2 9, x_ldi 6, x_ic 1, x_isub, x_s1i 11, x_fall 1]
def k_RA_tryChange_1 : List AI := [x_ldi 11, x_iflt 4, x_ldi 5, x_ldi 11, x_iadd, x_ic 10, x_imul, x_s1i 12, x_lda 1, x_ldi 4, x_ldi 12, x_calv CW_forceIn 3 1, x_lda 1, x_ldi 3, x_ldi 12, x_calv CW_forceIn 3 1, x_isub, x_i2l, x_s2 13, x_ldl 9, x_lda 0, x_ga 1 7, x_ldi 11, x_all, x_ldl 13, x_ldl 7, x_lmul, x_ladd, x_call JK_absL 1, x_call JK_maxL 2, x_s2 9, x_lda 0, x_ga 2 7, x_ldi 11, x_all, x_ldl 9, x_call JK_maxL 2, x_s2 15, x_ldi 12, x_lda 1, x_gi 3 1, x_ic 1, x_iadd, x_call JK_maxI 2, x_s1i 17, x_lda 0, x_gl 3 7, x_lc (-1), x_lcmp, x_ifeq 2, x_ldl 15, x_lda 0, x_gl 3 7, x_lcmp, x_iflt 2, x_ldl 15, x_lda 0, x_gl 3 7, x_lcmp, x_ifne 3, x_ldi 17, x_lda 0, x_gi 5 7, x_icge 3, x_fall 2]
def k_RA_tryChange_2 : List AI := [x_lda 0, x_ldl 15, x_pl 3 7, x_lda 0, x_ldi 17, x_pi 5 7, x_lda 0, x_ldi 3, x_pi 6 7, x_lda 0, x_ldi 4, x_pi 7 7, x_fall 3]
def k_RA_tryChange_3 : List AI := [x_inc 11 (-1), x_go 1]
def k_RA_tryChange_4 : List AI := [x_ret]
def kb_RA_tryChange : List (List AI) := [k_RA_tryChange_0, k_RA_tryChange_1, k_RA_tryChange_2, k_RA_tryChange_3, k_RA_tryChange_4]
def k_RA_setLanes_0 : List AI := [x_lda 2, x_calv0 LN_clear 1 3, x_lda 1, x_call RA_firstTen 1, x_s1i 4, x_fall 1]
def k_RA_setLanes_1 : List AI := [x_ldi 4, x_lda 1, x_ldi 3, x_call RA_lastTen 2, x_icgt 4, x_ic 0, x_s1i 5, x_fall 2]
def k_RA_setLanes_2 : List AI := [x_ldi 5, x_lda 1, x_ga 0 1, x_gi 0 5, x_icge 3, x_lda 0, x_ga 0 7, x_ldi 5, x_lda 1, x_ldi 5, x_ldi 4, x_ic 10, x_imul, x_calv CW_forceIn 3 1, x_i2l, x_lda 1, x_ga 0 1, x_ic 1, x_ldi 5, x_calv PL_leverOf 3 5, x_lmul, x_asl, x_inc 5 1, x_go 2]
def k_RA_setLanes_3 : List AI := [x_lda 2, x_lc 0, x_lda 0, x_ga 0 7, x_lda 1, x_ga 0 1, x_gi 0 5, x_calv0 LN_add 4 3, x_inc 4 1, x_go 1]
def k_RA_setLanes_4 : List AI := [x_ret]
def kb_RA_setLanes : List (List AI) := [k_RA_setLanes_0, k_RA_setLanes_1, k_RA_setLanes_2, k_RA_setLanes_3, k_RA_setLanes_4]
def k_RA_greatestOf_0 : List AI := [x_lc 0, x_s2 1, x_ic 0, x_s1i 3, x_fall 1]
def k_RA_greatestOf_1 : List AI := [x_ldi 3, x_lda 0, x_gi 2 3, x_icge 2, x_ldl 1, x_lda 0, x_ga 0 3, x_ldi 3, x_all, x_call JK_absL 1, x_call JK_maxL 2, x_s2 1, x_inc 3 1, x_go 1]
def k_RA_greatestOf_2 : List AI := [x_ldl 1, x_rl]
def kb_RA_greatestOf : List (List AI) := [k_RA_greatestOf_0, k_RA_greatestOf_1, k_RA_greatestOf_2]
def k_RA_firstTen_0 : List AI := [x_lda 0, x_gi 3 1, x_ic 1, x_iadd, x_ic 10, x_idiv, x_ri]
def kb_RA_firstTen : List (List AI) := [k_RA_firstTen_0]
def k_RA_lastTen_0 : List AI := [x_lda 0, x_gi 3 1, x_ldi 1, x_iadd, x_ic 10, x_idiv, x_ri]
def kb_RA_lastTen : List (List AI) := [k_RA_lastTen_0]
def k_TP_init_0 : List AI := [x_lda 0, x_obj, x_lda 0, x_ic 1600, x_nw 3, x_pa 0 8, x_lda 0, x_ic 0, x_pi 1 8, x_lda 0, x_ic 0, x_pi 2 8, x_lda 0, x_ic (-1), x_pi 3 8, x_lda 0, x_ic 0, x_pi 4 8, x_lda 0, x_ic 0, x_pi 5 8, x_lda 0, x_ic 0, x_pi 6 8, x_lda 0, x_ic (-1), x_pi 7 8, x_ret]
def kb_TP_init : List (List AI) := [k_TP_init_0]
def k_TP_hasRoomForFive_0 : List AI := [x_lda 0, x_gi 1 8, x_ic 20, x_iadd, x_ic 1600, x_icgt 1, x_ic 1, x_go 2]
def k_TP_hasRoomForFive_1 : List AI := [x_ic 0, x_fall 2]
def k_TP_hasRoomForFive_2 : List AI := [x_rz]
def kb_TP_hasRoomForFive : List (List AI) := [k_TP_hasRoomForFive_0, k_TP_hasRoomForFive_1, k_TP_hasRoomForFive_2]
def k_TP_put_0 : List AI := [x_ic 24, x_s1i 2, x_fall 1]
def k_TP_put_1 : List AI := [x_ldi 2, x_iflt 2, x_lda 0, x_gi 1 8, x_ic 1600, x_icge 2, x_lda 0, x_ga 0 8, x_lda 0, x_gi 1 8, x_ldi 1, x_ldi 2, x_ishr, x_i2b, x_asb, x_lda 0, x_dup, x_gi 1 8, x_ic 1, x_iadd, x_pi 1 8, x_inc 2 (-8), x_go 1]
def k_TP_put_2 : List AI := [x_ret]
def kb_TP_put : List (List AI) := [k_TP_put_0, k_TP_put_1, k_TP_put_2]
def k_TP_cut_0 : List AI := [x_ldi 1, x_iflt 1, x_ldi 1, x_lda 0, x_gi 1 8, x_icle 2, x_fall 1]
def k_TP_cut_1 : List AI := [x_ic 0, x_rz]
def k_TP_cut_2 : List AI := [x_lda 0, x_ldi 1, x_pi 1 8, x_ic 1, x_rz]
def kb_TP_cut : List (List AI) := [k_TP_cut_0, k_TP_cut_1, k_TP_cut_2]
def k_TP_clear_0 : List AI := [x_lda 0, x_ic 0, x_pi 1 8, x_ret]
def kb_TP_clear : List (List AI) := [k_TP_clear_0]
def k_TP_byteAt_0 : List AI := [x_ldi 1, x_iflt 1, x_ldi 1, x_lda 0, x_gi 1 8, x_icge 1, x_lda 0, x_ga 0 8, x_ldi 1, x_alb, x_ic 255, x_iand, x_go 2]
def k_TP_byteAt_1 : List AI := [x_ic (-1), x_fall 2]
def k_TP_byteAt_2 : List AI := [x_ri]
def kb_TP_byteAt : List (List AI) := [k_TP_byteAt_0, k_TP_byteAt_1, k_TP_byteAt_2]
def k_TP_begin_0 : List AI := [x_lda 0, x_ic 0, x_pi 2 8, x_lda 0, x_ic (-1), x_pi 3 8, x_lda 0, x_ic 0, x_pi 6 8, x_lda 0, x_ic (-1), x_pi 7 8, x_ret]
def kb_TP_begin : List (List AI) := [k_TP_begin_0]
def k_TP_fail_0 : List AI := [x_lda 0, x_ldi 1, x_pi 6 8, x_lda 0, x_ldi 2, x_pi 7 8, x_ic 0, x_rz]
def kb_TP_fail : List (List AI) := [k_TP_fail_0]
def k_TP_failHere_0 : List AI := [x_lda 0, x_ic 1, x_lda 0, x_gi 2 8, x_calv TP_fail 3 8, x_rz]
def kb_TP_failHere : List (List AI) := [k_TP_failHere_0]
def k_TP_next_0 : List AI := [x_lda 0, x_gi 2 8, x_lda 0, x_gi 1 8, x_icge 1, x_lda 0, x_lda 0, x_gi 2 8, x_calv TP_byteAt 2 8, x_call TP_isBlank 1, x_ifeq 1, x_lda 0, x_dup, x_gi 2 8, x_ic 1, x_iadd, x_pi 2 8, x_go 0]
def k_TP_next_1 : List AI := [x_lda 0, x_lda 0, x_gi 2 8, x_calv TP_byteAt 2 8, x_ri]
def kb_TP_next : List (List AI) := [k_TP_next_0, k_TP_next_1]
def k_TP_takeSign_0 : List AI := [x_lda 0, x_calv TP_next 1 8, x_ldi 1, x_iceq 1, x_lda 0, x_calv TP_failHere 1 8, x_rz]
def k_TP_takeSign_1 : List AI := [x_lda 0, x_dup, x_gi 2 8, x_ic 1, x_iadd, x_pi 2 8, x_ic 1, x_rz]
def kb_TP_takeSign : List (List AI) := [k_TP_takeSign_0, k_TP_takeSign_1]
def k_TP_wordHere_0 : List AI := [x_lda 0, x_calv TP_next 1 8, x_call TP_isLetter 1, x_ifeq 1, x_lda 0, x_gi 2 8, x_lda 0, x_gi 3 8, x_icne 2, x_fall 1]
def k_TP_wordHere_1 : List AI := [x_ic (-1), x_ri]
def k_TP_wordHere_2 : List AI := [x_lda 0, x_lda 1, x_lda 0, x_calv TP_wordEnd 1 8, x_calv TP_placeIn 3 8, x_ri]
def kb_TP_wordHere : List (List AI) := [k_TP_wordHere_0, k_TP_wordHere_1, k_TP_wordHere_2]
def k_TP_passWord_0 : List AI := [x_lda 0, x_lda 0, x_calv TP_wordEnd 1 8, x_pi 2 8, x_lda 0, x_lda 0, x_gi 2 8, x_pi 3 8, x_ret]
def kb_TP_passWord : List (List AI) := [k_TP_passWord_0]
def k_TP_takeWord_0 : List AI := [x_lda 0, x_lda 1, x_calv TP_wordHere 2 8, x_ldi 2, x_iceq 1, x_lda 0, x_calv TP_failHere 1 8, x_rz]
def k_TP_takeWord_1 : List AI := [x_lda 0, x_calv0 TP_passWord 1 8, x_ic 1, x_rz]
def kb_TP_takeWord : List (List AI) := [k_TP_takeWord_0, k_TP_takeWord_1]
def k_TP_anyWordEnd_0 : List AI := [x_lda 0, x_calv TP_next 1 8, x_call TP_isLetter 1, x_ifeq 1, x_lda 0, x_gi 2 8, x_lda 0, x_gi 3 8, x_iceq 1, x_lda 0, x_calv TP_wordEnd 1 8, x_go 2]
def k_TP_anyWordEnd_1 : List AI := [x_ic (-1), x_fall 2]
def k_TP_anyWordEnd_2 : List AI := [x_ri]
def kb_TP_anyWordEnd : List (List AI) := [k_TP_anyWordEnd_0, k_TP_anyWordEnd_1, k_TP_anyWordEnd_2]
def k_TP_placeIn_0 : List AI := [x_ic 0, x_s1i 3, x_lda 0, x_gi 2 8, x_s1i 4, x_ic 1, x_s1i 5, x_ic 0, x_s1i 6, x_fall 1]
def k_TP_placeIn_1 : List AI := [x_ldi 6, x_lda 1, x_sln, x_icge 7, x_lda 1, x_ldi 6, x_sch, x_s1i 7, x_ldi 7, x_ic 32, x_iceq 4, x_ldi 5, x_ifeq 2, x_ldi 4, x_ldi 2, x_icge 2, x_lda 0, x_ldi 4, x_calv TP_byteAt 2 8, x_ldi 7, x_icne 2, x_ic 1, x_go 3]
def k_TP_placeIn_2 : List AI := [x_ic 0, x_fall 3]
def k_TP_placeIn_3 : List AI := [x_s1i 5, x_inc 4 1, x_go 6]
def k_TP_placeIn_4 : List AI := [x_ldi 5, x_ifeq 5, x_ldi 4, x_ldi 2, x_icne 5, x_ldi 3, x_ri]
def k_TP_placeIn_5 : List AI := [x_inc 3 1, x_lda 0, x_gi 2 8, x_s1i 4, x_ic 1, x_s1i 5, x_fall 6]
def k_TP_placeIn_6 : List AI := [x_inc 6 1, x_go 1]
def k_TP_placeIn_7 : List AI := [x_ic (-1), x_ri]
def kb_TP_placeIn : List (List AI) := [k_TP_placeIn_0, k_TP_placeIn_1, k_TP_placeIn_2, k_TP_placeIn_3, k_TP_placeIn_4, k_TP_placeIn_5, k_TP_placeIn_6, k_TP_placeIn_7]
def k_TP_takeNumber_0 : List AI := [x_lda 0, x_calv TP_next 1 8, x_call TP_isDigit 1, x_ifeq 1, x_lda 0, x_gi 2 8, x_lda 0, x_gi 3 8, x_iceq 1, x_ic 1, x_go 2]
def k_TP_takeNumber_1 : List AI := [x_ic 0, x_fall 2]
def k_TP_takeNumber_2 : List AI := [x_s1i 3, x_lda 0, x_lda 0, x_gi 2 8, x_pi 5 8, x_lda 0, x_ic 0, x_pi 4 8, x_ldi 3, x_ifne 3, x_lda 0, x_calv TP_failHere 1 8, x_rz]
def k_TP_takeNumber_3 : List AI := [x_ic 0, x_s1i 4, x_fall 4]
def k_TP_takeNumber_4 : List AI := [x_ldi 4, x_ic 5, x_icge 5, x_lda 0, x_lda 0, x_gi 2 8, x_calv TP_byteAt 2 8, x_call TP_isDigit 1, x_ifeq 5, x_lda 0, x_lda 0, x_gi 4 8, x_ic 10, x_imul, x_lda 0, x_lda 0, x_gi 2 8, x_calv TP_byteAt 2 8, x_iadd, x_ic 48, x_isub, x_pi 4 8, x_lda 0, x_dup, x_gi 2 8, x_ic 1, x_iadd, x_pi 2 8, x_inc 4 1, x_go 4]
def k_TP_takeNumber_5 : List AI := [x_lda 0, x_lda 0, x_gi 2 8, x_calv TP_byteAt 2 8, x_call TP_isDigit 1, x_ifeq 6, x_lda 0, x_calv TP_failHere 1 8, x_rz]
def k_TP_takeNumber_6 : List AI := [x_lda 0, x_lda 0, x_gi 2 8, x_pi 3 8, x_lda 0, x_gi 4 8, x_ldi 1, x_iclt 7, x_lda 0, x_gi 4 8, x_ldi 2, x_icle 8, x_fall 7]
def k_TP_takeNumber_7 : List AI := [x_lda 0, x_ic 2, x_lda 0, x_gi 5 8, x_calv TP_fail 3 8, x_ifeq 9, x_fall 8]
def k_TP_takeNumber_8 : List AI := [x_ic 1, x_go 10]
def k_TP_takeNumber_9 : List AI := [x_ic 0, x_fall 10]
def k_TP_takeNumber_10 : List AI := [x_rz]
def kb_TP_takeNumber : List (List AI) := [k_TP_takeNumber_0, k_TP_takeNumber_1, k_TP_takeNumber_2, k_TP_takeNumber_3, k_TP_takeNumber_4, k_TP_takeNumber_5, k_TP_takeNumber_6, k_TP_takeNumber_7, k_TP_takeNumber_8, k_TP_takeNumber_9, k_TP_takeNumber_10]
def k_TP_takeSignedNumber_0 : List AI := [x_lda 0, x_calv TP_next 1 8, x_ic 45, x_icne 1, x_ic 1, x_go 2]
def k_TP_takeSignedNumber_1 : List AI := [x_ic 0, x_fall 2]
def k_TP_takeSignedNumber_2 : List AI := [x_s1i 2, x_lda 0, x_gi 2 8, x_s1i 3, x_ldi 2, x_ifeq 3, x_lda 0, x_dup, x_gi 2 8, x_ic 1, x_iadd, x_pi 2 8, x_fall 3]
def k_TP_takeSignedNumber_3 : List AI := [x_lda 0, x_ic 0, x_ic 99999, x_calv TP_takeNumber 3 8, x_ifne 4, x_ic 0, x_rz]
def k_TP_takeSignedNumber_4 : List AI := [x_lda 0, x_ldi 3, x_pi 5 8, x_ldi 2, x_ifeq 5, x_lda 0, x_lda 0, x_gi 4 8, x_ineg, x_pi 4 8, x_fall 5]
def k_TP_takeSignedNumber_5 : List AI := [x_lda 0, x_gi 4 8, x_call JK_absI 1, x_ldi 1, x_icle 6, x_lda 0, x_ic 2, x_ldi 3, x_calv TP_fail 3 8, x_ifeq 7, x_fall 6]
def k_TP_takeSignedNumber_6 : List AI := [x_ic 1, x_go 8]
def k_TP_takeSignedNumber_7 : List AI := [x_ic 0, x_fall 8]
def k_TP_takeSignedNumber_8 : List AI := [x_rz]
def kb_TP_takeSignedNumber : List (List AI) := [k_TP_takeSignedNumber_0, k_TP_takeSignedNumber_1, k_TP_takeSignedNumber_2, k_TP_takeSignedNumber_3, k_TP_takeSignedNumber_4, k_TP_takeSignedNumber_5, k_TP_takeSignedNumber_6, k_TP_takeSignedNumber_7, k_TP_takeSignedNumber_8]
def k_TP_wordEnd_0 : List AI := [x_lda 0, x_gi 2 8, x_s1i 1, x_fall 1]
def k_TP_wordEnd_1 : List AI := [x_ldi 1, x_lda 0, x_gi 1 8, x_icge 2, x_lda 0, x_ldi 1, x_calv TP_byteAt 2 8, x_call TP_isLetter 1, x_ifeq 2, x_inc 1 1, x_go 1]
def k_TP_wordEnd_2 : List AI := [x_ldi 1, x_ri]
def kb_TP_wordEnd : List (List AI) := [k_TP_wordEnd_0, k_TP_wordEnd_1, k_TP_wordEnd_2]
def k_TP_isLetter_0 : List AI := [x_ldi 0, x_ic 97, x_iclt 1, x_ldi 0, x_ic 122, x_icgt 1, x_ic 1, x_go 2]
def k_TP_isLetter_1 : List AI := [x_ic 0, x_fall 2]
def k_TP_isLetter_2 : List AI := [x_rz]
def kb_TP_isLetter : List (List AI) := [k_TP_isLetter_0, k_TP_isLetter_1, k_TP_isLetter_2]
def k_TP_isDigit_0 : List AI := [x_ldi 0, x_ic 48, x_iclt 1, x_ldi 0, x_ic 57, x_icgt 1, x_ic 1, x_go 2]
def k_TP_isDigit_1 : List AI := [x_ic 0, x_fall 2]
def k_TP_isDigit_2 : List AI := [x_rz]
def kb_TP_isDigit : List (List AI) := [k_TP_isDigit_0, k_TP_isDigit_1, k_TP_isDigit_2]
def k_TP_isBlank_0 : List AI := [x_ldi 0, x_ic 10, x_iceq 1, x_ldi 0, x_ic 32, x_icne 2, x_fall 1]
def k_TP_isBlank_1 : List AI := [x_ic 1, x_go 3]
def k_TP_isBlank_2 : List AI := [x_ic 0, x_fall 3]
def k_TP_isBlank_3 : List AI := [x_rz]
def kb_TP_isBlank : List (List AI) := [k_TP_isBlank_0, k_TP_isBlank_1, k_TP_isBlank_2, k_TP_isBlank_3]
def k_TR_init_0 : List AI := [x_lda 0, x_obj, x_lda 0, x_ic 8, x_nw 2, x_pa 0 9, x_lda 0, x_ic 8, x_nw 2, x_pa 1 9, x_lda 0, x_ic 48, x_nw 2, x_pa 2 9, x_lda 0, x_ic 56, x_nw 2, x_pa 3 9, x_lda 0, x_ic 56, x_nw 2, x_pa 4 9, x_lda 0, x_ic 6, x_nw 1, x_pa 5 9, x_lda 0, x_ic 6, x_nw 1, x_pa 6 9, x_lda 0, x_ic 0, x_pz 7 9, x_lda 0, x_ic 0, x_pi 8 9, x_ret]
def kb_TR_init : List (List AI) := [k_TR_init_0]
def k_TR_forget_0 : List AI := [x_lda 0, x_ic 0, x_pz 7 9, x_ret]
def kb_TR_forget : List (List AI) := [k_TR_forget_0]
def k_TR_firstUnfit_0 : List AI := [x_ic 0, x_s1i 1, x_fall 1]
def k_TR_firstUnfit_1 : List AI := [x_ldi 1, x_lda 0, x_gi 13 5, x_icge 3, x_lda 0, x_ldi 1, x_call TR_gapAsTold 2, x_call JK_absL 1, x_lda 0, x_gi 12 5, x_i2l, x_lcmp, x_ifle 2, x_ldi 1, x_ri]
def k_TR_firstUnfit_2 : List AI := [x_inc 1 1, x_go 1]
def k_TR_firstUnfit_3 : List AI := [x_ic (-1), x_ri]
def kb_TR_firstUnfit : List (List AI) := [k_TR_firstUnfit_0, k_TR_firstUnfit_1, k_TR_firstUnfit_2, k_TR_firstUnfit_3]
def k_TR_told_0 : List AI := [x_lda 1, x_gi 6 5, x_ic 6, x_icgt 1, x_lda 1, x_ldi 2, x_calv PL_isRower 2 5, x_ifeq 1, x_ldi 2, x_ic 6, x_icge 1, x_ldi 3, x_iflt 1, x_ldi 3, x_ic 2, x_icle 2, x_fall 1]
def k_TR_told_1 : List AI := [x_ic (-1), x_ri]
def k_TR_told_2 : List AI := [x_lda 0, x_gi 7 9, x_ifne 3, x_lda 0, x_lda 1, x_calv0 TR_countRows 2 9, x_lda 0, x_ic 1, x_pz 7 9, x_fall 3]
def k_TR_told_3 : List AI := [x_ldi 3, x_ifne 4, x_lda 0, x_gi 8 9, x_ri]
def k_TR_told_4 : List AI := [x_lda 0, x_gi 8 9, x_ifne 5, x_ic (-1), x_ri]
def k_TR_told_5 : List AI := [x_ldi 3, x_ic 1, x_icne 6, x_lda 0, x_ga 5 9, x_ldi 2, x_ali, x_go 7]
def k_TR_told_6 : List AI := [x_lda 0, x_ga 6 9, x_ldi 2, x_ali, x_fall 7]
def k_TR_told_7 : List AI := [x_ri]
def kb_TR_told : List (List AI) := [k_TR_told_0, k_TR_told_1, k_TR_told_2, k_TR_told_3, k_TR_told_4, k_TR_told_5, k_TR_told_6, k_TR_told_7]
def k_TR_crookedSeats_0 : List AI := [x_lda 1, x_call TR_firstUnfit 1, x_ic (-1), x_icne 1, x_ic 0, x_ri]
def k_TR_crookedSeats_1 : List AI := [x_ic 0, x_s1i 2, x_fall 2]
def k_TR_crookedSeats_2 : List AI := [x_ldi 2, x_lda 1, x_gi 13 5, x_icge 3, x_lda 0, x_ga 0 9, x_ldi 2, x_lda 1, x_ldi 2, x_call TR_gapAsTold 2, x_asl, x_inc 2 1, x_go 2]
def k_TR_crookedSeats_3 : List AI := [x_ic 0, x_s1i 2, x_ic 0, x_s1i 3, x_fall 4]
def k_TR_crookedSeats_4 : List AI := [x_ldi 3, x_lda 1, x_calv PL_seatedAtFirst 1 5, x_icge 6, x_lda 0, x_lda 1, x_ldi 3, x_calv TR_canBeCrooked 3 9, x_ifeq 5, x_ldi 2, x_ic 1, x_ldi 3, x_ishl, x_ior, x_s1i 2, x_fall 5]
def k_TR_crookedSeats_5 : List AI := [x_inc 3 1, x_go 4]
def k_TR_crookedSeats_6 : List AI := [x_ldi 2, x_ri]
def kb_TR_crookedSeats : List (List AI) := [k_TR_crookedSeats_0, k_TR_crookedSeats_1, k_TR_crookedSeats_2, k_TR_crookedSeats_3, k_TR_crookedSeats_4, k_TR_crookedSeats_5, k_TR_crookedSeats_6]
def k_TR_gapAsTold_0 : List AI := [x_lda 0, x_ldi 1, x_calv PL_swungOf 2 5, x_lneg, x_s2 2, x_ic 0, x_s1i 4, x_fall 1]
def k_TR_gapAsTold_1 : List AI := [x_ldi 4, x_lda 0, x_calv PL_seatedAtFirst 1 5, x_icge 2, x_ldl 2, x_lda 0, x_ldi 1, x_ldi 4, x_calv PL_runLever 3 5, x_lda 0, x_ga 8 5, x_ldi 4, x_ali, x_i2l, x_lmul, x_ladd, x_s2 2, x_inc 4 1, x_go 1]
def k_TR_gapAsTold_2 : List AI := [x_ldl 2, x_rl]
def kb_TR_gapAsTold : List (List AI) := [k_TR_gapAsTold_0, k_TR_gapAsTold_1, k_TR_gapAsTold_2]
def k_TR_canBeCrooked_0 : List AI := [x_lda 1, x_ga 2 5, x_ldi 2, x_ali, x_s1i 3, x_ic 0, x_s1i 4, x_fall 1]
def k_TR_canBeCrooked_1 : List AI := [x_ldi 4, x_lda 1, x_gi 13 5, x_icge 4, x_lda 0, x_ga 1 9, x_ldi 4, x_ldi 3, x_ifne 2, x_lc 0, x_go 3]
def k_TR_canBeCrooked_2 : List AI := [x_lda 1, x_ldi 4, x_ldi 2, x_calv PL_runLever 3 5, x_ldi 3, x_i2l, x_ldiv, x_lda 1, x_ga 8 5, x_ldi 2, x_ali, x_i2l, x_lmul, x_fall 3]
def k_TR_canBeCrooked_3 : List AI := [x_asl, x_inc 4 1, x_go 1]
def k_TR_canBeCrooked_4 : List AI := [x_ic 1, x_s1i 4, x_fall 5]
def k_TR_canBeCrooked_5 : List AI := [x_ldi 4, x_ic 99, x_icgt 7, x_lda 0, x_lda 1, x_ldi 4, x_ldi 3, x_isub, x_calv TR_allFitWith 3 9, x_ifeq 6, x_ic 1, x_rz]
def k_TR_canBeCrooked_6 : List AI := [x_inc 4 1, x_go 5]
def k_TR_canBeCrooked_7 : List AI := [x_ic 0, x_rz]
def kb_TR_canBeCrooked : List (List AI) := [k_TR_canBeCrooked_0, k_TR_canBeCrooked_1, k_TR_canBeCrooked_2, k_TR_canBeCrooked_3, k_TR_canBeCrooked_4, k_TR_canBeCrooked_5, k_TR_canBeCrooked_6, k_TR_canBeCrooked_7]
def k_TR_allFitWith_0 : List AI := [x_ic 0, x_s1i 3, x_fall 1]
def k_TR_allFitWith_1 : List AI := [x_ldi 3, x_lda 1, x_gi 13 5, x_icge 3, x_lda 0, x_ga 0 9, x_ldi 3, x_all, x_lda 0, x_ga 1 9, x_ldi 3, x_all, x_ldi 2, x_i2l, x_lmul, x_ladd, x_call JK_absL 1, x_lda 1, x_gi 12 5, x_i2l, x_lcmp, x_ifle 2, x_ic 0, x_rz]
def k_TR_allFitWith_2 : List AI := [x_inc 3 1, x_go 1]
def k_TR_allFitWith_3 : List AI := [x_ic 1, x_rz]
def kb_TR_allFitWith : List (List AI) := [k_TR_allFitWith_0, k_TR_allFitWith_1, k_TR_allFitWith_2, k_TR_allFitWith_3]
def k_TR_countRows_0 : List AI := [x_lda 0, x_ga 5 9, x_ic 9, x_call0 JK_fillI 2, x_lda 0, x_ga 6 9, x_ic 1, x_call0 JK_fillI 2, x_ic 0, x_s1i 2, x_fall 1]
def k_TR_countRows_1 : List AI := [x_ldi 2, x_lda 1, x_gi 13 5, x_icge 2, x_lda 0, x_ga 0 9, x_ldi 2, x_lda 1, x_ldi 2, x_calv PL_swungOf 2 5, x_lneg, x_asl, x_lda 0, x_lda 1, x_ldi 2, x_calv0 TR_setBounds 3 9, x_inc 2 1, x_go 1]
def k_TR_countRows_2 : List AI := [x_lda 0, x_lda 0, x_lda 1, x_ic 0, x_calv TR_rowsFrom 3 9, x_pi 8 9, x_ret]
def kb_TR_countRows : List (List AI) := [k_TR_countRows_0, k_TR_countRows_1, k_TR_countRows_2]
def k_TR_setBounds_0 : List AI := [x_ldi 2, x_ic 7, x_imul, x_lda 1, x_gi 6 5, x_iadd, x_s1i 3, x_lda 0, x_ga 3 9, x_ldi 3, x_lc 0, x_asl, x_lda 0, x_ga 4 9, x_ldi 3, x_lc 0, x_asl, x_lda 1, x_gi 6 5, x_ic 1, x_isub, x_s1i 4, x_fall 1]
def k_TR_setBounds_1 : List AI := [x_ldi 4, x_iflt 2, x_lda 1, x_ldi 2, x_ldi 4, x_calv PL_runLever 3 5, x_s2 5, x_lda 0, x_ga 2 9, x_ldi 2, x_ic 6, x_imul, x_ldi 4, x_iadd, x_ldl 5, x_asl, x_inc 3 (-1), x_lda 0, x_ga 3 9, x_ldi 3, x_lda 0, x_ga 3 9, x_ldi 3, x_ic 1, x_iadd, x_all, x_ldl 5, x_lc 1, x_lmul, x_ldl 5, x_lc 9, x_lmul, x_call JK_minL 2, x_ladd, x_asl, x_lda 0, x_ga 4 9, x_ldi 3, x_lda 0, x_ga 4 9, x_ldi 3, x_ic 1, x_iadd, x_all, x_ldl 5, x_lc 1, x_lmul, x_ldl 5, x_lc 9, x_lmul, x_call JK_maxL 2, x_ladd, x_asl, x_inc 4 (-1), x_go 1]
def k_TR_setBounds_2 : List AI := [x_ret]
def kb_TR_setBounds : List (List AI) := [k_TR_setBounds_0, k_TR_setBounds_1, k_TR_setBounds_2]
def k_TR_rowsFrom_0 : List AI := [x_lda 0, x_lda 1, x_ldi 2, x_calv TR_verdictFrom 3 9, x_s1i 3, x_ldi 3, x_ifne 1, x_ic 0, x_ri]
def k_TR_rowsFrom_1 : List AI := [x_ldi 3, x_ic 2, x_icne 2, x_lda 0, x_lda 1, x_ldi 2, x_calv TR_allRowsFrom 3 9, x_ri]
def k_TR_rowsFrom_2 : List AI := [x_ldi 2, x_lda 1, x_gi 6 5, x_ic 1, x_isub, x_iclt 3, x_lda 0, x_lda 1, x_ldi 2, x_calv TR_rowsOfLast 3 9, x_ri]
def k_TR_rowsFrom_3 : List AI := [x_ic 0, x_s1i 4, x_ic 1, x_s1i 5, x_fall 4]
def k_TR_rowsFrom_4 : List AI := [x_ldi 5, x_ic 9, x_icgt 6, x_lda 0, x_lda 1, x_ldi 2, x_ic 1, x_calv0 TR_tryMore 4 9, x_lda 0, x_lda 1, x_ldi 2, x_ic 1, x_iadd, x_calv TR_rowsFrom 3 9, x_s1i 6, x_ldi 6, x_ifle 5, x_lda 0, x_ldi 2, x_ldi 5, x_ldi 5, x_calv0 TR_noteStrengths 4 9, x_fall 5]
def k_TR_rowsFrom_5 : List AI := [x_ldi 4, x_ldi 6, x_iadd, x_s1i 4, x_inc 5 1, x_go 4]
def k_TR_rowsFrom_6 : List AI := [x_lda 0, x_lda 1, x_ldi 2, x_ic (-9), x_calv0 TR_tryMore 4 9, x_ldi 4, x_ri]
def kb_TR_rowsFrom : List (List AI) := [k_TR_rowsFrom_0, k_TR_rowsFrom_1, k_TR_rowsFrom_2, k_TR_rowsFrom_3, k_TR_rowsFrom_4, k_TR_rowsFrom_5, k_TR_rowsFrom_6]
def k_TR_verdictFrom_0 : List AI := [x_lda 1, x_gi 12 5, x_i2l, x_s2 3, x_ic 2, x_s1i 5, x_ic 0, x_s1i 6, x_fall 1]
def k_TR_verdictFrom_1 : List AI := [x_ldi 6, x_lda 1, x_gi 13 5, x_icge 6, x_ldi 6, x_ic 7, x_imul, x_ldi 2, x_iadd, x_s1i 7, x_lda 0, x_ga 0 9, x_ldi 6, x_all, x_lda 0, x_ga 3 9, x_ldi 7, x_all, x_ladd, x_s2 8, x_lda 0, x_ga 0 9, x_ldi 6, x_all, x_lda 0, x_ga 4 9, x_ldi 7, x_all, x_ladd, x_s2 10, x_ldl 10, x_ldl 3, x_lneg, x_lcmp, x_iflt 2, x_ldl 8, x_ldl 3, x_lcmp, x_ifle 3, x_fall 2]
def k_TR_verdictFrom_2 : List AI := [x_ic 0, x_ri]
def k_TR_verdictFrom_3 : List AI := [x_ldl 8, x_ldl 3, x_lneg, x_lcmp, x_iflt 4, x_ldl 10, x_ldl 3, x_lcmp, x_ifle 5, x_fall 4]
def k_TR_verdictFrom_4 : List AI := [x_ic 1, x_s1i 5, x_fall 5]
def k_TR_verdictFrom_5 : List AI := [x_inc 6 1, x_go 1]
def k_TR_verdictFrom_6 : List AI := [x_ldi 5, x_ri]
def kb_TR_verdictFrom : List (List AI) := [k_TR_verdictFrom_0, k_TR_verdictFrom_1, k_TR_verdictFrom_2, k_TR_verdictFrom_3, k_TR_verdictFrom_4, k_TR_verdictFrom_5, k_TR_verdictFrom_6]
def k_TR_allRowsFrom_0 : List AI := [x_ic 1, x_s1i 3, x_ldi 2, x_s1i 4, x_fall 1]
def k_TR_allRowsFrom_1 : List AI := [x_ldi 4, x_lda 1, x_gi 6 5, x_icge 2, x_lda 0, x_ldi 4, x_ic 1, x_ic 9, x_calv0 TR_noteStrengths 4 9, x_ldi 3, x_ic 9, x_imul, x_s1i 3, x_inc 4 1, x_go 1]
def k_TR_allRowsFrom_2 : List AI := [x_ldi 3, x_ri]
def kb_TR_allRowsFrom : List (List AI) := [k_TR_allRowsFrom_0, k_TR_allRowsFrom_1, k_TR_allRowsFrom_2]
def k_TR_rowsOfLast_0 : List AI := [x_lc 1, x_s2 3, x_lc 9, x_s2 5, x_ic 0, x_s1i 7, x_fall 1]
def k_TR_rowsOfLast_1 : List AI := [x_ldi 7, x_lda 1, x_gi 13 5, x_icge 5, x_lda 0, x_ga 2 9, x_ldi 7, x_ic 6, x_imul, x_ldi 2, x_iadd, x_all, x_s2 8, x_ldl 8, x_lc 0, x_lcmp, x_ifge 2, x_lda 0, x_ga 0 9, x_ldi 7, x_all, x_lneg, x_go 3]
def k_TR_rowsOfLast_2 : List AI := [x_lda 0, x_ga 0 9, x_ldi 7, x_all, x_fall 3]
def k_TR_rowsOfLast_3 : List AI := [x_s2 10, x_ldl 8, x_call JK_absL 1, x_s2 12, x_ldl 12, x_lc 0, x_lcmp, x_ifeq 4, x_ldl 3, x_lda 1, x_gi 12 5, x_i2l, x_ldl 10, x_ladd, x_ldl 12, x_call JK_floorDiv 2, x_lneg, x_call JK_maxL 2, x_s2 3, x_ldl 5, x_lda 1, x_gi 12 5, x_i2l, x_ldl 10, x_lsub, x_ldl 12, x_call JK_floorDiv 2, x_call JK_minL 2, x_s2 5, x_fall 4]
def k_TR_rowsOfLast_4 : List AI := [x_inc 7 1, x_go 1]
def k_TR_rowsOfLast_5 : List AI := [x_ldl 3, x_ldl 5, x_lcmp, x_ifle 6, x_ic 0, x_ri]
def k_TR_rowsOfLast_6 : List AI := [x_lda 0, x_ldi 2, x_ldl 3, x_l2i, x_ldl 5, x_l2i, x_calv0 TR_noteStrengths 4 9, x_ldl 5, x_ldl 3, x_lsub, x_lc 1, x_ladd, x_l2i, x_ri]
def kb_TR_rowsOfLast : List (List AI) := [k_TR_rowsOfLast_0, k_TR_rowsOfLast_1, k_TR_rowsOfLast_2, k_TR_rowsOfLast_3, k_TR_rowsOfLast_4, k_TR_rowsOfLast_5, k_TR_rowsOfLast_6]
def k_TR_tryMore_0 : List AI := [x_ic 0, x_s1i 4, x_fall 1]
def k_TR_tryMore_1 : List AI := [x_ldi 4, x_lda 1, x_gi 13 5, x_icge 2, x_lda 0, x_ga 0 9, x_ldi 4, x_dup2, x_all, x_lda 0, x_ga 2 9, x_ldi 4, x_ic 6, x_imul, x_ldi 2, x_iadd, x_all, x_ldi 3, x_i2l, x_lmul, x_ladd, x_asl, x_inc 4 1, x_go 1]
def k_TR_tryMore_2 : List AI := [x_ret]
def kb_TR_tryMore : List (List AI) := [k_TR_tryMore_0, k_TR_tryMore_1, k_TR_tryMore_2]
def k_TR_noteStrengths_0 : List AI := [x_ldi 1, x_iflt 1, x_ldi 1, x_ic 6, x_icge 1, x_lda 0, x_ga 5 9, x_ldi 1, x_lda 0, x_ga 5 9, x_ldi 1, x_ali, x_ldi 2, x_call JK_minI 2, x_asi, x_lda 0, x_ga 6 9, x_ldi 1, x_lda 0, x_ga 6 9, x_ldi 1, x_ali, x_ldi 3, x_call JK_maxI 2, x_asi, x_fall 1]
def k_TR_noteStrengths_1 : List AI := [x_ret]
def kb_TR_noteStrengths : List (List AI) := [k_TR_noteStrengths_0, k_TR_noteStrengths_1]
def k_EO_init_0 : List AI := [x_lda 0, x_obj, x_lda 0, x_new 8, x_dup, x_cals0 TP_init 1 8, x_pa 0 10, x_lda 0, x_new 1, x_dup, x_cals0 CW_init 1 1, x_pa 1 10, x_lda 0, x_new 5, x_dup, x_cals0 PL_init 1 5, x_pa 2 10, x_lda 0, x_new 6, x_dup, x_cals0 QU_init 1 6, x_pa 3 10, x_lda 0, x_new 3, x_dup, x_cals0 LN_init 1 3, x_pa 4 10, x_lda 0, x_new 4, x_dup, x_cals0 NE_init 1 4, x_pa 5 10, x_lda 0, x_new 0, x_dup, x_cals0 CH_init 1 0, x_pa 6 10, x_lda 0, x_new 7, x_dup, x_cals0 RA_init 1 7, x_pa 7 10, x_lda 0, x_new 9, x_dup, x_cals0 TR_init 1 9, x_pa 8 10, x_lda 0, x_new 2, x_dup, x_cals0 HV_init 1 2, x_pa 9 10, x_lda 0, x_ic 6, x_nw 1, x_pa 10 10, x_lda 0, x_ic 0, x_pi 11 10, x_lda 0, x_ic (-1), x_pi 12 10, x_ret]
def kb_EO_init : List (List AI) := [k_EO_init_0]
def k_EO_feed_0 : List AI := [x_lda 0, x_ga 0 10, x_calv TP_hasRoomForFive 1 8, x_ifne 1, x_lda 0, x_ic 0, x_calv EO_refuse 2 10, x_pop, x_ic (-1), x_ri]
def k_EO_feed_1 : List AI := [x_lda 0, x_ga 0 10, x_ldi 1, x_calv0 TP_put 2 8, x_lda 0, x_ga 0 10, x_ldi 2, x_calv0 TP_put 2 8, x_lda 0, x_ga 0 10, x_ldi 3, x_calv0 TP_put 2 8, x_lda 0, x_ga 0 10, x_ldi 4, x_calv0 TP_put 2 8, x_lda 0, x_ga 0 10, x_ldi 5, x_calv0 TP_put 2 8, x_lda 0, x_ga 0 10, x_gi 1 8, x_ri]
def kb_EO_feed : List (List AI) := [k_EO_feed_0, k_EO_feed_1]
def k_EO_end_0 : List AI := [x_lda 0, x_ga 0 10, x_ldi 1, x_calv TP_cut 2 8, x_ifne 1, x_lda 0, x_ic 0, x_calv EO_refuse 2 10, x_ifeq 2, x_fall 1]
def k_EO_end_1 : List AI := [x_ic 1, x_go 3]
def k_EO_end_2 : List AI := [x_ic 0, x_fall 3]
def k_EO_end_3 : List AI := [x_rz]
def kb_EO_end : List (List AI) := [k_EO_end_0, k_EO_end_1, k_EO_end_2, k_EO_end_3]
def k_EO_text_0 : List AI := [x_lda 0, x_ga 0 10, x_lda 0, x_ga 2 10, x_call BT_read 2, x_s1i 1, x_lda 0, x_calv0 EO_keepFault 1 10, x_ldi 1, x_ic (-1), x_icne 1, x_lda 0, x_ic 1, x_calv EO_refuse 2 10, x_pop, x_ic (-1), x_ri]
def k_EO_text_1 : List AI := [x_lda 0, x_ga 1 10, x_ga 0 1, x_s1a 2, x_lda 0, x_ga 1 10, x_lda 0, x_ga 2 10, x_calv0 CW_board 2 1, x_lda 0, x_lda 2, x_pa 2 10, x_lda 0, x_ga 8 10, x_calv0 TR_forget 1 9, x_ldi 1, x_ri]
def kb_EO_text : List (List AI) := [k_EO_text_0, k_EO_text_1]
def k_EO_fault_0 : List AI := [x_ldi 1, x_ifne 1, x_lda 0, x_gi 11 10, x_ri]
def k_EO_fault_1 : List AI := [x_ldi 1, x_ic 1, x_icne 2, x_lda 0, x_gi 12 10, x_go 3]
def k_EO_fault_2 : List AI := [x_ic (-1), x_fall 3]
def k_EO_fault_3 : List AI := [x_ri]
def kb_EO_fault : List (List AI) := [k_EO_fault_0, k_EO_fault_1, k_EO_fault_2, k_EO_fault_3]
def k_EO_boat_0 : List AI := [x_lda 0, x_ga 1 10, x_ga 0 1, x_s1a 2, x_ldi 1, x_sw 12 [(0, 1), (1, 2), (2, 3), (3, 4), (4, 5), (5, 6), (6, 7), (7, 8), (8, 9), (9, 10), (10, 11)]]
def k_EO_boat_1 : List AI := [x_lda 2, x_gi 0 5, x_ri]
def k_EO_boat_2 : List AI := [x_lda 2, x_gi 6 5, x_ri]
def k_EO_boat_3 : List AI := [x_lda 2, x_gi 10 5, x_ri]
def k_EO_boat_4 : List AI := [x_lda 2, x_gi 4 5, x_lda 2, x_gi 5 5, x_ior, x_call JK_bitCount 1, x_ri]
def k_EO_boat_5 : List AI := [x_lda 2, x_calv PL_wants 1 5, x_ri]
def k_EO_boat_6 : List AI := [x_lda 2, x_gi 12 5, x_ri]
def k_EO_boat_7 : List AI := [x_lda 2, x_gi 13 5, x_ri]
def k_EO_boat_8 : List AI := [x_lda 2, x_gi 17 5, x_ri]
def k_EO_boat_9 : List AI := [x_lda 0, x_ga 1 10, x_gi 3 1, x_ri]
def k_EO_boat_10 : List AI := [x_lda 0, x_ga 1 10, x_gi 11 1, x_ri]
def k_EO_boat_11 : List AI := [x_lda 2, x_gi 0 5, x_lda 0, x_ga 1 10, x_calv CW_sides 1 1, x_call JK_bitCount 1, x_isub, x_ri]
def k_EO_boat_12 : List AI := [x_ic (-1), x_ri]
def kb_EO_boat : List (List AI) := [k_EO_boat_0, k_EO_boat_1, k_EO_boat_2, k_EO_boat_3, k_EO_boat_4, k_EO_boat_5, k_EO_boat_6, k_EO_boat_7, k_EO_boat_8, k_EO_boat_9, k_EO_boat_10, k_EO_boat_11, k_EO_boat_12]
def k_EO_letter_0 : List AI := [x_lda 0, x_ga 1 10, x_ga 0 1, x_ldi 1, x_calv PL_isRower 2 5, x_ifeq 1, x_ldi 2, x_iflt 1, x_ldi 2, x_ic 6, x_iclt 2, x_fall 1]
def k_EO_letter_1 : List AI := [x_ic (-1), x_ri]
def k_EO_letter_2 : List AI := [x_lda 0, x_ga 1 10, x_ga 0 1, x_ga 7 5, x_ldi 1, x_ic 6, x_imul, x_ldi 2, x_iadd, x_ali, x_ri]
def kb_EO_letter : List (List AI) := [k_EO_letter_0, k_EO_letter_1, k_EO_letter_2]
def k_EO_seat_0 : List AI := [x_lda 0, x_ga 1 10, x_ga 0 1, x_s1a 3, x_lda 3, x_ldi 1, x_calv PL_isSeat 2 5, x_ifne 1, x_ic (-1), x_ri]
def k_EO_seat_1 : List AI := [x_ldi 2, x_sw 10 [(0, 2), (1, 3), (2, 4), (3, 5), (4, 6), (5, 9)]]
def k_EO_seat_2 : List AI := [x_lda 3, x_ga 1 5, x_ldi 1, x_ali, x_ri]
def k_EO_seat_3 : List AI := [x_lda 3, x_ga 2 5, x_ldi 1, x_ali, x_ri]
def k_EO_seat_4 : List AI := [x_lda 0, x_ga 1 10, x_ga 1 1, x_ldi 1, x_ali, x_ri]
def k_EO_seat_5 : List AI := [x_lda 0, x_ga 1 10, x_ga 2 1, x_ldi 1, x_ali, x_ri]
def k_EO_seat_6 : List AI := [x_lda 3, x_ldi 1, x_calv PL_isFixed 2 5, x_ifeq 7, x_ic 1, x_go 8]
def k_EO_seat_7 : List AI := [x_ic 0, x_fall 8]
def k_EO_seat_8 : List AI := [x_ri]
def k_EO_seat_9 : List AI := [x_lda 0, x_ga 1 10, x_ldi 1, x_lda 0, x_ga 1 10, x_gi 3 1, x_calv CW_forceIn 3 1, x_lda 3, x_ga 2 5, x_ldi 1, x_ali, x_imul, x_ri]
def k_EO_seat_10 : List AI := [x_ic (-1), x_ri]
def kb_EO_seat : List (List AI) := [k_EO_seat_0, k_EO_seat_1, k_EO_seat_2, k_EO_seat_3, k_EO_seat_4, k_EO_seat_5, k_EO_seat_6, k_EO_seat_7, k_EO_seat_8, k_EO_seat_9, k_EO_seat_10]
def k_EO_rower_0 : List AI := [x_lda 0, x_ga 1 10, x_ga 0 1, x_s1a 3, x_lda 3, x_ldi 1, x_calv PL_isRower 2 5, x_ifne 1, x_ic (-1), x_ri]
def k_EO_rower_1 : List AI := [x_ldi 2, x_sw 6 [(0, 2), (1, 3), (2, 4), (3, 5)]]
def k_EO_rower_2 : List AI := [x_lda 3, x_ga 8 5, x_ldi 1, x_ali, x_ri]
def k_EO_rower_3 : List AI := [x_lda 3, x_ga 9 5, x_ldi 1, x_ali, x_ri]
def k_EO_rower_4 : List AI := [x_lda 0, x_ga 1 10, x_ldi 1, x_lda 0, x_ga 1 10, x_gi 3 1, x_calv CW_strengthAt 3 1, x_ri]
def k_EO_rower_5 : List AI := [x_lda 0, x_ga 1 10, x_ldi 1, x_calv CW_seatOf 2 1, x_ri]
def k_EO_rower_6 : List AI := [x_ic (-1), x_ri]
def kb_EO_rower : List (List AI) := [k_EO_rower_0, k_EO_rower_1, k_EO_rower_2, k_EO_rower_3, k_EO_rower_4, k_EO_rower_5, k_EO_rower_6]
def k_EO_want_0 : List AI := [x_ldi 1, x_call PL_isPower 1, x_ifeq 1, x_lda 0, x_ga 1 10, x_ga 0 1, x_ga 11 5, x_ldi 1, x_all, x_go 2]
def k_EO_want_1 : List AI := [x_lc (-1000000000000000), x_fall 2]
def k_EO_want_2 : List AI := [x_rl]
def kb_EO_want : List (List AI) := [k_EO_want_0, k_EO_want_1, k_EO_want_2]
def k_EO_swing_0 : List AI := [x_ldi 1, x_call PL_isPower 1, x_ifeq 1, x_ldi 2, x_iflt 1, x_ldi 2, x_ic 9999, x_icle 2, x_fall 1]
def k_EO_swing_1 : List AI := [x_lc (-1000000000000000), x_rl]
def k_EO_swing_2 : List AI := [x_lda 0, x_ga 1 10, x_ldi 1, x_ldi 2, x_calv CW_swingAt 3 1, x_rl]
def kb_EO_swing : List (List AI) := [k_EO_swing_0, k_EO_swing_1, k_EO_swing_2]
def k_EO_off_0 : List AI := [x_lda 0, x_ga 1 10, x_lda 0, x_ga 1 10, x_gi 3 1, x_calv CW_offAt 2 1, x_rl]
def kb_EO_off : List (List AI) := [k_EO_off_0]
def k_EO_good_0 : List AI := [x_lda 0, x_ga 1 10, x_lda 0, x_ga 1 10, x_gi 3 1, x_calv CW_isGoodAt 2 1, x_ifeq 1, x_ic 1, x_go 2]
def k_EO_good_1 : List AI := [x_ic 0, x_fall 2]
def k_EO_good_2 : List AI := [x_ri]
def kb_EO_good : List (List AI) := [k_EO_good_0, k_EO_good_1, k_EO_good_2]
def k_EO_lawful_0 : List AI := [x_lda 0, x_ga 1 10, x_ga 0 1, x_lda 0, x_ga 1 10, x_calv CW_sides 1 1, x_calv PL_allows 2 5, x_ifeq 1, x_ic 1, x_go 2]
def k_EO_lawful_1 : List AI := [x_ic 0, x_fall 2]
def k_EO_lawful_2 : List AI := [x_ri]
def kb_EO_lawful : List (List AI) := [k_EO_lawful_0, k_EO_lawful_1, k_EO_lawful_2]
def k_EO_heading_0 : List AI := [x_lda 0, x_ga 1 10, x_gl 4 1, x_rl]
def kb_EO_heading : List (List AI) := [k_EO_heading_0]
def k_EO_turn_0 : List AI := [x_lda 0, x_ga 1 10, x_ldi 1, x_calv CW_turnSeat 2 1, x_ifne 1, x_lda 0, x_ic 2, x_calv EO_refuse 2 10, x_ifeq 2, x_fall 1]
def k_EO_turn_1 : List AI := [x_ic 1, x_go 3]
def k_EO_turn_2 : List AI := [x_ic 0, x_fall 3]
def k_EO_turn_3 : List AI := [x_rz]
def kb_EO_turn : List (List AI) := [k_EO_turn_0, k_EO_turn_1, k_EO_turn_2, k_EO_turn_3]
def k_EO_swap_0 : List AI := [x_lda 0, x_ga 1 10, x_ldi 1, x_ldi 2, x_calv CW_swapRowers 3 1, x_ifne 1, x_lda 0, x_ic 2, x_calv EO_refuse 2 10, x_ifeq 2, x_fall 1]
def k_EO_swap_1 : List AI := [x_ic 1, x_go 3]
def k_EO_swap_2 : List AI := [x_ic 0, x_fall 3]
def k_EO_swap_3 : List AI := [x_rz]
def kb_EO_swap : List (List AI) := [k_EO_swap_0, k_EO_swap_1, k_EO_swap_2, k_EO_swap_3]
def k_EO_stroke_0 : List AI := [x_lda 0, x_ldi 1, x_calv EO_canGoBy 2 10, x_ifne 1, x_lda 0, x_ic 2, x_calv EO_refuse 2 10, x_pop, x_ic (-1), x_ri]
def k_EO_stroke_1 : List AI := [x_lda 0, x_ga 1 10, x_ldi 1, x_calv0 CW_passBy 2 1, x_lda 0, x_ga 1 10, x_gi 3 1, x_ri]
def kb_EO_stroke : List (List AI) := [k_EO_stroke_0, k_EO_stroke_1]
def k_EO_row_0 : List AI := [x_lda 0, x_ldi 1, x_calv EO_canGoBy 2 10, x_ifne 1, x_lda 0, x_ic 2, x_calv EO_refuse 2 10, x_pop, x_lc (-1000000000000000), x_rl]
def k_EO_row_1 : List AI := [x_lda 0, x_ga 1 10, x_ldi 1, x_calv0 CW_rowOn 2 1, x_lda 0, x_ga 1 10, x_gl 4 1, x_rl]
def kb_EO_row : List (List AI) := [k_EO_row_0, k_EO_row_1]
def k_EO_undo_0 : List AI := [x_lda 0, x_ga 1 10, x_calv CW_undoAct 1 1, x_ifne 1, x_lda 0, x_ic 3, x_calv EO_refuse 2 10, x_ifeq 2, x_fall 1]
def k_EO_undo_1 : List AI := [x_ic 1, x_go 3]
def k_EO_undo_2 : List AI := [x_ic 0, x_fall 3]
def k_EO_undo_3 : List AI := [x_rz]
def kb_EO_undo : List (List AI) := [k_EO_undo_0, k_EO_undo_1, k_EO_undo_2, k_EO_undo_3]
def k_EO_seed_0 : List AI := [x_ldi 1, x_ifge 1, x_lda 0, x_ic 4, x_calv EO_refuse 2 10, x_rz]
def k_EO_seed_1 : List AI := [x_lda 0, x_ga 1 10, x_ldi 1, x_i2l, x_pl 5 1, x_ic 1, x_rz]
def kb_EO_seed : List (List AI) := [k_EO_seed_0, k_EO_seed_1]
def k_EO_ways_0 : List AI := [x_lda 0, x_ga 9 10, x_ldi 1, x_calv HV_waysFor 2 2, x_rl]
def kb_EO_ways : List (List AI) := [k_EO_ways_0]
def k_EO_made_0 : List AI := [x_lda 0, x_ga 9 10, x_ldi 1, x_ldi 2, x_calv HV_wayAt 3 2, x_ri]
def kb_EO_made : List (List AI) := [k_EO_made_0]
def k_EO_doubled_0 : List AI := [x_ldi 1, x_ldi 2, x_call HV_sumDoubled 2, x_rl]
def kb_EO_doubled : List (List AI) := [k_EO_doubled_0]
def k_EO_still_0 : List AI := [x_ldi 1, x_ldi 2, x_call HV_stillUpTo 2, x_ri]
def kb_EO_still : List (List AI) := [k_EO_still_0]
def k_EO_nearest_0 : List AI := [x_ldi 1, x_iflt 1, x_ldi 1, x_ic 2, x_icgt 1, x_lda 0, x_ga 5 10, x_lda 0, x_ga 1 10, x_lda 0, x_ga 4 10, x_calv NE_findAsTheySit 3 4, x_ifne 2, x_fall 1]
def k_EO_nearest_1 : List AI := [x_lc (-1), x_rl]
def k_EO_nearest_2 : List AI := [x_ldi 1, x_lsw 5 [(0, 3), (1, 4)]]
def k_EO_nearest_3 : List AI := [x_lda 0, x_ga 5 10, x_gl 3 4, x_rl]
def k_EO_nearest_4 : List AI := [x_lda 0, x_ga 5 10, x_gi 4 4, x_i2l, x_rl]
def k_EO_nearest_5 : List AI := [x_lda 0, x_ga 5 10, x_gi 5 4, x_i2l, x_rl]
def kb_EO_nearest : List (List AI) := [k_EO_nearest_0, k_EO_nearest_1, k_EO_nearest_2, k_EO_nearest_3, k_EO_nearest_4, k_EO_nearest_5]
def k_EO_seated_0 : List AI := [x_ldi 1, x_ic (-1), x_iceq 1, x_ldi 1, x_ic 20, x_iceq 1, x_lda 0, x_ga 1 10, x_ga 0 1, x_ldi 1, x_calv PL_isSeat 2 5, x_ifeq 2, x_fall 1]
def k_EO_seated_1 : List AI := [x_ic 1, x_go 3]
def k_EO_seated_2 : List AI := [x_ic 0, x_fall 3]
def k_EO_seated_3 : List AI := [x_s1i 2, x_ldi 2, x_ifeq 4, x_lda 0, x_ga 5 10, x_lda 0, x_ga 1 10, x_lda 0, x_ga 4 10, x_calv NE_findOrder 3 4, x_ifne 5, x_fall 4]
def k_EO_seated_4 : List AI := [x_lc (-1), x_rl]
def k_EO_seated_5 : List AI := [x_ldi 1, x_ic (-1), x_icne 6, x_lda 0, x_ga 5 10, x_gl 9 4, x_rl]
def k_EO_seated_6 : List AI := [x_ldi 1, x_ic 20, x_icne 7, x_lda 0, x_ga 5 10, x_gi 10 4, x_i2l, x_go 8]
def k_EO_seated_7 : List AI := [x_lda 0, x_ga 5 10, x_ldi 1, x_calv NE_bestRower 2 4, x_i2l, x_fall 8]
def k_EO_seated_8 : List AI := [x_rl]
def kb_EO_seated : List (List AI) := [k_EO_seated_0, k_EO_seated_1, k_EO_seated_2, k_EO_seated_3, k_EO_seated_4, k_EO_seated_5, k_EO_seated_6, k_EO_seated_7, k_EO_seated_8]
def k_EO_changes_0 : List AI := [x_lda 0, x_ga 6 10, x_lda 0, x_ga 1 10, x_calv CH_fewest 2 0, x_ri]
def kb_EO_changes : List (List AI) := [k_EO_changes_0]
def k_EO_race_0 : List AI := [x_ldi 1, x_ic 1, x_iclt 1, x_ldi 1, x_ic 300, x_icle 2, x_fall 1]
def k_EO_race_1 : List AI := [x_lc (-1), x_go 3]
def k_EO_race_2 : List AI := [x_lda 0, x_ga 1 10, x_ldi 1, x_call RA_greatest 2, x_fall 3]
def k_EO_race_3 : List AI := [x_rl]
def kb_EO_race : List (List AI) := [k_EO_race_0, k_EO_race_1, k_EO_race_2, k_EO_race_3]
def k_EO_stillest_0 : List AI := [x_ldi 1, x_ic 1, x_iclt 1, x_ldi 1, x_ic 300, x_icgt 1, x_ldi 2, x_iflt 1, x_ldi 2, x_ic 1, x_icgt 1, x_lda 0, x_ga 7 10, x_lda 0, x_ga 1 10, x_lda 0, x_ga 4 10, x_ldi 1, x_calv RA_findStillest 4 7, x_ifne 2, x_fall 1]
def k_EO_stillest_1 : List AI := [x_lc (-1), x_rl]
def k_EO_stillest_2 : List AI := [x_ldi 2, x_ifne 3, x_lda 0, x_ga 7 10, x_gl 3 7, x_go 4]
def k_EO_stillest_3 : List AI := [x_lda 0, x_ga 7 10, x_gi 4 7, x_i2l, x_fall 4]
def k_EO_stillest_4 : List AI := [x_rl]
def kb_EO_stillest : List (List AI) := [k_EO_stillest_0, k_EO_stillest_1, k_EO_stillest_2, k_EO_stillest_3, k_EO_stillest_4]
def k_EO_under_0 : List AI := [x_ldi 1, x_ic 1, x_iclt 1, x_ldi 1, x_ic 100, x_icgt 1, x_ldi 2, x_iflt 1, x_ldi 2, x_ic 3, x_icgt 1, x_lda 0, x_ga 7 10, x_lda 0, x_ga 1 10, x_ldi 1, x_calv RA_findUnderWay 3 7, x_ifne 2, x_fall 1]
def k_EO_under_1 : List AI := [x_lc (-1), x_rl]
def k_EO_under_2 : List AI := [x_ldi 2, x_sw 6 [(0, 3), (1, 4), (2, 5)]]
def k_EO_under_3 : List AI := [x_lda 0, x_ga 7 10, x_gl 3 7, x_rl]
def k_EO_under_4 : List AI := [x_lda 0, x_ga 7 10, x_gi 5 7, x_i2l, x_rl]
def k_EO_under_5 : List AI := [x_lda 0, x_ga 7 10, x_gi 6 7, x_i2l, x_rl]
def k_EO_under_6 : List AI := [x_lda 0, x_ga 7 10, x_gi 7 7, x_i2l, x_rl]
def kb_EO_under : List (List AI) := [k_EO_under_0, k_EO_under_1, k_EO_under_2, k_EO_under_3, k_EO_under_4, k_EO_under_5, k_EO_under_6]
def k_EO_fits_0 : List AI := [x_lda 0, x_ga 1 10, x_ga 0 1, x_call TR_firstUnfit 1, x_ri]
def kb_EO_fits : List (List AI) := [k_EO_fits_0]
def k_EO_strengths_0 : List AI := [x_lda 0, x_ga 8 10, x_lda 0, x_ga 1 10, x_ga 0 1, x_ldi 1, x_ldi 2, x_calv TR_told 4 9, x_ri]
def kb_EO_strengths : List (List AI) := [k_EO_strengths_0]
def k_EO_crooked_0 : List AI := [x_lda 0, x_ga 8 10, x_lda 0, x_ga 1 10, x_ga 0 1, x_calv TR_crookedSeats 2 9, x_ri]
def kb_EO_crooked : List (List AI) := [k_EO_crooked_0]
def k_EO_heirs_0 : List AI := [x_ldi 1, x_iflt 1, x_ldi 1, x_ic 1, x_icgt 1, x_lda 0, x_ga 1 10, x_ga 0 1, x_gi 17 5, x_ifne 2, x_fall 1]
def k_EO_heirs_1 : List AI := [x_ic (-1), x_ri]
def k_EO_heirs_2 : List AI := [x_lda 0, x_ga 9 10, x_lda 0, x_ga 1 10, x_ga 0 1, x_lda 0, x_ga 4 10, x_calv0 HV_partPayments 3 2, x_ldi 1, x_ifne 3, x_lda 0, x_ga 9 10, x_gi 5 2, x_go 4]
def k_EO_heirs_3 : List AI := [x_lda 0, x_ga 9 10, x_gi 6 2, x_fall 4]
def k_EO_heirs_4 : List AI := [x_ri]
def kb_EO_heirs : List (List AI) := [k_EO_heirs_0, k_EO_heirs_1, k_EO_heirs_2, k_EO_heirs_3, k_EO_heirs_4]
def k_EO_apart_0 : List AI := [x_lda 0, x_ga 1 10, x_ga 0 1, x_ldi 1, x_ldi 2, x_call HV_heirsApart 3, x_rl]
def kb_EO_apart : List (List AI) := [k_EO_apart_0]
def k_EO_ask_0 : List AI := [x_lda 0, x_ga 3 10, x_lda 0, x_ga 0 10, x_calv QU_read 2 6, x_s1i 1, x_lda 0, x_calv0 EO_keepFault 1 10, x_ldi 1, x_ifeq 1, x_lda 0, x_ga 3 10, x_lda 0, x_ga 1 10, x_calv QU_answer 2 6, x_go 2]
def k_EO_ask_1 : List AI := [x_lc (-1000000000000000), x_fall 2]
def k_EO_ask_2 : List AI := [x_rl]
def kb_EO_ask : List (List AI) := [k_EO_ask_0, k_EO_ask_1, k_EO_ask_2]
def k_EO_image_0 : List AI := [x_lda 0, x_ga 1 10, x_calv CW_writeImage 1 1, x_ri]
def kb_EO_image : List (List AI) := [k_EO_image_0]
def k_EO_octet_0 : List AI := [x_ldi 1, x_iflt 1, x_ldi 1, x_lda 0, x_ga 1 10, x_gi 13 1, x_icge 1, x_lda 0, x_ga 1 10, x_ga 12 1, x_ldi 1, x_alb, x_ic 255, x_iand, x_go 2]
def k_EO_octet_1 : List AI := [x_ic (-1), x_fall 2]
def k_EO_octet_2 : List AI := [x_ri]
def kb_EO_octet : List (List AI) := [k_EO_octet_0, k_EO_octet_1, k_EO_octet_2]
def k_EO_on_0 : List AI := [x_lda 0, x_ga 1 10, x_lda 0, x_ga 0 10, x_calv CW_takeImage 2 1, x_s1i 1, x_lda 0, x_ga 0 10, x_calv0 TP_clear 1 8, x_ldi 1, x_ifne 1, x_lda 0, x_ic 5, x_calv EO_refuse 2 10, x_ifeq 2, x_fall 1]
def k_EO_on_1 : List AI := [x_ic 1, x_go 3]
def k_EO_on_2 : List AI := [x_ic 0, x_fall 3]
def k_EO_on_3 : List AI := [x_rz]
def kb_EO_on : List (List AI) := [k_EO_on_0, k_EO_on_1, k_EO_on_2, k_EO_on_3]
def k_EO_status_0 : List AI := [x_ldi 1, x_iflt 1, x_ldi 1, x_lda 0, x_ga 10 10, x_len, x_icge 1, x_lda 0, x_ga 10 10, x_ldi 1, x_ali, x_go 2]
def k_EO_status_1 : List AI := [x_ic (-1), x_fall 2]
def k_EO_status_2 : List AI := [x_ri]
def kb_EO_status : List (List AI) := [k_EO_status_0, k_EO_status_1, k_EO_status_2]
def k_EO_refuse_0 : List AI := [x_ldi 1, x_iflt 1, x_ldi 1, x_lda 0, x_ga 10 10, x_len, x_icge 1, x_lda 0, x_ga 10 10, x_ldi 1, x_dup2, x_ali, x_ic 1, x_iadd, x_asi, x_fall 1]
def k_EO_refuse_1 : List AI := [x_ic 0, x_rz]
def kb_EO_refuse : List (List AI) := [k_EO_refuse_0, k_EO_refuse_1]
def k_EO_canGoBy_0 : List AI := [x_ldi 1, x_ic 1, x_iclt 1, x_ldi 1, x_ic 200, x_icgt 1, x_lda 0, x_ga 1 10, x_gi 3 1, x_ldi 1, x_iadd, x_ic 9999, x_icgt 1, x_ic 1, x_go 2]
def k_EO_canGoBy_1 : List AI := [x_ic 0, x_fall 2]
def k_EO_canGoBy_2 : List AI := [x_rz]
def kb_EO_canGoBy : List (List AI) := [k_EO_canGoBy_0, k_EO_canGoBy_1, k_EO_canGoBy_2]
def k_EO_keepFault_0 : List AI := [x_lda 0, x_lda 0, x_ga 0 10, x_gi 6 8, x_pi 11 10, x_lda 0, x_lda 0, x_ga 0 10, x_gi 7 8, x_pi 12 10, x_lda 0, x_ga 0 10, x_calv0 TP_clear 1 8, x_ret]
def kb_EO_keepFault : List (List AI) := [k_EO_keepFault_0]
def k_MO_init_0 : List AI := [x_lda 0, x_obj, x_lda 0, x_ic 1600, x_nw 1, x_pa 0 11, x_lda 0, x_ic (-1), x_pi 8 11, x_lda 0, x_ic 6, x_nw 1, x_pa 9 11, x_lda 0, x_ic 4, x_nw 4, x_dup, x_ic 0, x_ic 115, x_asc, x_dup, x_ic 1, x_ic 101, x_asc, x_dup, x_ic 2, x_ic 97, x_asc, x_dup, x_ic 3, x_ic 116, x_asc, x_pa 11 11, x_lda 0, x_ic 3, x_nw 4, x_dup, x_ic 0, x_ic 97, x_asc, x_dup, x_ic 1, x_ic 114, x_asc, x_dup, x_ic 2, x_ic 109, x_asc, x_pa 12 11, x_lda 0, x_ic 5, x_nw 4, x_dup, x_ic 0, x_ic 114, x_asc, x_dup, x_ic 1, x_ic 111, x_asc, x_dup, x_ic 2, x_ic 119, x_asc, x_dup, x_ic 3, x_ic 101, x_asc, x_dup, x_ic 4, x_ic 114, x_asc, x_pa 13 11, x_lda 0, x_ic 8, x_nw 4, x_dup, x_ic 0, x_ic 115, x_asc, x_dup, x_ic 1, x_ic 116, x_asc, x_dup, x_ic 2, x_ic 114, x_asc, x_dup, x_ic 3, x_ic 101, x_asc, x_dup, x_ic 4, x_ic 110, x_asc, x_dup, x_ic 5, x_ic 103, x_asc, x_dup, x_ic 6, x_ic 116, x_asc, x_dup, x_ic 7, x_ic 104, x_asc, x_pa 14 11, x_lda 0, x_ic 5, x_nw 4, x_dup, x_ic 0, x_ic 116, x_asc, x_dup, x_ic 1, x_ic 105, x_asc, x_dup, x_ic 2, x_ic 114, x_asc, x_dup, x_ic 3, x_ic 101, x_asc, x_dup, x_ic 4, x_ic 115, x_asc, x_pa 15 11, x_lda 0, x_ic 4, x_nw 4, x_dup, x_ic 0, x_ic 101, x_asc, x_dup, x_ic 1, x_ic 97, x_asc, x_dup, x_ic 2, x_ic 99, x_asc, x_dup, x_ic 3, x_ic 104, x_asc, x_pa 16 11, x_lda 0, x_ic 3, x_nw 4, x_dup, x_ic 0, x_ic 102, x_asc, x_dup, x_ic 1, x_ic 105, x_asc, x_dup, x_ic 2, x_ic 120, x_asc, x_pa 17 11, x_lda 0, x_ic 4, x_nw 4, x_dup, x_ic 0, x_ic 108, x_asc, x_dup, x_ic 1, x_ic 101, x_asc, x_dup, x_ic 2, x_ic 102, x_asc, x_dup, x_ic 3, x_ic 116, x_asc, x_pa 18 11, x_lda 0, x_ic 5, x_nw 4, x_dup, x_ic 0, x_ic 114, x_asc, x_dup, x_ic 1, x_ic 105, x_asc, x_dup, x_ic 2, x_ic 103, x_asc, x_dup, x_ic 3, x_ic 104, x_asc, x_dup, x_ic 4, x_ic 116, x_asc, x_pa 19 11, x_lda 0, x_ic 4, x_nw 4, x_dup, x_ic 0, x_ic 119, x_asc, x_dup, x_ic 1, x_ic 97, x_asc, x_dup, x_ic 2, x_ic 110, x_asc, x_dup, x_ic 3, x_ic 116, x_asc, x_pa 20 11, x_lda 0, x_ic 2, x_nw 4, x_dup, x_ic 0, x_ic 105, x_asc, x_dup, x_ic 1, x_ic 115, x_asc, x_pa 21 11, x_lda 0, x_ic 4, x_nw 4, x_dup, x_ic 0, x_ic 110, x_asc, x_dup, x_ic 1, x_ic 101, x_asc, x_dup, x_ic 2, x_ic 97, x_asc, x_dup, x_ic 3, x_ic 114, x_asc, x_pa 22 11, x_lda 0, x_ic 3, x_nw 4, x_dup, x_ic 0, x_ic 114, x_asc, x_dup, x_ic 1, x_ic 117, x_asc, x_dup, x_ic 2, x_ic 110, x_asc, x_pa 23 11, x_lda 0, x_ic 5, x_nw 4, x_dup, x_ic 0, x_ic 112, x_asc, x_dup, x_ic 1, x_ic 111, x_asc, x_dup, x_ic 2, x_ic 119, x_asc, x_dup, x_ic 3, x_ic 101, x_asc, x_dup, x_ic 4, x_ic 114, x_asc, x_pa 24 11, x_lda 0, x_ic 5, x_nw 4, x_dup, x_ic 0, x_ic 115, x_asc, x_dup, x_ic 1, x_ic 119, x_asc, x_dup, x_ic 2, x_ic 117, x_asc, x_dup, x_ic 3, x_ic 110, x_asc, x_dup, x_ic 4, x_ic 103, x_asc, x_pa 25 11, x_lda 0, x_ic 3, x_nw 4, x_dup, x_ic 0, x_ic 112, x_asc, x_dup, x_ic 1, x_ic 97, x_asc, x_dup, x_ic 2, x_ic 121, x_asc, x_pa 26 11, x_lda 0, x_ic 2, x_nw 4, x_dup, x_ic 0, x_ic 111, x_asc, x_dup, x_ic 1, x_ic 110, x_asc, x_pa 27 11, x_lda 0, x_ic 8, x_nw 1, x_pa 29 11, x_lda 0, x_ic 24, x_nw 1, x_pa 30 11, x_lda 0, x_ic 24, x_nw 1, x_pa 31 11, x_lda 0, x_ic 24, x_nw 1, x_pa 32 11, x_lda 0, x_ic 24, x_nw 2, x_pa 33 11, x_lda 0, x_ic 24, x_nw 1, x_pa 34 11, x_lda 0, x_ic 24, x_nw 1, x_pa 35 11, x_lda 0, x_ic 2, x_nw 1, x_pa 36 11, x_lda 0, x_ic 2, x_nw 1, x_pa 37 11, x_lda 0, x_ic 8, x_nw 1, x_pa 38 11, x_lda 0, x_ic 8, x_nw 1, x_pa 39 11, x_lda 0, x_ic 192, x_nw 1, x_pa 40 11, x_lda 0, x_ic 16, x_nw 1, x_pa 41 11, x_lda 0, x_ic 16, x_nw 1, x_pa 42 11, x_lda 0, x_ic 24, x_nw 1, x_pa 43 11, x_lda 0, x_ic 24, x_nw 1, x_pa 44 11, x_lda 0, x_ic 12, x_nw 1, x_pa 50 11, x_lda 0, x_ic 30, x_nw 1, x_pa 51 11, x_lda 0, x_ic 30, x_nw 2, x_pa 52 11, x_lda 0, x_ic 30, x_nw 1, x_pa 53 11, x_lda 0, x_ic 360, x_nw 1, x_pa 54 11, x_lda 0, x_lc 1, x_pl 57 11, x_lda 0, x_ic 8631, x_nw 2, x_pa 58 11, x_lda 0, x_ic 12, x_nw 1, x_pa 61 11, x_lda 0, x_ic 5, x_nw 1, x_pa 62 11, x_lda 0, x_ic 12, x_nw 1, x_pa 66 11, x_lda 0, x_ic 12, x_nw 1, x_pa 67 11, x_lda 0, x_ic 6, x_nw 1, x_pa 68 11, x_lda 0, x_ic 6, x_nw 1, x_pa 69 11, x_lda 0, x_ic 5, x_nw 4, x_dup, x_ic 0, x_ic 102, x_asc, x_dup, x_ic 1, x_ic 105, x_asc, x_dup, x_ic 2, x_ic 114, x_asc, x_dup, x_ic 3, x_ic 115, x_asc, x_dup, x_ic 4, x_ic 116, x_asc, x_pa 70 11, x_lda 0, x_ic 4, x_nw 4, x_dup, x_ic 0, x_ic 108, x_asc, x_dup, x_ic 1, x_ic 97, x_asc, x_dup, x_ic 2, x_ic 115, x_asc, x_dup, x_ic 3, x_ic 116, x_asc, x_pa 71 11, x_lda 0, x_ic 5, x_nw 4, x_dup, x_ic 0, x_ic 111, x_asc, x_dup, x_ic 1, x_ic 102, x_asc, x_dup, x_ic 2, x_ic 116, x_asc, x_dup, x_ic 3, x_ic 101, x_asc, x_dup, x_ic 4, x_ic 110, x_asc, x_pa 72 11, x_lda 0, x_ic 5, x_nw 4, x_dup, x_ic 0, x_ic 116, x_asc, x_dup, x_ic 1, x_ic 111, x_asc, x_dup, x_ic 2, x_ic 116, x_asc, x_dup, x_ic 3, x_ic 97, x_asc, x_dup, x_ic 4, x_ic 108, x_asc, x_pa 73 11, x_lda 0, x_ic 4, x_nw 4, x_dup, x_ic 0, x_ic 109, x_asc, x_dup, x_ic 1, x_ic 111, x_asc, x_dup, x_ic 2, x_ic 115, x_asc, x_dup, x_ic 3, x_ic 116, x_asc, x_pa 74 11, x_lda 0, x_ic 5, x_nw 4, x_dup, x_ic 0, x_ic 108, x_asc, x_dup, x_ic 1, x_ic 101, x_asc, x_dup, x_ic 2, x_ic 97, x_asc, x_dup, x_ic 3, x_ic 115, x_asc, x_dup, x_ic 4, x_ic 116, x_asc, x_pa 75 11, x_lda 0, x_ic 3, x_nw 4, x_dup, x_ic 0, x_ic 110, x_asc, x_dup, x_ic 1, x_ic 111, x_asc, x_dup, x_ic 2, x_ic 116, x_asc, x_pa 76 11, x_lda 0, x_ic 3, x_nw 4, x_dup, x_ic 0, x_ic 97, x_asc, x_dup, x_ic 1, x_ic 110, x_asc, x_dup, x_ic 2, x_ic 100, x_asc, x_pa 77 11, x_lda 0, x_ic 2, x_nw 4, x_dup, x_ic 0, x_ic 111, x_asc, x_dup, x_ic 1, x_ic 114, x_asc, x_pa 78 11, x_lda 0, x_ic 3, x_nw 4, x_dup, x_ic 0, x_ic 97, x_asc, x_dup, x_ic 1, x_ic 108, x_asc, x_dup, x_ic 2, x_ic 108, x_asc, x_pa 79 11, x_lda 0, x_ic 3, x_nw 4, x_dup, x_ic 0, x_ic 109, x_asc, x_dup, x_ic 1, x_ic 105, x_asc, x_dup, x_ic 2, x_ic 110, x_asc, x_pa 80 11, x_lda 0, x_ic 3, x_nw 4, x_dup, x_ic 0, x_ic 109, x_asc, x_dup, x_ic 1, x_ic 97, x_asc, x_dup, x_ic 2, x_ic 120, x_asc, x_pa 81 11, x_lda 0, x_ic 6, x_nw 4, x_dup, x_ic 0, x_ic 115, x_asc, x_dup, x_ic 1, x_ic 116, x_asc, x_dup, x_ic 2, x_ic 114, x_asc, x_dup, x_ic 3, x_ic 111, x_asc, x_dup, x_ic 4, x_ic 107, x_asc, x_dup, x_ic 5, x_ic 101, x_asc, x_pa 82 11, x_lda 0, x_ic 3, x_nw 4, x_dup, x_ic 0, x_ic 111, x_asc, x_dup, x_ic 1, x_ic 102, x_asc, x_dup, x_ic 2, x_ic 102, x_asc, x_pa 83 11, x_lda 0, x_ic 4, x_nw 4, x_dup, x_ic 0, x_ic 103, x_asc, x_dup, x_ic 1, x_ic 111, x_asc, x_dup, x_ic 2, x_ic 111, x_asc, x_dup, x_ic 3, x_ic 100, x_asc, x_pa 84 11, x_lda 0, x_ic 5, x_nw 4, x_dup, x_ic 0, x_ic 115, x_asc, x_dup, x_ic 1, x_ic 119, x_asc, x_dup, x_ic 2, x_ic 105, x_asc, x_dup, x_ic 3, x_ic 110, x_asc, x_dup, x_ic 4, x_ic 103, x_asc, x_pa 85 11, x_lda 0, x_ic 5, x_nw 4, x_dup, x_ic 0, x_ic 102, x_asc, x_dup, x_ic 1, x_ic 111, x_asc, x_dup, x_ic 2, x_ic 114, x_asc, x_dup, x_ic 3, x_ic 99, x_asc, x_dup, x_ic 4, x_ic 101, x_asc, x_pa 86 11, x_lda 0, x_ic 1700, x_nw 1, x_pa 87 11, x_lda 0, x_ic 1700, x_nw 1, x_pa 89 11, x_lda 0, x_ic 1700, x_nw 2, x_pa 93 11, x_lda 0, x_ic 36, x_nw 1, x_pa 97 11, x_ret]
def kb_MO_init : List (List AI) := [k_MO_init_0]
def k_MO_isIn_0 : List AI := [x_ldl 0, x_ldl 2, x_lcmp, x_iflt 1, x_ldl 0, x_ldl 4, x_lcmp, x_ifgt 1, x_ic 1, x_go 2]
def k_MO_isIn_1 : List AI := [x_ic 0, x_fall 2]
def k_MO_isIn_2 : List AI := [x_rz]
def kb_MO_isIn : List (List AI) := [k_MO_isIn_0, k_MO_isIn_1, k_MO_isIn_2]
def k_MO_feed_0 : List AI := [x_lda 0, x_gi 1 11, x_ic 20, x_iadd, x_ic 1600, x_icle 1, x_lda 0, x_ga 9 11, x_ic 0, x_dup2, x_ali, x_ic 1, x_iadd, x_asi, x_ic (-1), x_ri]
def k_MO_feed_1 : List AI := [x_ic 0, x_s1i 6, x_fall 2]
def k_MO_feed_2 : List AI := [x_ldi 6, x_ic 20, x_icge 8, x_ldi 6, x_ic 4, x_icge 3, x_ldi 1, x_go 7]
def k_MO_feed_3 : List AI := [x_ldi 6, x_ic 8, x_icge 4, x_ldi 2, x_go 7]
def k_MO_feed_4 : List AI := [x_ldi 6, x_ic 12, x_icge 5, x_ldi 3, x_go 7]
def k_MO_feed_5 : List AI := [x_ldi 6, x_ic 16, x_icge 6, x_ldi 4, x_go 7]
def k_MO_feed_6 : List AI := [x_ldi 5, x_fall 7]
def k_MO_feed_7 : List AI := [x_s1i 7, x_lda 0, x_ga 0 11, x_lda 0, x_gi 1 11, x_ldi 7, x_ic 8, x_ic 3, x_ldi 6, x_ic 4, x_irem, x_isub, x_imul, x_ishr, x_ic 255, x_iand, x_asi, x_lda 0, x_dup, x_gi 1 11, x_ic 1, x_iadd, x_pi 1 11, x_inc 6 1, x_go 2]
def k_MO_feed_8 : List AI := [x_lda 0, x_gi 1 11, x_ri]
def kb_MO_feed : List (List AI) := [k_MO_feed_0, k_MO_feed_1, k_MO_feed_2, k_MO_feed_3, k_MO_feed_4, k_MO_feed_5, k_MO_feed_6, k_MO_feed_7, k_MO_feed_8]
def k_MO_end_0 : List AI := [x_ldi 1, x_iflt 1, x_ldi 1, x_lda 0, x_gi 1 11, x_icle 2, x_fall 1]
def k_MO_end_1 : List AI := [x_lda 0, x_ga 9 11, x_ic 0, x_dup2, x_ali, x_ic 1, x_iadd, x_asi, x_ic 0, x_rz]
def k_MO_end_2 : List AI := [x_lda 0, x_ldi 1, x_pi 1 11, x_ic 1, x_rz]
def kb_MO_end : List (List AI) := [k_MO_end_0, k_MO_end_1, k_MO_end_2]
def k_MO_fail_0 : List AI := [x_lda 0, x_gi 5 11, x_ifeq 1, x_ret]
def k_MO_fail_1 : List AI := [x_lda 0, x_ldi 1, x_pi 5 11, x_lda 0, x_ldi 2, x_pi 6 11, x_ret]
def kb_MO_fail : List (List AI) := [k_MO_fail_0, k_MO_fail_1]
def k_MO_isLetter_0 : List AI := [x_ldi 0, x_ic 97, x_iclt 1, x_ldi 0, x_ic 122, x_icgt 1, x_ic 1, x_go 2]
def k_MO_isLetter_1 : List AI := [x_ic 0, x_fall 2]
def k_MO_isLetter_2 : List AI := [x_rz]
def kb_MO_isLetter : List (List AI) := [k_MO_isLetter_0, k_MO_isLetter_1, k_MO_isLetter_2]
def k_MO_isDigit_0 : List AI := [x_ldi 0, x_ic 48, x_iclt 1, x_ldi 0, x_ic 57, x_icgt 1, x_ic 1, x_go 2]
def k_MO_isDigit_1 : List AI := [x_ic 0, x_fall 2]
def k_MO_isDigit_2 : List AI := [x_rz]
def kb_MO_isDigit : List (List AI) := [k_MO_isDigit_0, k_MO_isDigit_1, k_MO_isDigit_2]
def k_MO_look_0 : List AI := [x_lda 0, x_gi 2 11, x_lda 0, x_gi 3 11, x_icge 2, x_lda 0, x_ga 0 11, x_lda 0, x_gi 2 11, x_ali, x_ic 10, x_iceq 1, x_lda 0, x_ga 0 11, x_lda 0, x_gi 2 11, x_ali, x_ic 32, x_icne 2, x_fall 1]
def k_MO_look_1 : List AI := [x_lda 0, x_dup, x_gi 2 11, x_ic 1, x_iadd, x_pi 2 11, x_go 0]
def k_MO_look_2 : List AI := [x_lda 0, x_gi 2 11, x_lda 0, x_gi 3 11, x_icge 3, x_lda 0, x_ga 0 11, x_lda 0, x_gi 2 11, x_ali, x_go 4]
def k_MO_look_3 : List AI := [x_ic (-1), x_fall 4]
def k_MO_look_4 : List AI := [x_ri]
def kb_MO_look : List (List AI) := [k_MO_look_0, k_MO_look_1, k_MO_look_2, k_MO_look_3, k_MO_look_4]
def k_MO_isHere_0 : List AI := [x_lda 0, x_gi 5 11, x_ifne 1, x_lda 0, x_calv MO_look 1 11, x_call MO_isLetter 1, x_ifeq 1, x_lda 0, x_gi 2 11, x_lda 0, x_gi 4 11, x_icne 2, x_fall 1]
def k_MO_isHere_1 : List AI := [x_ic 0, x_rz]
def k_MO_isHere_2 : List AI := [x_lda 0, x_gi 2 11, x_s1i 2, x_fall 3]
def k_MO_isHere_3 : List AI := [x_ldi 2, x_lda 0, x_gi 3 11, x_icge 4, x_lda 0, x_ga 0 11, x_ldi 2, x_ali, x_call MO_isLetter 1, x_ifeq 4, x_inc 2 1, x_go 3]
def k_MO_isHere_4 : List AI := [x_ldi 2, x_lda 0, x_gi 2 11, x_isub, x_lda 1, x_len, x_iceq 5, x_ic 0, x_rz]
def k_MO_isHere_5 : List AI := [x_ic 0, x_s1i 3, x_fall 6]
def k_MO_isHere_6 : List AI := [x_ldi 3, x_lda 1, x_len, x_icge 8, x_lda 0, x_ga 0 11, x_lda 0, x_gi 2 11, x_ldi 3, x_iadd, x_ali, x_lda 1, x_ldi 3, x_alc, x_iceq 7, x_ic 0, x_rz]
def k_MO_isHere_7 : List AI := [x_inc 3 1, x_go 6]
def k_MO_isHere_8 : List AI := [x_ic 1, x_rz]
def kb_MO_isHere : List (List AI) := [k_MO_isHere_0, k_MO_isHere_1, k_MO_isHere_2, k_MO_isHere_3, k_MO_isHere_4, k_MO_isHere_5, k_MO_isHere_6, k_MO_isHere_7, k_MO_isHere_8]
def k_MO_takes_0 : List AI := [x_lda 0, x_lda 1, x_calv MO_isHere 2 11, x_ifne 1, x_ic 0, x_rz]
def k_MO_takes_1 : List AI := [x_lda 0, x_dup, x_gi 2 11, x_lda 1, x_len, x_iadd, x_pi 2 11, x_lda 0, x_lda 0, x_gi 2 11, x_pi 4 11, x_ic 1, x_rz]
def kb_MO_takes : List (List AI) := [k_MO_takes_0, k_MO_takes_1]
def k_MO_asks_0 : List AI := [x_lda 0, x_gi 5 11, x_ifne 1, x_lda 0, x_lda 1, x_calv MO_takes 2 11, x_ifne 1, x_lda 0, x_ic 1, x_lda 0, x_gi 2 11, x_calv0 MO_fail 3 11, x_fall 1]
def k_MO_asks_1 : List AI := [x_ret]
def kb_MO_asks : List (List AI) := [k_MO_asks_0, k_MO_asks_1]
def k_MO_takesSign_0 : List AI := [x_lda 0, x_gi 5 11, x_ifne 1, x_lda 0, x_calv MO_look 1 11, x_ldi 1, x_iceq 2, x_fall 1]
def k_MO_takesSign_1 : List AI := [x_ic 0, x_rz]
def k_MO_takesSign_2 : List AI := [x_lda 0, x_dup, x_gi 2 11, x_ic 1, x_iadd, x_pi 2 11, x_ic 1, x_rz]
def kb_MO_takesSign : List (List AI) := [k_MO_takesSign_0, k_MO_takesSign_1, k_MO_takesSign_2]
def k_MO_asksSign_0 : List AI := [x_lda 0, x_gi 5 11, x_ifne 1, x_lda 0, x_ldi 1, x_calv MO_takesSign 2 11, x_ifne 1, x_lda 0, x_ic 1, x_lda 0, x_gi 2 11, x_calv0 MO_fail 3 11, x_fall 1]
def k_MO_asksSign_1 : List AI := [x_ret]
def kb_MO_asksSign : List (List AI) := [k_MO_asksSign_0, k_MO_asksSign_1]
def k_MO_number_0 : List AI := [x_lda 0, x_gi 5 11, x_ifeq 1, x_ic 0, x_ri]
def k_MO_number_1 : List AI := [x_lda 0, x_calv MO_look 1 11, x_call MO_isDigit 1, x_ifeq 2, x_lda 0, x_gi 2 11, x_lda 0, x_gi 4 11, x_icne 3, x_fall 2]
def k_MO_number_2 : List AI := [x_lda 0, x_ic 1, x_lda 0, x_gi 2 11, x_calv0 MO_fail 3 11, x_ic 0, x_ri]
def k_MO_number_3 : List AI := [x_lda 0, x_gi 2 11, x_s1i 3, x_ic 0, x_s1i 4, x_fall 4]
def k_MO_number_4 : List AI := [x_lda 0, x_gi 2 11, x_lda 0, x_gi 3 11, x_icge 6, x_lda 0, x_ga 0 11, x_lda 0, x_gi 2 11, x_ali, x_call MO_isDigit 1, x_ifeq 6, x_lda 0, x_gi 2 11, x_ldi 3, x_isub, x_ic 5, x_icne 5, x_lda 0, x_ic 1, x_lda 0, x_gi 2 11, x_calv0 MO_fail 3 11, x_ic 0, x_ri]
def k_MO_number_5 : List AI := [x_ic 10, x_ldi 4, x_imul, x_lda 0, x_ga 0 11, x_lda 0, x_gi 2 11, x_ali, x_iadd, x_ic 48, x_isub, x_s1i 4, x_lda 0, x_dup, x_gi 2 11, x_ic 1, x_iadd, x_pi 2 11, x_go 4]
def k_MO_number_6 : List AI := [x_lda 0, x_lda 0, x_gi 2 11, x_pi 4 11, x_lda 0, x_ldi 3, x_pi 10 11, x_ldi 4, x_i2l, x_ldi 1, x_i2l, x_ldi 2, x_i2l, x_call MO_isIn 3, x_ifne 7, x_lda 0, x_ic 2, x_ldi 3, x_calv0 MO_fail 3 11, x_fall 7]
def k_MO_number_7 : List AI := [x_ldi 4, x_ri]
def kb_MO_number : List (List AI) := [k_MO_number_0, k_MO_number_1, k_MO_number_2, k_MO_number_3, k_MO_number_4, k_MO_number_5, k_MO_number_6, k_MO_number_7]
def k_MO_signed_0 : List AI := [x_lda 0, x_gi 5 11, x_ifeq 1, x_ic 0, x_ri]
def k_MO_signed_1 : List AI := [x_lda 0, x_calv MO_look 1 11, x_ic 45, x_icne 2, x_ic 1, x_go 3]
def k_MO_signed_2 : List AI := [x_ic 0, x_fall 3]
def k_MO_signed_3 : List AI := [x_s1i 2, x_lda 0, x_gi 2 11, x_s1i 3, x_ldi 2, x_ifeq 4, x_lda 0, x_dup, x_gi 2 11, x_ic 1, x_iadd, x_pi 2 11, x_fall 4]
def k_MO_signed_4 : List AI := [x_ldi 2, x_ifeq 5, x_lda 0, x_ic 0, x_ic 99999, x_calv MO_number 3 11, x_ineg, x_go 6]
def k_MO_signed_5 : List AI := [x_lda 0, x_ic 0, x_ic 99999, x_calv MO_number 3 11, x_fall 6]
def k_MO_signed_6 : List AI := [x_s1i 4, x_lda 0, x_gi 5 11, x_ifne 7, x_ldi 4, x_i2l, x_ldi 1, x_ineg, x_i2l, x_ldi 1, x_i2l, x_call MO_isIn 3, x_ifne 7, x_lda 0, x_ic 2, x_ldi 3, x_calv0 MO_fail 3 11, x_fall 7]
def k_MO_signed_7 : List AI := [x_ldi 4, x_ri]
def kb_MO_signed : List (List AI) := [k_MO_signed_0, k_MO_signed_1, k_MO_signed_2, k_MO_signed_3, k_MO_signed_4, k_MO_signed_5, k_MO_signed_6, k_MO_signed_7]
def k_MO_isOwnHere_0 : List AI := [x_lda 0, x_lda 0, x_ga 11 11, x_calv MO_isHere 2 11, x_ifne 1, x_lda 0, x_lda 0, x_ga 12 11, x_calv MO_isHere 2 11, x_ifne 1, x_lda 0, x_lda 0, x_ga 13 11, x_calv MO_isHere 2 11, x_ifne 1, x_lda 0, x_lda 0, x_ga 14 11, x_calv MO_isHere 2 11, x_ifne 1, x_lda 0, x_lda 0, x_ga 15 11, x_calv MO_isHere 2 11, x_ifne 1, x_lda 0, x_lda 0, x_ga 16 11, x_calv MO_isHere 2 11, x_ifeq 2, x_fall 1]
def k_MO_isOwnHere_1 : List AI := [x_ic 1, x_go 3]
def k_MO_isOwnHere_2 : List AI := [x_ic 0, x_fall 3]
def k_MO_isOwnHere_3 : List AI := [x_s1i 1, x_ldi 1, x_ifne 4, x_lda 0, x_lda 0, x_ga 17 11, x_calv MO_isHere 2 11, x_ifne 4, x_lda 0, x_lda 0, x_ga 18 11, x_calv MO_isHere 2 11, x_ifne 4, x_lda 0, x_lda 0, x_ga 19 11, x_calv MO_isHere 2 11, x_ifne 4, x_lda 0, x_lda 0, x_ga 20 11, x_calv MO_isHere 2 11, x_ifne 4, x_lda 0, x_lda 0, x_ga 21 11, x_calv MO_isHere 2 11, x_ifne 4, x_lda 0, x_lda 0, x_ga 22 11, x_calv MO_isHere 2 11, x_ifeq 5, x_fall 4]
def k_MO_isOwnHere_4 : List AI := [x_ic 1, x_go 6]
def k_MO_isOwnHere_5 : List AI := [x_ic 0, x_fall 6]
def k_MO_isOwnHere_6 : List AI := [x_s1i 1, x_ldi 1, x_ifne 7, x_lda 0, x_lda 0, x_ga 23 11, x_calv MO_isHere 2 11, x_ifne 7, x_lda 0, x_lda 0, x_ga 24 11, x_calv MO_isHere 2 11, x_ifne 7, x_lda 0, x_lda 0, x_ga 25 11, x_calv MO_isHere 2 11, x_ifne 7, x_lda 0, x_lda 0, x_ga 26 11, x_calv MO_isHere 2 11, x_ifne 7, x_lda 0, x_lda 0, x_ga 27 11, x_calv MO_isHere 2 11, x_ifeq 8, x_fall 7]
def k_MO_isOwnHere_7 : List AI := [x_ic 1, x_go 9]
def k_MO_isOwnHere_8 : List AI := [x_ic 0, x_fall 9]
def k_MO_isOwnHere_9 : List AI := [x_s1i 1, x_ldi 1, x_rz]
def kb_MO_isOwnHere : List (List AI) := [k_MO_isOwnHere_0, k_MO_isOwnHere_1, k_MO_isOwnHere_2, k_MO_isOwnHere_3, k_MO_isOwnHere_4, k_MO_isOwnHere_5, k_MO_isOwnHere_6, k_MO_isOwnHere_7, k_MO_isOwnHere_8, k_MO_isOwnHere_9]
def k_MO_name_0 : List AI := [x_lda 0, x_gi 5 11, x_ifeq 1, x_lc 0, x_rl]
def k_MO_name_1 : List AI := [x_lda 0, x_calv MO_look 1 11, x_call MO_isLetter 1, x_ifeq 2, x_lda 0, x_gi 2 11, x_lda 0, x_gi 4 11, x_iceq 2, x_lda 0, x_calv MO_isOwnHere 1 11, x_ifeq 3, x_fall 2]
def k_MO_name_2 : List AI := [x_lda 0, x_ic 1, x_lda 0, x_gi 2 11, x_calv0 MO_fail 3 11, x_lc 0, x_rl]
def k_MO_name_3 : List AI := [x_lda 0, x_lda 0, x_gi 2 11, x_pi 28 11, x_lc 0, x_s2 1, x_fall 4]
def k_MO_name_4 : List AI := [x_lda 0, x_gi 2 11, x_lda 0, x_gi 3 11, x_icge 6, x_lda 0, x_ga 0 11, x_lda 0, x_gi 2 11, x_ali, x_call MO_isLetter 1, x_ifeq 6, x_lda 0, x_gi 2 11, x_lda 0, x_gi 28 11, x_isub, x_ic 6, x_icne 5, x_lda 0, x_ic 1, x_lda 0, x_gi 2 11, x_calv0 MO_fail 3 11, x_lc 0, x_rl]
def k_MO_name_5 : List AI := [x_lc 27, x_ldl 1, x_lmul, x_lda 0, x_ga 0 11, x_lda 0, x_gi 2 11, x_ali, x_i2l, x_ladd, x_lc 97, x_lsub, x_lc 1, x_ladd, x_s2 1, x_lda 0, x_dup, x_gi 2 11, x_ic 1, x_iadd, x_pi 2 11, x_go 4]
def k_MO_name_6 : List AI := [x_lda 0, x_lda 0, x_gi 2 11, x_pi 4 11, x_ldl 1, x_rl]
def kb_MO_name : List (List AI) := [k_MO_name_0, k_MO_name_1, k_MO_name_2, k_MO_name_3, k_MO_name_4, k_MO_name_5, k_MO_name_6]
def k_MO_isFull_0 : List AI := [x_lda 0, x_gi 5 11, x_ifne 1, x_lda 0, x_ga 29 11, x_ldi 1, x_ali, x_ldi 2, x_icne 1, x_lda 0, x_ic 5, x_ldi 3, x_calv0 MO_fail 3 11, x_fall 1]
def k_MO_isFull_1 : List AI := [x_lda 0, x_gi 5 11, x_ifeq 2, x_ic 1, x_go 3]
def k_MO_isFull_2 : List AI := [x_ic 0, x_fall 3]
def k_MO_isFull_3 : List AI := [x_rz]
def kb_MO_isFull : List (List AI) := [k_MO_isFull_0, k_MO_isFull_1, k_MO_isFull_2, k_MO_isFull_3]
def k_MO_seatAt_0 : List AI := [x_ic 0, x_s1i 2, x_fall 1]
def k_MO_seatAt_1 : List AI := [x_ldi 2, x_lda 0, x_ga 29 11, x_ic 0, x_ali, x_icge 3, x_lda 0, x_ga 30 11, x_ldi 2, x_ali, x_ldi 1, x_icne 2, x_ldi 2, x_ri]
def k_MO_seatAt_2 : List AI := [x_inc 2 1, x_go 1]
def k_MO_seatAt_3 : List AI := [x_ic (-1), x_ri]
def kb_MO_seatAt : List (List AI) := [k_MO_seatAt_0, k_MO_seatAt_1, k_MO_seatAt_2, k_MO_seatAt_3]
def k_MO_seatTold_0 : List AI := [x_lda 0, x_ic 0, x_ic 12, x_ldi 1, x_calv MO_isFull 4 11, x_ifeq 1, x_ret]
def k_MO_seatTold_1 : List AI := [x_lda 0, x_ga 29 11, x_ic 0, x_ali, x_s1i 2, x_lda 0, x_ic 1, x_ic 99, x_calv MO_number 3 11, x_s1i 3, x_lda 0, x_gi 5 11, x_ifne 2, x_lda 0, x_ldi 3, x_calv MO_seatAt 2 11, x_ic (-1), x_iceq 2, x_lda 0, x_ic 2, x_lda 0, x_gi 10 11, x_calv0 MO_fail 3 11, x_fall 2]
def k_MO_seatTold_2 : List AI := [x_lda 0, x_lda 0, x_ga 12 11, x_calv0 MO_asks 2 11, x_lda 0, x_ic 1, x_ic 99, x_calv MO_number 3 11, x_s1i 4, x_lda 0, x_gi 5 11, x_ifeq 3, x_ret]
def k_MO_seatTold_3 : List AI := [x_lda 0, x_ga 30 11, x_ldi 2, x_ldi 3, x_asi, x_lda 0, x_ga 31 11, x_ldi 2, x_ldi 4, x_asi, x_lda 0, x_ga 32 11, x_ldi 2, x_ic 0, x_asi, x_lda 0, x_ga 29 11, x_ic 0, x_dup2, x_ali, x_ic 1, x_iadd, x_asi, x_ret]
def kb_MO_seatTold : List (List AI) := [k_MO_seatTold_0, k_MO_seatTold_1, k_MO_seatTold_2, k_MO_seatTold_3]
def k_MO_rowerTold_0 : List AI := [x_lda 0, x_ic 1, x_ic 12, x_ldi 1, x_calv MO_isFull 4 11, x_ifeq 1, x_ret]
def k_MO_rowerTold_1 : List AI := [x_lda 0, x_ga 29 11, x_ic 1, x_ali, x_s1i 2, x_lda 0, x_calv MO_name 1 11, x_s2 3, x_ic 0, x_s1i 5, x_fall 2]
def k_MO_rowerTold_2 : List AI := [x_ldi 5, x_ldi 2, x_icge 4, x_lda 0, x_gi 5 11, x_ifne 3, x_lda 0, x_ga 33 11, x_ldi 5, x_all, x_ldl 3, x_lcmp, x_ifne 3, x_lda 0, x_ic 3, x_lda 0, x_gi 28 11, x_calv0 MO_fail 3 11, x_fall 3]
def k_MO_rowerTold_3 : List AI := [x_inc 5 1, x_go 2]
def k_MO_rowerTold_4 : List AI := [x_lda 0, x_lda 0, x_ga 14 11, x_calv0 MO_asks 2 11, x_lda 0, x_ic 1, x_ic 99, x_calv MO_number 3 11, x_s1i 5, x_lda 0, x_lda 0, x_ga 15 11, x_calv0 MO_asks 2 11, x_lda 0, x_ic 0, x_ic 9, x_calv MO_number 3 11, x_s1i 6, x_lda 0, x_gi 5 11, x_ifeq 5, x_ret]
def k_MO_rowerTold_5 : List AI := [x_lda 0, x_ga 33 11, x_ldi 2, x_ldl 3, x_asl, x_lda 0, x_ga 34 11, x_ldi 2, x_ldi 5, x_asi, x_lda 0, x_ga 35 11, x_ldi 2, x_ldi 6, x_asi, x_lda 0, x_ga 29 11, x_ic 1, x_dup2, x_ali, x_ic 1, x_iadd, x_asi, x_ret]
def kb_MO_rowerTold : List (List AI) := [k_MO_rowerTold_0, k_MO_rowerTold_1, k_MO_rowerTold_2, k_MO_rowerTold_3, k_MO_rowerTold_4, k_MO_rowerTold_5]
def k_MO_fixTold_0 : List AI := [x_lda 0, x_ic 0, x_ic 99999, x_calv MO_number 3 11, x_s1i 1, x_lda 0, x_ldi 1, x_calv MO_seatAt 2 11, x_s1i 2, x_lda 0, x_gi 5 11, x_ifne 1, x_ldi 2, x_ic (-1), x_icne 1, x_lda 0, x_ic 2, x_lda 0, x_gi 10 11, x_calv0 MO_fail 3 11, x_fall 1]
def k_MO_fixTold_1 : List AI := [x_lda 0, x_lda 0, x_ga 18 11, x_calv MO_takes 2 11, x_s1i 3, x_ldi 3, x_ifne 2, x_lda 0, x_lda 0, x_ga 19 11, x_calv0 MO_asks 2 11, x_fall 2]
def k_MO_fixTold_2 : List AI := [x_lda 0, x_gi 5 11, x_ifne 5, x_lda 0, x_ga 32 11, x_ldi 2, x_ldi 3, x_ifeq 3, x_ic 1, x_go 4]
def k_MO_fixTold_3 : List AI := [x_ic 2, x_fall 4]
def k_MO_fixTold_4 : List AI := [x_asi, x_fall 5]
def k_MO_fixTold_5 : List AI := [x_ret]
def kb_MO_fixTold : List (List AI) := [k_MO_fixTold_0, k_MO_fixTold_1, k_MO_fixTold_2, k_MO_fixTold_3, k_MO_fixTold_4, k_MO_fixTold_5]
def k_MO_wantTold_0 : List AI := [x_lda 0, x_ic 0, x_ic 3, x_calv MO_number 3 11, x_s1i 1, x_lda 0, x_lda 0, x_ga 21 11, x_calv0 MO_asks 2 11, x_lda 0, x_ic 9999, x_calv MO_signed 2 11, x_s1i 2, x_lda 0, x_gi 5 11, x_ifeq 1, x_ret]
def k_MO_wantTold_1 : List AI := [x_lda 0, x_ga 38 11, x_ldi 1, x_ic 1, x_asi, x_lda 0, x_ga 39 11, x_ldi 1, x_ldi 2, x_asi, x_ret]
def kb_MO_wantTold : List (List AI) := [k_MO_wantTold_0, k_MO_wantTold_1]
def k_MO_sidesTold_0 : List AI := [x_lda 0, x_gi 5 11, x_ifeq 1, x_ret]
def k_MO_sidesTold_1 : List AI := [x_lda 0, x_calv MO_look 1 11, x_call MO_isLetter 1, x_ifeq 2, x_lda 0, x_gi 2 11, x_lda 0, x_gi 4 11, x_icne 3, x_fall 2]
def k_MO_sidesTold_2 : List AI := [x_lda 0, x_ic 1, x_lda 0, x_gi 2 11, x_calv0 MO_fail 3 11, x_ret]
def k_MO_sidesTold_3 : List AI := [x_lda 0, x_gi 2 11, x_s1i 2, x_ic 0, x_s1i 3, x_fall 4]
def k_MO_sidesTold_4 : List AI := [x_lda 0, x_gi 2 11, x_lda 0, x_gi 3 11, x_icge 10, x_lda 0, x_ga 0 11, x_lda 0, x_gi 2 11, x_ali, x_call MO_isLetter 1, x_ifeq 10, x_lda 0, x_ga 0 11, x_lda 0, x_gi 2 11, x_ali, x_s1i 4, x_ldi 3, x_lda 0, x_ga 29 11, x_ic 0, x_ali, x_iceq 5, x_ldi 4, x_ic 108, x_iceq 6, x_ldi 4, x_ic 114, x_iceq 6, x_ldi 4, x_ic 120, x_iceq 6, x_fall 5]
def k_MO_sidesTold_5 : List AI := [x_lda 0, x_ic 1, x_ldi 2, x_calv0 MO_fail 3 11, x_ret]
def k_MO_sidesTold_6 : List AI := [x_lda 0, x_ga 40 11, x_ic 12, x_ldi 1, x_imul, x_ldi 3, x_iadd, x_ldi 4, x_ic 108, x_icne 7, x_ic 1, x_go 9]
def k_MO_sidesTold_7 : List AI := [x_ldi 4, x_ic 114, x_icne 8, x_ic 2, x_go 9]
def k_MO_sidesTold_8 : List AI := [x_ic 0, x_fall 9]
def k_MO_sidesTold_9 : List AI := [x_asi, x_inc 3 1, x_lda 0, x_dup, x_gi 2 11, x_ic 1, x_iadd, x_pi 2 11, x_go 4]
def k_MO_sidesTold_10 : List AI := [x_lda 0, x_lda 0, x_gi 2 11, x_pi 4 11, x_ldi 3, x_lda 0, x_ga 29 11, x_ic 0, x_ali, x_iceq 11, x_lda 0, x_ic 1, x_ldi 2, x_calv0 MO_fail 3 11, x_fall 11]
def k_MO_sidesTold_11 : List AI := [x_ldi 3, x_s1i 4, x_fall 12]
def k_MO_sidesTold_12 : List AI := [x_ldi 4, x_ic 12, x_icge 13, x_lda 0, x_ga 40 11, x_ic 12, x_ldi 1, x_imul, x_ldi 4, x_iadd, x_ic 0, x_asi, x_inc 4 1, x_go 12]
def k_MO_sidesTold_13 : List AI := [x_ret]
def kb_MO_sidesTold : List (List AI) := [k_MO_sidesTold_0, k_MO_sidesTold_1, k_MO_sidesTold_2, k_MO_sidesTold_3, k_MO_sidesTold_4, k_MO_sidesTold_5, k_MO_sidesTold_6, k_MO_sidesTold_7, k_MO_sidesTold_8, k_MO_sidesTold_9, k_MO_sidesTold_10, k_MO_sidesTold_11, k_MO_sidesTold_12, k_MO_sidesTold_13]
def k_MO_runTold_0 : List AI := [x_lda 0, x_ic 2, x_ic 8, x_ldi 1, x_calv MO_isFull 4 11, x_ifeq 1, x_ret]
def k_MO_runTold_1 : List AI := [x_lda 0, x_ga 29 11, x_ic 2, x_ali, x_s1i 2, x_lda 0, x_ldi 2, x_calv0 MO_sidesTold 2 11, x_lda 0, x_lda 0, x_ga 24 11, x_calv0 MO_asks 2 11, x_lda 0, x_ic 0, x_ic 3, x_calv MO_number 3 11, x_s1i 3, x_lda 0, x_lda 0, x_ga 25 11, x_calv0 MO_asks 2 11, x_lda 0, x_ic 99999, x_calv MO_signed 2 11, x_s1i 4, x_lda 0, x_gi 5 11, x_ifeq 2, x_ret]
def k_MO_runTold_2 : List AI := [x_lda 0, x_ga 41 11, x_ldi 2, x_ldi 3, x_asi, x_lda 0, x_ga 42 11, x_ldi 2, x_ldi 4, x_asi, x_lda 0, x_ga 29 11, x_ic 2, x_dup2, x_ali, x_ic 1, x_iadd, x_asi, x_ret]
def kb_MO_runTold : List (List AI) := [k_MO_runTold_0, k_MO_runTold_1, k_MO_runTold_2]
def k_MO_payTold_0 : List AI := [x_lda 0, x_ic 3, x_ic 12, x_ldi 1, x_calv MO_isFull 4 11, x_ifeq 1, x_ret]
def k_MO_payTold_1 : List AI := [x_lda 0, x_ic 1, x_ic 999, x_calv MO_number 3 11, x_s1i 2, x_lda 0, x_lda 0, x_ga 27 11, x_calv0 MO_asks 2 11, x_lda 0, x_ic 0, x_ic 999, x_calv MO_number 3 11, x_s1i 3, x_lda 0, x_gi 5 11, x_ifeq 2, x_ret]
def k_MO_payTold_2 : List AI := [x_lda 0, x_ga 43 11, x_lda 0, x_ga 29 11, x_ic 3, x_ali, x_ldi 2, x_asi, x_lda 0, x_ga 44 11, x_lda 0, x_ga 29 11, x_ic 3, x_ali, x_ldi 3, x_asi, x_lda 0, x_ga 29 11, x_ic 3, x_dup2, x_ali, x_ic 1, x_iadd, x_asi, x_ret]
def kb_MO_payTold : List (List AI) := [k_MO_payTold_0, k_MO_payTold_1, k_MO_payTold_2]
def k_MO_statementTold_0 : List AI := [x_lda 0, x_gi 2 11, x_s1i 1, x_lda 0, x_gi 45 11, x_ic 70, x_icne 1, x_lda 0, x_ic 5, x_ldi 1, x_calv0 MO_fail 3 11, x_ret]
def k_MO_statementTold_1 : List AI := [x_lda 0, x_lda 0, x_ga 11 11, x_calv MO_takes 2 11, x_ifeq 2, x_lda 0, x_ldi 1, x_calv0 MO_seatTold 2 11, x_go 9]
def k_MO_statementTold_2 : List AI := [x_lda 0, x_lda 0, x_ga 13 11, x_calv MO_takes 2 11, x_ifeq 3, x_lda 0, x_ldi 1, x_calv0 MO_rowerTold 2 11, x_go 9]
def k_MO_statementTold_3 : List AI := [x_lda 0, x_lda 0, x_ga 16 11, x_calv MO_takes 2 11, x_ifeq 4, x_lda 0, x_ga 36 11, x_ic 0, x_lda 0, x_ic 0, x_ic 12, x_calv MO_number 3 11, x_asi, x_go 9]
def k_MO_statementTold_4 : List AI := [x_lda 0, x_lda 0, x_ga 17 11, x_calv MO_takes 2 11, x_ifeq 5, x_lda 0, x_calv0 MO_fixTold 1 11, x_go 9]
def k_MO_statementTold_5 : List AI := [x_lda 0, x_lda 0, x_ga 20 11, x_calv MO_takes 2 11, x_ifeq 6, x_lda 0, x_calv0 MO_wantTold 1 11, x_go 9]
def k_MO_statementTold_6 : List AI := [x_lda 0, x_lda 0, x_ga 22 11, x_calv MO_takes 2 11, x_ifeq 7, x_lda 0, x_ga 37 11, x_ic 0, x_lda 0, x_ic 0, x_ic 9999, x_calv MO_number 3 11, x_asi, x_go 9]
def k_MO_statementTold_7 : List AI := [x_lda 0, x_lda 0, x_ga 23 11, x_calv MO_takes 2 11, x_ifeq 8, x_lda 0, x_ldi 1, x_calv0 MO_runTold 2 11, x_go 9]
def k_MO_statementTold_8 : List AI := [x_lda 0, x_lda 0, x_ga 26 11, x_calv0 MO_asks 2 11, x_lda 0, x_gi 5 11, x_ifne 9, x_lda 0, x_ldi 1, x_calv0 MO_payTold 2 11, x_fall 9]
def k_MO_statementTold_9 : List AI := [x_lda 0, x_ic 59, x_calv0 MO_asksSign 2 11, x_lda 0, x_dup, x_gi 45 11, x_ic 1, x_iadd, x_pi 45 11, x_ret]
def kb_MO_statementTold : List (List AI) := [k_MO_statementTold_0, k_MO_statementTold_1, k_MO_statementTold_2, k_MO_statementTold_3, k_MO_statementTold_4, k_MO_statementTold_5, k_MO_statementTold_6, k_MO_statementTold_7, k_MO_statementTold_8, k_MO_statementTold_9]
def k_MO_text_0 : List AI := [x_lda 0, x_lda 0, x_gi 1 11, x_pi 3 11, x_lda 0, x_ic 0, x_pi 1 11, x_lda 0, x_ic 0, x_pi 2 11, x_lda 0, x_ic (-1), x_pi 4 11, x_lda 0, x_ic 0, x_pi 5 11, x_lda 0, x_ic (-1), x_pi 6 11, x_lda 0, x_ic 0, x_pi 45 11, x_lda 0, x_ga 36 11, x_ic 0, x_ic (-1), x_asi, x_lda 0, x_ga 37 11, x_ic 0, x_ic 0, x_asi, x_ic 0, x_s1i 1, x_fall 1]
def k_MO_text_1 : List AI := [x_ldi 1, x_ic 4, x_icge 2, x_lda 0, x_ga 29 11, x_ldi 1, x_ic 0, x_asi, x_inc 1 1, x_go 1]
def k_MO_text_2 : List AI := [x_ic 0, x_s1i 1, x_fall 3]
def k_MO_text_3 : List AI := [x_ldi 1, x_ic 4, x_icge 4, x_lda 0, x_ga 38 11, x_ldi 1, x_ic 0, x_asi, x_inc 1 1, x_go 3]
def k_MO_text_4 : List AI := [x_lda 0, x_gi 5 11, x_ifne 5, x_lda 0, x_calv MO_look 1 11, x_ic (-1), x_iceq 5, x_lda 0, x_calv0 MO_statementTold 1 11, x_go 4]
def k_MO_text_5 : List AI := [x_lda 0, x_lda 0, x_gi 5 11, x_pi 7 11, x_lda 0, x_lda 0, x_gi 6 11, x_pi 8 11, x_lda 0, x_gi 5 11, x_ifeq 6, x_lda 0, x_ga 9 11, x_ic 1, x_dup2, x_ali, x_ic 1, x_iadd, x_asi, x_ic (-1), x_ri]
def k_MO_text_6 : List AI := [x_lda 0, x_calv0 MO_stands 1 11, x_lda 0, x_gi 45 11, x_ri]
def kb_MO_text : List (List AI) := [k_MO_text_0, k_MO_text_1, k_MO_text_2, k_MO_text_3, k_MO_text_4, k_MO_text_5, k_MO_text_6]
def k_MO_stands_0 : List AI := [x_ic 0, x_s1i 1, x_fall 1]
def k_MO_stands_1 : List AI := [x_ldi 1, x_ic 4, x_icge 2, x_lda 0, x_ga 29 11, x_ic 4, x_ldi 1, x_iadd, x_lda 0, x_ga 29 11, x_ldi 1, x_ali, x_asi, x_inc 1 1, x_go 1]
def k_MO_stands_2 : List AI := [x_ic 0, x_s1i 1, x_fall 3]
def k_MO_stands_3 : List AI := [x_ldi 1, x_ic 12, x_icge 4, x_lda 0, x_ga 30 11, x_ic 12, x_ldi 1, x_iadd, x_lda 0, x_ga 30 11, x_ldi 1, x_ali, x_asi, x_lda 0, x_ga 31 11, x_ic 12, x_ldi 1, x_iadd, x_lda 0, x_ga 31 11, x_ldi 1, x_ali, x_asi, x_lda 0, x_ga 32 11, x_ic 12, x_ldi 1, x_iadd, x_lda 0, x_ga 32 11, x_ldi 1, x_ali, x_asi, x_lda 0, x_ga 33 11, x_ic 12, x_ldi 1, x_iadd, x_lda 0, x_ga 33 11, x_ldi 1, x_all, x_asl, x_lda 0, x_ga 34 11, x_ic 12, x_ldi 1, x_iadd, x_lda 0, x_ga 34 11, x_ldi 1, x_ali, x_asi, x_lda 0, x_ga 35 11, x_ic 12, x_ldi 1, x_iadd, x_lda 0, x_ga 35 11, x_ldi 1, x_ali, x_asi, x_lda 0, x_ga 43 11, x_ic 12, x_ldi 1, x_iadd, x_lda 0, x_ga 43 11, x_ldi 1, x_ali, x_asi, x_lda 0, x_ga 44 11, x_ic 12, x_ldi 1, x_iadd, x_lda 0, x_ga 44 11, x_ldi 1, x_ali, x_asi, x_inc 1 1, x_go 3]
def k_MO_stands_4 : List AI := [x_lda 0, x_ga 36 11, x_ic 1, x_lda 0, x_ga 36 11, x_ic 0, x_ali, x_asi, x_lda 0, x_ga 37 11, x_ic 1, x_lda 0, x_ga 37 11, x_ic 0, x_ali, x_asi, x_ic 0, x_s1i 1, x_fall 5]
def k_MO_stands_5 : List AI := [x_ldi 1, x_ic 4, x_icge 6, x_lda 0, x_ga 38 11, x_ic 4, x_ldi 1, x_iadd, x_lda 0, x_ga 38 11, x_ldi 1, x_ali, x_asi, x_lda 0, x_ga 39 11, x_ic 4, x_ldi 1, x_iadd, x_lda 0, x_ga 39 11, x_ldi 1, x_ali, x_asi, x_inc 1 1, x_go 5]
def k_MO_stands_6 : List AI := [x_ic 0, x_s1i 1, x_fall 7]
def k_MO_stands_7 : List AI := [x_ldi 1, x_ic 96, x_icge 8, x_lda 0, x_ga 40 11, x_ic 96, x_ldi 1, x_iadd, x_lda 0, x_ga 40 11, x_ldi 1, x_ali, x_asi, x_inc 1 1, x_go 7]
def k_MO_stands_8 : List AI := [x_ic 0, x_s1i 1, x_fall 9]
def k_MO_stands_9 : List AI := [x_ldi 1, x_ic 8, x_icge 10, x_lda 0, x_ga 41 11, x_ic 8, x_ldi 1, x_iadd, x_lda 0, x_ga 41 11, x_ldi 1, x_ali, x_asi, x_lda 0, x_ga 42 11, x_ic 8, x_ldi 1, x_iadd, x_lda 0, x_ga 42 11, x_ldi 1, x_ali, x_asi, x_inc 1 1, x_go 9]
def k_MO_stands_10 : List AI := [x_lda 0, x_ic 1, x_pz 46 11, x_lda 0, x_ic 0, x_pi 47 11, x_lda 0, x_lc 0, x_pl 48 11, x_lda 0, x_ic 0, x_pi 49 11, x_ic 0, x_s1i 1, x_fall 11]
def k_MO_stands_11 : List AI := [x_ldi 1, x_ic 12, x_icge 19, x_lda 0, x_ga 50 11, x_ldi 1, x_ldi 1, x_lda 0, x_calv MO_seats 1 11, x_icge 12, x_ldi 1, x_lda 0, x_calv MO_rowers 1 11, x_icge 12, x_ldi 1, x_go 13]
def k_MO_stands_12 : List AI := [x_ic (-1), x_fall 13]
def k_MO_stands_13 : List AI := [x_asi, x_ldi 1, x_lda 0, x_calv MO_seats 1 11, x_icge 16, x_lda 0, x_ga 32 11, x_ic 12, x_ldi 1, x_iadd, x_ali, x_ifne 14, x_ldi 1, x_ic 2, x_irem, x_ic 1, x_icne 16, x_go 15]
def k_MO_stands_14 : List AI := [x_lda 0, x_ga 32 11, x_ic 12, x_ldi 1, x_iadd, x_ali, x_ic 2, x_icne 16, x_fall 15]
def k_MO_stands_15 : List AI := [x_ic 1, x_go 17]
def k_MO_stands_16 : List AI := [x_ic 0, x_fall 17]
def k_MO_stands_17 : List AI := [x_s1i 2, x_ldi 2, x_ifeq 18, x_lda 0, x_dup, x_gi 49 11, x_ic 1, x_ldi 1, x_ishl, x_ior, x_pi 49 11, x_fall 18]
def k_MO_stands_18 : List AI := [x_inc 1 1, x_go 11]
def k_MO_stands_19 : List AI := [x_lda 0, x_ic 0, x_pi 55 11, x_ret]
def kb_MO_stands : List (List AI) := [k_MO_stands_0, k_MO_stands_1, k_MO_stands_2, k_MO_stands_3, k_MO_stands_4, k_MO_stands_5, k_MO_stands_6, k_MO_stands_7, k_MO_stands_8, k_MO_stands_9, k_MO_stands_10, k_MO_stands_11, k_MO_stands_12, k_MO_stands_13, k_MO_stands_14, k_MO_stands_15, k_MO_stands_16, k_MO_stands_17, k_MO_stands_18, k_MO_stands_19]
def k_MO_fault_0 : List AI := [x_ldi 1, x_ifne 1, x_lda 0, x_gi 7 11, x_go 3]
def k_MO_fault_1 : List AI := [x_ldi 1, x_ic 1, x_icne 2, x_lda 0, x_gi 8 11, x_go 3]
def k_MO_fault_2 : List AI := [x_ic (-1), x_fall 3]
def k_MO_fault_3 : List AI := [x_ri]
def kb_MO_fault : List (List AI) := [k_MO_fault_0, k_MO_fault_1, k_MO_fault_2, k_MO_fault_3]
def k_MO_seats_0 : List AI := [x_lda 0, x_ga 29 11, x_ic 4, x_ali, x_ri]
def kb_MO_seats : List (List AI) := [k_MO_seats_0]
def k_MO_rowers_0 : List AI := [x_lda 0, x_ga 29 11, x_ic 5, x_ali, x_ri]
def kb_MO_rowers : List (List AI) := [k_MO_rowers_0]
def k_MO_runs_0 : List AI := [x_lda 0, x_ga 29 11, x_ic 6, x_ali, x_ri]
def kb_MO_runs : List (List AI) := [k_MO_runs_0]
def k_MO_each_0 : List AI := [x_lda 0, x_gi 46 11, x_ifeq 1, x_lda 0, x_ga 36 11, x_ic 1, x_ali, x_go 2]
def k_MO_each_1 : List AI := [x_ic (-1), x_fall 2]
def k_MO_each_2 : List AI := [x_ri]
def kb_MO_each : List (List AI) := [k_MO_each_0, k_MO_each_1, k_MO_each_2]
def k_MO_near_0 : List AI := [x_lda 0, x_ga 37 11, x_ic 1, x_ali, x_ri]
def kb_MO_near : List (List AI) := [k_MO_near_0]
def k_MO_isSeat_0 : List AI := [x_ldi 1, x_i2l, x_lc 0, x_lda 0, x_calv MO_seats 1 11, x_ic 1, x_isub, x_i2l, x_call MO_isIn 3, x_rz]
def kb_MO_isSeat : List (List AI) := [k_MO_isSeat_0]
def k_MO_isRower_0 : List AI := [x_ldi 1, x_i2l, x_lc 0, x_lda 0, x_calv MO_rowers 1 11, x_ic 1, x_isub, x_i2l, x_call MO_isIn 3, x_rz]
def kb_MO_isRower : List (List AI) := [k_MO_isRower_0]
def k_MO_isFixed_0 : List AI := [x_lda 0, x_ga 32 11, x_ic 12, x_ldi 1, x_iadd, x_ali, x_ifeq 1, x_ic 1, x_go 2]
def k_MO_isFixed_1 : List AI := [x_ic 0, x_fall 2]
def k_MO_isFixed_2 : List AI := [x_rz]
def kb_MO_isFixed : List (List AI) := [k_MO_isFixed_0, k_MO_isFixed_1, k_MO_isFixed_2]
def k_MO_strengthAt_0 : List AI := [x_lda 0, x_ga 34 11, x_ic 12, x_ldi 1, x_iadd, x_ali, x_lda 0, x_ga 35 11, x_ic 12, x_ldi 1, x_iadd, x_ali, x_ldi 2, x_ic 10, x_idiv, x_imul, x_isub, x_s1i 3, x_ldi 3, x_ifge 1, x_ic 0, x_go 2]
def k_MO_strengthAt_1 : List AI := [x_ldi 3, x_fall 2]
def k_MO_strengthAt_2 : List AI := [x_ri]
def kb_MO_strengthAt : List (List AI) := [k_MO_strengthAt_0, k_MO_strengthAt_1, k_MO_strengthAt_2]
def k_MO_pullOf_0 : List AI := [x_lda 0, x_ga 50 11, x_ldi 1, x_ali, x_ic (-1), x_icne 1, x_ic 0, x_go 2]
def k_MO_pullOf_1 : List AI := [x_lda 0, x_lda 0, x_ga 50 11, x_ldi 1, x_ali, x_ldi 2, x_calv MO_strengthAt 3 11, x_lda 0, x_ga 31 11, x_ic 12, x_ldi 1, x_iadd, x_ali, x_imul, x_fall 2]
def k_MO_pullOf_2 : List AI := [x_ri]
def kb_MO_pullOf : List (List AI) := [k_MO_pullOf_0, k_MO_pullOf_1, k_MO_pullOf_2]
def k_MO_raised_0 : List AI := [x_lc 1, x_s2 2, x_ic 0, x_s1i 4, x_fall 1]
def k_MO_raised_1 : List AI := [x_ldi 4, x_ldi 1, x_icge 2, x_ldl 2, x_ldi 0, x_i2l, x_lmul, x_s2 2, x_inc 4 1, x_go 1]
def k_MO_raised_2 : List AI := [x_ldl 2, x_rl]
def kb_MO_raised : List (List AI) := [k_MO_raised_0, k_MO_raised_1, k_MO_raised_2]
def k_MO_swingBy_0 : List AI := [x_lc 0, x_s2 4, x_ic 0, x_s1i 6, x_fall 1]
def k_MO_swingBy_1 : List AI := [x_ldi 6, x_lda 0, x_calv MO_seats 1 11, x_icge 4, x_lda 0, x_ldi 6, x_ldi 3, x_calv MO_pullOf 3 11, x_i2l, x_lda 0, x_ga 30 11, x_ic 12, x_ldi 6, x_iadd, x_ali, x_ldi 1, x_call MO_raised 2, x_lmul, x_s2 7, x_ldl 4, x_ldi 2, x_ldi 6, x_ishr, x_ic 1, x_iand, x_ic 1, x_icne 2, x_ldl 7, x_go 3]
def k_MO_swingBy_2 : List AI := [x_ldl 7, x_lneg, x_fall 3]
def k_MO_swingBy_3 : List AI := [x_ladd, x_s2 4, x_inc 6 1, x_go 1]
def k_MO_swingBy_4 : List AI := [x_ldl 4, x_rl]
def kb_MO_swingBy : List (List AI) := [k_MO_swingBy_0, k_MO_swingBy_1, k_MO_swingBy_2, k_MO_swingBy_3, k_MO_swingBy_4]
def k_MO_size_0 : List AI := [x_ldl 0, x_lc 0, x_lcmp, x_ifge 1, x_ldl 0, x_lneg, x_go 2]
def k_MO_size_1 : List AI := [x_ldl 0, x_fall 2]
def k_MO_size_2 : List AI := [x_rl]
def kb_MO_size : List (List AI) := [k_MO_size_0, k_MO_size_1, k_MO_size_2]
def k_MO_isWantedOf_0 : List AI := [x_lda 0, x_ga 38 11, x_ic 4, x_ldi 1, x_iadd, x_ali, x_ic 1, x_icne 1, x_ic 1, x_go 2]
def k_MO_isWantedOf_1 : List AI := [x_ic 0, x_fall 2]
def k_MO_isWantedOf_2 : List AI := [x_rz]
def kb_MO_isWantedOf : List (List AI) := [k_MO_isWantedOf_0, k_MO_isWantedOf_1, k_MO_isWantedOf_2]
def k_MO_offBy_0 : List AI := [x_lc 0, x_s2 2, x_ic 0, x_s1i 4, x_fall 1]
def k_MO_offBy_1 : List AI := [x_ldi 4, x_ic 4, x_icge 3, x_lda 0, x_ldi 4, x_calv MO_isWantedOf 2 11, x_ifeq 2, x_ldl 2, x_lda 0, x_ldi 4, x_ldi 1, x_lda 0, x_gi 47 11, x_calv MO_swingBy 4 11, x_lda 0, x_ga 39 11, x_ic 4, x_ldi 4, x_iadd, x_ali, x_i2l, x_lsub, x_call MO_size 1, x_ladd, x_s2 2, x_fall 2]
def k_MO_offBy_2 : List AI := [x_inc 4 1, x_go 1]
def k_MO_offBy_3 : List AI := [x_ldl 2, x_rl]
def kb_MO_offBy : List (List AI) := [k_MO_offBy_0, k_MO_offBy_1, k_MO_offBy_2, k_MO_offBy_3]
def k_MO_isGood_0 : List AI := [x_ic 0, x_s1i 2, x_fall 1]
def k_MO_isGood_1 : List AI := [x_ldi 2, x_ic 4, x_icge 3, x_lda 0, x_ldi 2, x_calv MO_isWantedOf 2 11, x_ifeq 2, x_lda 0, x_ldi 2, x_ldi 1, x_lda 0, x_gi 47 11, x_calv MO_swingBy 4 11, x_lda 0, x_ga 39 11, x_ic 4, x_ldi 2, x_iadd, x_ali, x_i2l, x_lsub, x_call MO_size 1, x_lda 0, x_calv MO_near 1 11, x_i2l, x_lcmp, x_ifle 2, x_ic 0, x_rz]
def k_MO_isGood_2 : List AI := [x_inc 2 1, x_go 1]
def k_MO_isGood_3 : List AI := [x_ic 1, x_rz]
def kb_MO_isGood : List (List AI) := [k_MO_isGood_0, k_MO_isGood_1, k_MO_isGood_2, k_MO_isGood_3]
def k_MO_bits_0 : List AI := [x_ic 0, x_s1i 1, x_ldi 0, x_s1i 2, x_fall 1]
def k_MO_bits_1 : List AI := [x_ldi 2, x_ifeq 2, x_inc 1 1, x_ldi 2, x_ldi 2, x_ic 1, x_isub, x_iand, x_s1i 2, x_go 1]
def k_MO_bits_2 : List AI := [x_ldi 1, x_ri]
def kb_MO_bits : List (List AI) := [k_MO_bits_0, k_MO_bits_1, k_MO_bits_2]
def k_MO_isLawful_0 : List AI := [x_lda 0, x_calv MO_each 1 11, x_ic (-1), x_iceq 1, x_lda 0, x_calv MO_seats 1 11, x_ldi 1, x_call MO_bits 1, x_isub, x_lda 0, x_calv MO_each 1 11, x_iceq 1, x_ic 0, x_rz]
def k_MO_isLawful_1 : List AI := [x_ic 0, x_s1i 2, x_fall 2]
def k_MO_isLawful_2 : List AI := [x_ldi 2, x_lda 0, x_calv MO_seats 1 11, x_icge 4, x_lda 0, x_ldi 2, x_calv MO_isFixed 2 11, x_ifeq 3, x_ldi 1, x_ldi 2, x_ishr, x_ic 1, x_iand, x_lda 0, x_ga 32 11, x_ic 12, x_ldi 2, x_iadd, x_ali, x_ic 1, x_isub, x_iceq 3, x_ic 0, x_rz]
def k_MO_isLawful_3 : List AI := [x_inc 2 1, x_go 2]
def k_MO_isLawful_4 : List AI := [x_ic 1, x_rz]
def kb_MO_isLawful : List (List AI) := [k_MO_isLawful_0, k_MO_isLawful_1, k_MO_isLawful_2, k_MO_isLawful_3, k_MO_isLawful_4]
def k_MO_fixedMany_0 : List AI := [x_ic 0, x_s1i 1, x_ic 0, x_s1i 2, x_fall 1]
def k_MO_fixedMany_1 : List AI := [x_ldi 2, x_lda 0, x_calv MO_seats 1 11, x_icge 3, x_lda 0, x_ldi 2, x_calv MO_isFixed 2 11, x_ifeq 2, x_inc 1 1, x_fall 2]
def k_MO_fixedMany_2 : List AI := [x_inc 2 1, x_go 1]
def k_MO_fixedMany_3 : List AI := [x_ldi 1, x_ri]
def kb_MO_fixedMany : List (List AI) := [k_MO_fixedMany_0, k_MO_fixedMany_1, k_MO_fixedMany_2, k_MO_fixedMany_3]
def k_MO_wants_0 : List AI := [x_ic 0, x_s1i 1, x_ic 0, x_s1i 2, x_fall 1]
def k_MO_wants_1 : List AI := [x_ldi 2, x_ic 4, x_icge 3, x_lda 0, x_ldi 2, x_calv MO_isWantedOf 2 11, x_ifeq 2, x_inc 1 1, x_fall 2]
def k_MO_wants_2 : List AI := [x_inc 2 1, x_go 1]
def k_MO_wants_3 : List AI := [x_ldi 1, x_ri]
def kb_MO_wants : List (List AI) := [k_MO_wants_0, k_MO_wants_1, k_MO_wants_2, k_MO_wants_3]
def k_MO_boat_0 : List AI := [x_ldi 1, x_sw 12 [(0, 1), (1, 2), (2, 3), (3, 4), (4, 5), (5, 6), (6, 7), (7, 8), (8, 9), (9, 10), (10, 11)]]
def k_MO_boat_1 : List AI := [x_lda 0, x_calv MO_seats 1 11, x_ri]
def k_MO_boat_2 : List AI := [x_lda 0, x_calv MO_rowers 1 11, x_ri]
def k_MO_boat_3 : List AI := [x_lda 0, x_calv MO_each 1 11, x_ri]
def k_MO_boat_4 : List AI := [x_lda 0, x_calv MO_fixedMany 1 11, x_ri]
def k_MO_boat_5 : List AI := [x_lda 0, x_calv MO_wants 1 11, x_ri]
def k_MO_boat_6 : List AI := [x_lda 0, x_calv MO_near 1 11, x_ri]
def k_MO_boat_7 : List AI := [x_lda 0, x_calv MO_runs 1 11, x_ri]
def k_MO_boat_8 : List AI := [x_lda 0, x_ga 29 11, x_ic 7, x_ali, x_ri]
def k_MO_boat_9 : List AI := [x_lda 0, x_gi 47 11, x_ri]
def k_MO_boat_10 : List AI := [x_lda 0, x_gi 55 11, x_ri]
def k_MO_boat_11 : List AI := [x_lda 0, x_calv MO_seats 1 11, x_lda 0, x_gi 49 11, x_call MO_bits 1, x_isub, x_ri]
def k_MO_boat_12 : List AI := [x_ic (-1), x_ri]
def kb_MO_boat : List (List AI) := [k_MO_boat_0, k_MO_boat_1, k_MO_boat_2, k_MO_boat_3, k_MO_boat_4, k_MO_boat_5, k_MO_boat_6, k_MO_boat_7, k_MO_boat_8, k_MO_boat_9, k_MO_boat_10, k_MO_boat_11, k_MO_boat_12]
def k_MO_letter_0 : List AI := [x_lda 0, x_ldi 1, x_calv MO_isRower 2 11, x_ifeq 1, x_ldi 2, x_i2l, x_lc 0, x_lc 5, x_call MO_isIn 3, x_ifne 2, x_fall 1]
def k_MO_letter_1 : List AI := [x_ic (-1), x_ri]
def k_MO_letter_2 : List AI := [x_lda 0, x_ga 33 11, x_ic 12, x_ldi 1, x_iadd, x_all, x_s2 3, x_ic 0, x_s1i 5, x_ldl 3, x_s2 6, x_fall 3]
def k_MO_letter_3 : List AI := [x_ldl 6, x_lc 0, x_lcmp, x_ifle 4, x_inc 5 1, x_ldl 6, x_lc 27, x_ldiv, x_s2 6, x_go 3]
def k_MO_letter_4 : List AI := [x_ldi 2, x_ldi 5, x_iclt 5, x_ic 0, x_ri]
def k_MO_letter_5 : List AI := [x_ldi 5, x_ic 1, x_isub, x_s1i 6, x_fall 6]
def k_MO_letter_6 : List AI := [x_ldi 6, x_ldi 2, x_icle 7, x_ldl 3, x_lc 27, x_ldiv, x_s2 3, x_inc 6 (-1), x_go 6]
def k_MO_letter_7 : List AI := [x_ldl 3, x_lc 27, x_lrem, x_l2i, x_ri]
def kb_MO_letter : List (List AI) := [k_MO_letter_0, k_MO_letter_1, k_MO_letter_2, k_MO_letter_3, k_MO_letter_4, k_MO_letter_5, k_MO_letter_6, k_MO_letter_7]
def k_MO_seat_0 : List AI := [x_lda 0, x_ldi 1, x_calv MO_isSeat 2 11, x_ifne 1, x_ic (-1), x_ri]
def k_MO_seat_1 : List AI := [x_ldi 2, x_sw 10 [(0, 2), (1, 3), (2, 4), (3, 5), (4, 6), (5, 9)]]
def k_MO_seat_2 : List AI := [x_lda 0, x_ga 30 11, x_ic 12, x_ldi 1, x_iadd, x_ali, x_ri]
def k_MO_seat_3 : List AI := [x_lda 0, x_ga 31 11, x_ic 12, x_ldi 1, x_iadd, x_ali, x_ri]
def k_MO_seat_4 : List AI := [x_lda 0, x_ga 50 11, x_ldi 1, x_ali, x_ri]
def k_MO_seat_5 : List AI := [x_lda 0, x_gi 49 11, x_ldi 1, x_ishr, x_ic 1, x_iand, x_ri]
def k_MO_seat_6 : List AI := [x_lda 0, x_ldi 1, x_calv MO_isFixed 2 11, x_ifeq 7, x_ic 1, x_go 8]
def k_MO_seat_7 : List AI := [x_ic 0, x_fall 8]
def k_MO_seat_8 : List AI := [x_ri]
def k_MO_seat_9 : List AI := [x_lda 0, x_ldi 1, x_lda 0, x_gi 47 11, x_calv MO_pullOf 3 11, x_ri]
def k_MO_seat_10 : List AI := [x_ic (-1), x_ri]
def kb_MO_seat : List (List AI) := [k_MO_seat_0, k_MO_seat_1, k_MO_seat_2, k_MO_seat_3, k_MO_seat_4, k_MO_seat_5, k_MO_seat_6, k_MO_seat_7, k_MO_seat_8, k_MO_seat_9, k_MO_seat_10]
def k_MO_seatOf_0 : List AI := [x_ic 0, x_s1i 2, x_fall 1]
def k_MO_seatOf_1 : List AI := [x_ldi 2, x_lda 0, x_calv MO_seats 1 11, x_icge 3, x_lda 0, x_ga 50 11, x_ldi 2, x_ali, x_ldi 1, x_icne 2, x_ldi 2, x_ri]
def k_MO_seatOf_2 : List AI := [x_inc 2 1, x_go 1]
def k_MO_seatOf_3 : List AI := [x_ic (-1), x_ri]
def kb_MO_seatOf : List (List AI) := [k_MO_seatOf_0, k_MO_seatOf_1, k_MO_seatOf_2, k_MO_seatOf_3]
def k_MO_rower_0 : List AI := [x_lda 0, x_ldi 1, x_calv MO_isRower 2 11, x_ifne 1, x_ic (-1), x_ri]
def k_MO_rower_1 : List AI := [x_ldi 2, x_sw 6 [(0, 2), (1, 3), (2, 4), (3, 5)]]
def k_MO_rower_2 : List AI := [x_lda 0, x_ga 34 11, x_ic 12, x_ldi 1, x_iadd, x_ali, x_ri]
def k_MO_rower_3 : List AI := [x_lda 0, x_ga 35 11, x_ic 12, x_ldi 1, x_iadd, x_ali, x_ri]
def k_MO_rower_4 : List AI := [x_lda 0, x_ldi 1, x_lda 0, x_gi 47 11, x_calv MO_strengthAt 3 11, x_ri]
def k_MO_rower_5 : List AI := [x_lda 0, x_ldi 1, x_calv MO_seatOf 2 11, x_ri]
def k_MO_rower_6 : List AI := [x_ic (-1), x_ri]
def kb_MO_rower : List (List AI) := [k_MO_rower_0, k_MO_rower_1, k_MO_rower_2, k_MO_rower_3, k_MO_rower_4, k_MO_rower_5, k_MO_rower_6]
def k_MO_isPower_0 : List AI := [x_ldi 0, x_i2l, x_lc 0, x_lc 3, x_call MO_isIn 3, x_rz]
def kb_MO_isPower : List (List AI) := [k_MO_isPower_0]
def k_MO_want_0 : List AI := [x_ldi 1, x_call MO_isPower 1, x_ifeq 1, x_lda 0, x_ldi 1, x_calv MO_isWantedOf 2 11, x_ifeq 1, x_lda 0, x_ga 39 11, x_ic 4, x_ldi 1, x_iadd, x_ali, x_i2l, x_go 2]
def k_MO_want_1 : List AI := [x_lc (-1000000000000000), x_fall 2]
def k_MO_want_2 : List AI := [x_rl]
def kb_MO_want : List (List AI) := [k_MO_want_0, k_MO_want_1, k_MO_want_2]
def k_MO_swing_0 : List AI := [x_ldi 1, x_call MO_isPower 1, x_ifeq 1, x_ldi 2, x_i2l, x_lc 0, x_lc 9999, x_call MO_isIn 3, x_ifeq 1, x_lda 0, x_ldi 1, x_lda 0, x_gi 49 11, x_ldi 2, x_calv MO_swingBy 4 11, x_go 2]
def k_MO_swing_1 : List AI := [x_lc (-1000000000000000), x_fall 2]
def k_MO_swing_2 : List AI := [x_rl]
def kb_MO_swing : List (List AI) := [k_MO_swing_0, k_MO_swing_1, k_MO_swing_2]
def k_MO_off_0 : List AI := [x_lda 0, x_lda 0, x_gi 49 11, x_calv MO_offBy 2 11, x_rl]
def kb_MO_off : List (List AI) := [k_MO_off_0]
def k_MO_good_0 : List AI := [x_lda 0, x_lda 0, x_gi 49 11, x_calv MO_isGood 2 11, x_ifeq 1, x_ic 1, x_go 2]
def k_MO_good_1 : List AI := [x_ic 0, x_fall 2]
def k_MO_good_2 : List AI := [x_ri]
def kb_MO_good : List (List AI) := [k_MO_good_0, k_MO_good_1, k_MO_good_2]
def k_MO_lawful_0 : List AI := [x_lda 0, x_lda 0, x_gi 49 11, x_calv MO_isLawful 2 11, x_ifeq 1, x_ic 1, x_go 2]
def k_MO_lawful_1 : List AI := [x_ic 0, x_fall 2]
def k_MO_lawful_2 : List AI := [x_ri]
def kb_MO_lawful : List (List AI) := [k_MO_lawful_0, k_MO_lawful_1, k_MO_lawful_2]
def k_MO_heading_0 : List AI := [x_lda 0, x_gl 48 11, x_rl]
def kb_MO_heading : List (List AI) := [k_MO_heading_0]
def k_MO_keeps_0 : List AI := [x_lda 0, x_lda 0, x_gi 56 11, x_ic 1, x_iadd, x_ic 30, x_irem, x_pi 56 11, x_lda 0, x_ga 51 11, x_lda 0, x_gi 56 11, x_lda 0, x_gi 47 11, x_asi, x_lda 0, x_ga 52 11, x_lda 0, x_gi 56 11, x_lda 0, x_gl 48 11, x_asl, x_lda 0, x_ga 53 11, x_lda 0, x_gi 56 11, x_lda 0, x_gi 49 11, x_asi, x_ic 0, x_s1i 1, x_fall 1]
def k_MO_keeps_1 : List AI := [x_ldi 1, x_ic 12, x_icge 2, x_lda 0, x_ga 54 11, x_ic 12, x_lda 0, x_gi 56 11, x_imul, x_ldi 1, x_iadd, x_lda 0, x_ga 50 11, x_ldi 1, x_ali, x_asi, x_inc 1 1, x_go 1]
def k_MO_keeps_2 : List AI := [x_lda 0, x_gi 55 11, x_ic 30, x_icge 3, x_lda 0, x_dup, x_gi 55 11, x_ic 1, x_iadd, x_pi 55 11, x_fall 3]
def k_MO_keeps_3 : List AI := [x_ret]
def kb_MO_keeps : List (List AI) := [k_MO_keeps_0, k_MO_keeps_1, k_MO_keeps_2, k_MO_keeps_3]
def k_MO_undo_0 : List AI := [x_lda 0, x_gi 55 11, x_ifne 1, x_lda 0, x_ga 9 11, x_ic 3, x_dup2, x_ali, x_ic 1, x_iadd, x_asi, x_ic 0, x_rz]
def k_MO_undo_1 : List AI := [x_lda 0, x_lda 0, x_ga 51 11, x_lda 0, x_gi 56 11, x_ali, x_pi 47 11, x_lda 0, x_lda 0, x_ga 52 11, x_lda 0, x_gi 56 11, x_all, x_pl 48 11, x_lda 0, x_lda 0, x_ga 53 11, x_lda 0, x_gi 56 11, x_ali, x_pi 49 11, x_ic 0, x_s1i 1, x_fall 2]
def k_MO_undo_2 : List AI := [x_ldi 1, x_ic 12, x_icge 3, x_lda 0, x_ga 50 11, x_ldi 1, x_lda 0, x_ga 54 11, x_ic 12, x_lda 0, x_gi 56 11, x_imul, x_ldi 1, x_iadd, x_ali, x_asi, x_inc 1 1, x_go 2]
def k_MO_undo_3 : List AI := [x_lda 0, x_lda 0, x_gi 56 11, x_ic 30, x_iadd, x_ic 1, x_isub, x_ic 30, x_irem, x_pi 56 11, x_lda 0, x_dup, x_gi 55 11, x_ic 1, x_isub, x_pi 55 11, x_ic 1, x_rz]
def kb_MO_undo : List (List AI) := [k_MO_undo_0, k_MO_undo_1, k_MO_undo_2, k_MO_undo_3]
def k_MO_turn_0 : List AI := [x_lda 0, x_ldi 1, x_calv MO_isSeat 2 11, x_ifeq 1, x_lda 0, x_ldi 1, x_calv MO_isFixed 2 11, x_ifeq 2, x_fall 1]
def k_MO_turn_1 : List AI := [x_lda 0, x_ga 9 11, x_ic 2, x_dup2, x_ali, x_ic 1, x_iadd, x_asi, x_ic 0, x_rz]
def k_MO_turn_2 : List AI := [x_lda 0, x_calv0 MO_keeps 1 11, x_lda 0, x_dup, x_gi 49 11, x_ic 1, x_ldi 1, x_ishl, x_ixor, x_pi 49 11, x_ic 1, x_rz]
def kb_MO_turn : List (List AI) := [k_MO_turn_0, k_MO_turn_1, k_MO_turn_2]
def k_MO_changesSeats_0 : List AI := [x_lda 0, x_ga 50 11, x_ldi 1, x_ali, x_s1i 3, x_lda 0, x_ga 50 11, x_ldi 1, x_lda 0, x_ga 50 11, x_ldi 2, x_ali, x_asi, x_lda 0, x_ga 50 11, x_ldi 2, x_ldi 3, x_asi, x_ret]
def kb_MO_changesSeats : List (List AI) := [k_MO_changesSeats_0]
def k_MO_canSwap_0 : List AI := [x_lda 0, x_ldi 1, x_calv MO_isSeat 2 11, x_ifeq 2, x_lda 0, x_ldi 2, x_calv MO_isSeat 2 11, x_ifeq 2, x_ldi 1, x_ldi 2, x_iceq 2, x_lda 0, x_ga 50 11, x_ldi 1, x_ali, x_ic (-1), x_icne 1, x_lda 0, x_ga 50 11, x_ldi 2, x_ali, x_ic (-1), x_iceq 2, x_fall 1]
def k_MO_canSwap_1 : List AI := [x_ic 1, x_go 3]
def k_MO_canSwap_2 : List AI := [x_ic 0, x_fall 3]
def k_MO_canSwap_3 : List AI := [x_rz]
def kb_MO_canSwap : List (List AI) := [k_MO_canSwap_0, k_MO_canSwap_1, k_MO_canSwap_2, k_MO_canSwap_3]
def k_MO_swap_0 : List AI := [x_lda 0, x_ldi 1, x_ldi 2, x_calv MO_canSwap 3 11, x_ifne 1, x_lda 0, x_ga 9 11, x_ic 2, x_dup2, x_ali, x_ic 1, x_iadd, x_asi, x_ic 0, x_rz]
def k_MO_swap_1 : List AI := [x_lda 0, x_calv0 MO_keeps 1 11, x_lda 0, x_ldi 1, x_ldi 2, x_calv0 MO_changesSeats 3 11, x_ic 1, x_rz]
def kb_MO_swap : List (List AI) := [k_MO_swap_0, k_MO_swap_1]
def k_MO_canGo_0 : List AI := [x_ldi 1, x_i2l, x_lc 1, x_lc 200, x_call MO_isIn 3, x_ifeq 1, x_lda 0, x_gi 47 11, x_ldi 1, x_iadd, x_ic 9999, x_icgt 1, x_ic 1, x_go 2]
def k_MO_canGo_1 : List AI := [x_ic 0, x_fall 2]
def k_MO_canGo_2 : List AI := [x_rz]
def kb_MO_canGo : List (List AI) := [k_MO_canGo_0, k_MO_canGo_1, k_MO_canGo_2]
def k_MO_stroke_0 : List AI := [x_lda 0, x_ldi 1, x_calv MO_canGo 2 11, x_ifne 1, x_lda 0, x_ga 9 11, x_ic 2, x_dup2, x_ali, x_ic 1, x_iadd, x_asi, x_ic (-1), x_ri]
def k_MO_stroke_1 : List AI := [x_lda 0, x_calv0 MO_keeps 1 11, x_lda 0, x_dup, x_gi 47 11, x_ldi 1, x_iadd, x_pi 47 11, x_lda 0, x_gi 47 11, x_ri]
def kb_MO_stroke : List (List AI) := [k_MO_stroke_0, k_MO_stroke_1]
def k_MO_seed_0 : List AI := [x_ldi 1, x_ifge 1, x_lda 0, x_ga 9 11, x_ic 4, x_dup2, x_ali, x_ic 1, x_iadd, x_asi, x_ic 0, x_rz]
def k_MO_seed_1 : List AI := [x_lda 0, x_ldi 1, x_i2l, x_pl 57 11, x_ic 1, x_rz]
def kb_MO_seed : List (List AI) := [k_MO_seed_0, k_MO_seed_1]
def k_MO_drawOf_0 : List AI := [x_lda 0, x_lc 1103515245, x_lda 0, x_gl 57 11, x_lmul, x_lc 12345, x_ladd, x_lc 2147483648, x_lrem, x_pl 57 11, x_lda 0, x_gl 57 11, x_lc 64, x_ldiv, x_ldi 1, x_i2l, x_lrem, x_l2i, x_ri]
def kb_MO_drawOf : List (List AI) := [k_MO_drawOf_0]
def k_MO_rows_0 : List AI := [x_lda 0, x_dup, x_gi 47 11, x_ic 1, x_iadd, x_pi 47 11, x_ic 0, x_s1i 1, x_fall 1]
def k_MO_rows_1 : List AI := [x_ldi 1, x_lda 0, x_calv MO_seats 1 11, x_icge 8, x_lda 0, x_ga 50 11, x_ldi 1, x_ali, x_ic (-1), x_icne 2, x_go 7]
def k_MO_rows_2 : List AI := [x_lda 0, x_lda 0, x_ga 50 11, x_ldi 1, x_ali, x_lda 0, x_gi 47 11, x_calv MO_strengthAt 3 11, x_lda 0, x_ic 3, x_calv MO_drawOf 2 11, x_iadd, x_ic 1, x_isub, x_s1i 2, x_ldi 2, x_ifge 3, x_lc 0, x_go 4]
def k_MO_rows_3 : List AI := [x_ldi 2, x_i2l, x_fall 4]
def k_MO_rows_4 : List AI := [x_lda 0, x_ga 31 11, x_ic 12, x_ldi 1, x_iadd, x_ali, x_i2l, x_lmul, x_lda 0, x_ga 30 11, x_ic 12, x_ldi 1, x_iadd, x_ali, x_i2l, x_lmul, x_s2 3, x_lda 0, x_dup, x_gl 48 11, x_lda 0, x_gi 49 11, x_ldi 1, x_ishr, x_ic 1, x_iand, x_ic 1, x_icne 5, x_ldl 3, x_go 6]
def k_MO_rows_5 : List AI := [x_ldl 3, x_lneg, x_fall 6]
def k_MO_rows_6 : List AI := [x_ladd, x_pl 48 11, x_fall 7]
def k_MO_rows_7 : List AI := [x_inc 1 1, x_go 1]
def k_MO_rows_8 : List AI := [x_ret]
def kb_MO_rows : List (List AI) := [k_MO_rows_0, k_MO_rows_1, k_MO_rows_2, k_MO_rows_3, k_MO_rows_4, k_MO_rows_5, k_MO_rows_6, k_MO_rows_7, k_MO_rows_8]
def k_MO_row_0 : List AI := [x_lda 0, x_ldi 1, x_calv MO_canGo 2 11, x_ifne 1, x_lda 0, x_ga 9 11, x_ic 2, x_dup2, x_ali, x_ic 1, x_iadd, x_asi, x_lc (-1000000000000000), x_rl]
def k_MO_row_1 : List AI := [x_lda 0, x_calv0 MO_keeps 1 11, x_ic 0, x_s1i 2, x_fall 2]
def k_MO_row_2 : List AI := [x_ldi 2, x_ldi 1, x_icge 3, x_lda 0, x_calv0 MO_rows 1 11, x_inc 2 1, x_go 2]
def k_MO_row_3 : List AI := [x_lda 0, x_gl 48 11, x_rl]
def kb_MO_row : List (List AI) := [k_MO_row_0, k_MO_row_1, k_MO_row_2, k_MO_row_3]
def k_MO_ways_0 : List AI := [x_ldi 1, x_i2l, x_lc 1, x_lc 40, x_call MO_isIn 3, x_ifne 1, x_lc (-1), x_rl]
def k_MO_ways_1 : List AI := [x_ldi 1, x_ldi 1, x_ic 1, x_iadd, x_imul, x_ic 2, x_idiv, x_s1i 2, x_ldi 1, x_ic 2, x_irem, x_ic 1, x_iceq 2, x_ldi 2, x_ic 2, x_irem, x_ic 1, x_icne 3, x_fall 2]
def k_MO_ways_2 : List AI := [x_lc 0, x_rl]
def k_MO_ways_3 : List AI := [x_ldi 2, x_ic 2, x_idiv, x_s1i 3, x_ic 0, x_s1i 4, x_fall 4]
def k_MO_ways_4 : List AI := [x_ldi 4, x_ic 8631, x_icge 5, x_lda 0, x_ga 58 11, x_ldi 4, x_lc 0, x_asl, x_inc 4 1, x_go 4]
def k_MO_ways_5 : List AI := [x_lda 0, x_ga 58 11, x_ic 0, x_lc 1, x_asl, x_ic 1, x_s1i 4, x_fall 6]
def k_MO_ways_6 : List AI := [x_ldi 4, x_ldi 1, x_icgt 11, x_ldi 1, x_ic 2, x_idiv, x_s1i 5, x_fall 7]
def k_MO_ways_7 : List AI := [x_ldi 5, x_ifle 10, x_ldi 3, x_s1i 6, x_fall 8]
def k_MO_ways_8 : List AI := [x_ldi 6, x_ldi 4, x_iclt 9, x_lda 0, x_ga 58 11, x_ic 411, x_ldi 5, x_imul, x_ldi 6, x_iadd, x_dup2, x_all, x_lda 0, x_ga 58 11, x_ic 411, x_ldi 5, x_ic 1, x_isub, x_imul, x_ldi 6, x_iadd, x_ldi 4, x_isub, x_all, x_ladd, x_asl, x_inc 6 (-1), x_go 8]
def k_MO_ways_9 : List AI := [x_inc 5 (-1), x_go 7]
def k_MO_ways_10 : List AI := [x_inc 4 1, x_go 6]
def k_MO_ways_11 : List AI := [x_lda 0, x_ga 58 11, x_ic 411, x_ldi 1, x_ic 2, x_idiv, x_imul, x_ldi 3, x_iadd, x_all, x_rl]
def kb_MO_ways : List (List AI) := [k_MO_ways_0, k_MO_ways_1, k_MO_ways_2, k_MO_ways_3, k_MO_ways_4, k_MO_ways_5, k_MO_ways_6, k_MO_ways_7, k_MO_ways_8, k_MO_ways_9, k_MO_ways_10, k_MO_ways_11]
def k_MO_sumBy_0 : List AI := [x_lc 0, x_s2 3, x_ic 0, x_s1i 5, x_fall 1]
def k_MO_sumBy_1 : List AI := [x_ldi 5, x_ldi 0, x_icge 4, x_ldl 3, x_ldi 1, x_ldi 5, x_ishr, x_ic 1, x_iand, x_ic 1, x_icne 2, x_ldi 5, x_ic 1, x_iadd, x_ldi 2, x_call MO_raised 2, x_go 3]
def k_MO_sumBy_2 : List AI := [x_ldi 5, x_ic 1, x_iadd, x_ldi 2, x_call MO_raised 2, x_lneg, x_fall 3]
def k_MO_sumBy_3 : List AI := [x_ladd, x_s2 3, x_inc 5 1, x_go 1]
def k_MO_sumBy_4 : List AI := [x_ldl 3, x_rl]
def kb_MO_sumBy : List (List AI) := [k_MO_sumBy_0, k_MO_sumBy_1, k_MO_sumBy_2, k_MO_sumBy_3, k_MO_sumBy_4]
def k_MO_made_0 : List AI := [x_ldi 1, x_i2l, x_lc 1, x_lc 16, x_call MO_isIn 3, x_ifeq 1, x_ldi 2, x_ifge 2, x_fall 1]
def k_MO_made_1 : List AI := [x_ic (-1), x_ri]
def k_MO_made_2 : List AI := [x_ic 0, x_s1i 3, x_ic 0, x_s1i 4, x_fall 3]
def k_MO_made_3 : List AI := [x_ldi 4, x_ic 1, x_ldi 1, x_ishl, x_icge 7, x_ldi 1, x_ldi 4, x_ic 0, x_call MO_sumBy 3, x_lc 0, x_lcmp, x_ifne 6, x_ldi 1, x_ldi 4, x_ic 1, x_call MO_sumBy 3, x_lc 0, x_lcmp, x_ifeq 4, x_go 6]
def k_MO_made_4 : List AI := [x_ldi 3, x_ldi 2, x_icne 5, x_ldi 4, x_ri]
def k_MO_made_5 : List AI := [x_inc 3 1, x_fall 6]
def k_MO_made_6 : List AI := [x_inc 4 1, x_go 3]
def k_MO_made_7 : List AI := [x_ic (-1), x_ri]
def kb_MO_made : List (List AI) := [k_MO_made_0, k_MO_made_1, k_MO_made_2, k_MO_made_3, k_MO_made_4, k_MO_made_5, k_MO_made_6, k_MO_made_7]
def k_MO_doubled_0 : List AI := [x_ldi 1, x_i2l, x_lc 1, x_lc 10, x_call MO_isIn 3, x_ifeq 1, x_ldi 2, x_i2l, x_lc 0, x_lc 5, x_call MO_isIn 3, x_ifne 2, x_fall 1]
def k_MO_doubled_1 : List AI := [x_lc (-1000000000000000), x_rl]
def k_MO_doubled_2 : List AI := [x_lc 0, x_s2 3, x_ic 0, x_s1i 5, x_fall 3]
def k_MO_doubled_3 : List AI := [x_ldi 5, x_ic 1, x_ldi 1, x_ishl, x_icge 6, x_ldl 3, x_ldi 5, x_call MO_bits 1, x_ic 2, x_irem, x_ic 1, x_icne 4, x_ldi 5, x_ic 1, x_iadd, x_ldi 2, x_call MO_raised 2, x_go 5]
def k_MO_doubled_4 : List AI := [x_ldi 5, x_ic 1, x_iadd, x_ldi 2, x_call MO_raised 2, x_lneg, x_fall 5]
def k_MO_doubled_5 : List AI := [x_ladd, x_s2 3, x_inc 5 1, x_go 3]
def k_MO_doubled_6 : List AI := [x_ldl 3, x_rl]
def kb_MO_doubled : List (List AI) := [k_MO_doubled_0, k_MO_doubled_1, k_MO_doubled_2, k_MO_doubled_3, k_MO_doubled_4, k_MO_doubled_5, k_MO_doubled_6]
def k_MO_still_0 : List AI := [x_ldi 1, x_i2l, x_lc 1, x_lc 16, x_call MO_isIn 3, x_ifeq 1, x_ldi 2, x_i2l, x_lc 0, x_ic 1, x_ldi 1, x_ishl, x_ic 1, x_isub, x_i2l, x_call MO_isIn 3, x_ifne 2, x_fall 1]
def k_MO_still_1 : List AI := [x_ic (-1), x_ri]
def k_MO_still_2 : List AI := [x_ic 0, x_s1i 3, x_fall 3]
def k_MO_still_3 : List AI := [x_ldi 3, x_ic 5, x_icgt 4, x_ldi 1, x_ldi 2, x_ldi 3, x_call MO_sumBy 3, x_lc 0, x_lcmp, x_ifne 4, x_inc 3 1, x_go 3]
def k_MO_still_4 : List AI := [x_ldi 3, x_ic 1, x_isub, x_ri]
def kb_MO_still : List (List AI) := [k_MO_still_0, k_MO_still_1, k_MO_still_2, k_MO_still_3, k_MO_still_4]
def k_MO_isNearest_0 : List AI := [x_lda 0, x_ic (-1), x_pi 59 11, x_ic 0, x_s1i 1, x_fall 1]
def k_MO_isNearest_1 : List AI := [x_ldi 1, x_ic 1, x_lda 0, x_calv MO_seats 1 11, x_ishl, x_icge 5, x_lda 0, x_ldi 1, x_calv MO_isLawful 2 11, x_ifne 2, x_go 4]
def k_MO_isNearest_2 : List AI := [x_lda 0, x_ldi 1, x_calv MO_offBy 2 11, x_s2 2, x_lda 0, x_gi 59 11, x_ic (-1), x_iceq 3, x_ldl 2, x_lda 0, x_gl 60 11, x_lcmp, x_iflt 3, x_go 4]
def k_MO_isNearest_3 : List AI := [x_lda 0, x_ldi 1, x_pi 59 11, x_lda 0, x_ldl 2, x_pl 60 11, x_fall 4]
def k_MO_isNearest_4 : List AI := [x_inc 1 1, x_go 1]
def k_MO_isNearest_5 : List AI := [x_lda 0, x_gi 59 11, x_ic (-1), x_iceq 6, x_ic 1, x_go 7]
def k_MO_isNearest_6 : List AI := [x_ic 0, x_fall 7]
def k_MO_isNearest_7 : List AI := [x_rz]
def kb_MO_isNearest : List (List AI) := [k_MO_isNearest_0, k_MO_isNearest_1, k_MO_isNearest_2, k_MO_isNearest_3, k_MO_isNearest_4, k_MO_isNearest_5, k_MO_isNearest_6, k_MO_isNearest_7]
def k_MO_nearest_0 : List AI := [x_ldi 1, x_i2l, x_lc 0, x_lc 2, x_call MO_isIn 3, x_ifeq 1, x_lda 0, x_calv MO_isNearest 1 11, x_ifne 2, x_fall 1]
def k_MO_nearest_1 : List AI := [x_lc (-1), x_rl]
def k_MO_nearest_2 : List AI := [x_ldi 1, x_ic 2, x_icge 5, x_ldi 1, x_ifne 3, x_lda 0, x_gl 60 11, x_go 4]
def k_MO_nearest_3 : List AI := [x_lda 0, x_gi 59 11, x_i2l, x_fall 4]
def k_MO_nearest_4 : List AI := [x_rl]
def k_MO_nearest_5 : List AI := [x_ic 0, x_s1i 2, x_ic 0, x_s1i 3, x_fall 6]
def k_MO_nearest_6 : List AI := [x_ldi 3, x_ic 1, x_lda 0, x_calv MO_seats 1 11, x_ishl, x_icge 8, x_lda 0, x_ldi 3, x_calv MO_isLawful 2 11, x_ifeq 7, x_lda 0, x_ldi 3, x_calv MO_isGood 2 11, x_ifeq 7, x_inc 2 1, x_fall 7]
def k_MO_nearest_7 : List AI := [x_inc 3 1, x_go 6]
def k_MO_nearest_8 : List AI := [x_ldi 2, x_i2l, x_rl]
def kb_MO_nearest : List (List AI) := [k_MO_nearest_0, k_MO_nearest_1, k_MO_nearest_2, k_MO_nearest_3, k_MO_nearest_4, k_MO_nearest_5, k_MO_nearest_6, k_MO_nearest_7, k_MO_nearest_8]
def k_MO_putsAside_0 : List AI := [x_ic 0, x_s1i 1, x_fall 1]
def k_MO_putsAside_1 : List AI := [x_ldi 1, x_ic 12, x_icge 2, x_lda 0, x_ga 61 11, x_ldi 1, x_lda 0, x_ga 50 11, x_ldi 1, x_ali, x_asi, x_inc 1 1, x_go 1]
def k_MO_putsAside_2 : List AI := [x_ret]
def kb_MO_putsAside : List (List AI) := [k_MO_putsAside_0, k_MO_putsAside_1, k_MO_putsAside_2]
def k_MO_takesBack_0 : List AI := [x_ic 0, x_s1i 1, x_fall 1]
def k_MO_takesBack_1 : List AI := [x_ldi 1, x_ic 12, x_icge 2, x_lda 0, x_ga 50 11, x_ldi 1, x_lda 0, x_ga 61 11, x_ldi 1, x_ali, x_asi, x_inc 1 1, x_go 1]
def k_MO_takesBack_2 : List AI := [x_ret]
def kb_MO_takesBack : List (List AI) := [k_MO_takesBack_0, k_MO_takesBack_1, k_MO_takesBack_2]
def k_MO_sitBy_0 : List AI := [x_ldi 1, x_s1i 2, x_ic 0, x_s1i 3, x_lda 0, x_calv MO_rowers 1 11, x_ic 1, x_isub, x_s1i 4, x_fall 1]
def k_MO_sitBy_1 : List AI := [x_ldi 4, x_iflt 2, x_lda 0, x_ga 50 11, x_ldi 4, x_ldi 2, x_lda 0, x_calv MO_rowers 1 11, x_irem, x_asi, x_ldi 2, x_lda 0, x_calv MO_rowers 1 11, x_idiv, x_s1i 2, x_ldi 3, x_ic 1, x_lda 0, x_ga 50 11, x_ldi 4, x_ali, x_ishl, x_ior, x_s1i 3, x_inc 4 (-1), x_go 1]
def k_MO_sitBy_2 : List AI := [x_ldi 3, x_ic 1, x_lda 0, x_calv MO_rowers 1 11, x_ishl, x_ic 1, x_isub, x_icne 3, x_ic 1, x_go 4]
def k_MO_sitBy_3 : List AI := [x_ic 0, x_fall 4]
def k_MO_sitBy_4 : List AI := [x_rz]
def kb_MO_sitBy : List (List AI) := [k_MO_sitBy_0, k_MO_sitBy_1, k_MO_sitBy_2, k_MO_sitBy_3, k_MO_sitBy_4]
def k_MO_seated_0 : List AI := [x_lda 0, x_calv MO_seats 1 11, x_s1i 2, x_ldi 2, x_lda 0, x_calv MO_rowers 1 11, x_icne 1, x_ldi 2, x_ic 5, x_icgt 1, x_ldi 1, x_i2l, x_lc (-1), x_ldi 2, x_ic 1, x_isub, x_i2l, x_call MO_isIn 3, x_ifne 2, x_ldi 1, x_ic 20, x_iceq 2, x_fall 1]
def k_MO_seated_1 : List AI := [x_lc (-1), x_rl]
def k_MO_seated_2 : List AI := [x_ic 1, x_s1i 3, x_ic 0, x_s1i 4, x_fall 3]
def k_MO_seated_3 : List AI := [x_ldi 4, x_ldi 2, x_icge 4, x_ldi 3, x_ldi 2, x_imul, x_s1i 3, x_inc 4 1, x_go 3]
def k_MO_seated_4 : List AI := [x_ic (-1), x_s1i 4, x_lc 0, x_s2 5, x_lda 0, x_calv0 MO_putsAside 1 11, x_ic 0, x_s1i 7, x_fall 5]
def k_MO_seated_5 : List AI := [x_ldi 7, x_ldi 3, x_icge 9, x_lda 0, x_ldi 7, x_calv MO_sitBy 2 11, x_ifeq 8, x_lda 0, x_calv MO_isNearest 1 11, x_ifeq 8, x_ldi 4, x_ic (-1), x_iceq 6, x_lda 0, x_gl 60 11, x_ldl 5, x_lcmp, x_iflt 6, x_go 8]
def k_MO_seated_6 : List AI := [x_lda 0, x_gi 59 11, x_s1i 4, x_lda 0, x_gl 60 11, x_s2 5, x_ic 0, x_s1i 8, x_fall 7]
def k_MO_seated_7 : List AI := [x_ldi 8, x_ldi 2, x_icge 8, x_lda 0, x_ga 62 11, x_ldi 8, x_lda 0, x_ga 50 11, x_ldi 8, x_ali, x_asi, x_inc 8 1, x_go 7]
def k_MO_seated_8 : List AI := [x_inc 7 1, x_go 5]
def k_MO_seated_9 : List AI := [x_lda 0, x_calv0 MO_takesBack 1 11, x_ldi 4, x_ic (-1), x_icne 10, x_lc (-1), x_go 13]
def k_MO_seated_10 : List AI := [x_ldi 1, x_ic (-1), x_icne 11, x_ldl 5, x_go 13]
def k_MO_seated_11 : List AI := [x_ldi 1, x_ic 20, x_icne 12, x_ldi 4, x_i2l, x_go 13]
def k_MO_seated_12 : List AI := [x_lda 0, x_ga 62 11, x_ldi 1, x_ali, x_i2l, x_fall 13]
def k_MO_seated_13 : List AI := [x_rl]
def kb_MO_seated : List (List AI) := [k_MO_seated_0, k_MO_seated_1, k_MO_seated_2, k_MO_seated_3, k_MO_seated_4, k_MO_seated_5, k_MO_seated_6, k_MO_seated_7, k_MO_seated_8, k_MO_seated_9, k_MO_seated_10, k_MO_seated_11, k_MO_seated_12, k_MO_seated_13]
def k_MO_actMany_0 : List AI := [x_lda 0, x_calv MO_seats 1 11, x_lda 0, x_calv MO_seats 1 11, x_lda 0, x_calv MO_seats 1 11, x_imul, x_iadd, x_ri]
def kb_MO_actMany : List (List AI) := [k_MO_actMany_0]
def k_MO_acts_0 : List AI := [x_lda 0, x_calv MO_seats 1 11, x_s1i 2, x_ldi 1, x_ldi 2, x_icge 2, x_lda 0, x_ldi 1, x_calv MO_isFixed 2 11, x_ifeq 1, x_ic 0, x_rz]
def k_MO_acts_1 : List AI := [x_lda 0, x_dup, x_gi 49 11, x_ic 1, x_ldi 1, x_ishl, x_ixor, x_pi 49 11, x_ic 1, x_rz]
def k_MO_acts_2 : List AI := [x_ldi 1, x_ldi 2, x_isub, x_ldi 2, x_idiv, x_s1i 3, x_ldi 1, x_ldi 2, x_isub, x_ldi 2, x_irem, x_s1i 4, x_ldi 3, x_ldi 4, x_icge 3, x_lda 0, x_ldi 3, x_ldi 4, x_calv MO_canSwap 3 11, x_ifne 4, x_fall 3]
def k_MO_acts_3 : List AI := [x_ic 0, x_rz]
def k_MO_acts_4 : List AI := [x_lda 0, x_ldi 3, x_ldi 4, x_calv0 MO_changesSeats 3 11, x_ic 1, x_rz]
def kb_MO_acts : List (List AI) := [k_MO_acts_0, k_MO_acts_1, k_MO_acts_2, k_MO_acts_3, k_MO_acts_4]
def k_MO_isRight_0 : List AI := [x_lda 0, x_lda 0, x_gi 49 11, x_calv MO_isLawful 2 11, x_ifeq 1, x_lda 0, x_lda 0, x_gi 49 11, x_calv MO_isGood 2 11, x_ifeq 1, x_ic 1, x_go 2]
def k_MO_isRight_1 : List AI := [x_ic 0, x_fall 2]
def k_MO_isRight_2 : List AI := [x_rz]
def kb_MO_isRight : List (List AI) := [k_MO_isRight_0, k_MO_isRight_1, k_MO_isRight_2]
def k_MO_isOneOff_0 : List AI := [x_ic 0, x_s1i 1, x_fall 1]
def k_MO_isOneOff_1 : List AI := [x_ldi 1, x_lda 0, x_calv MO_actMany 1 11, x_icge 4, x_lda 0, x_ldi 1, x_calv MO_acts 2 11, x_ifne 2, x_go 3]
def k_MO_isOneOff_2 : List AI := [x_lda 0, x_calv MO_isRight 1 11, x_s1i 2, x_lda 0, x_ldi 1, x_calv MO_acts 2 11, x_s1i 3, x_ldi 2, x_ifeq 3, x_ic 1, x_rz]
def k_MO_isOneOff_3 : List AI := [x_inc 1 1, x_go 1]
def k_MO_isOneOff_4 : List AI := [x_ic 0, x_rz]
def kb_MO_isOneOff : List (List AI) := [k_MO_isOneOff_0, k_MO_isOneOff_1, k_MO_isOneOff_2, k_MO_isOneOff_3, k_MO_isOneOff_4]
def k_MO_isTwoOff_0 : List AI := [x_ic 0, x_s1i 1, x_fall 1]
def k_MO_isTwoOff_1 : List AI := [x_ldi 1, x_lda 0, x_calv MO_actMany 1 11, x_icge 4, x_lda 0, x_ldi 1, x_calv MO_acts 2 11, x_ifne 2, x_go 3]
def k_MO_isTwoOff_2 : List AI := [x_lda 0, x_calv MO_isOneOff 1 11, x_s1i 2, x_lda 0, x_ldi 1, x_calv MO_acts 2 11, x_s1i 3, x_ldi 2, x_ifeq 3, x_ic 1, x_rz]
def k_MO_isTwoOff_3 : List AI := [x_inc 1 1, x_go 1]
def k_MO_isTwoOff_4 : List AI := [x_ic 0, x_rz]
def kb_MO_isTwoOff : List (List AI) := [k_MO_isTwoOff_0, k_MO_isTwoOff_1, k_MO_isTwoOff_2, k_MO_isTwoOff_3, k_MO_isTwoOff_4]
def k_MO_isThreeOff_0 : List AI := [x_ic 0, x_s1i 1, x_fall 1]
def k_MO_isThreeOff_1 : List AI := [x_ldi 1, x_lda 0, x_calv MO_actMany 1 11, x_icge 4, x_lda 0, x_ldi 1, x_calv MO_acts 2 11, x_ifne 2, x_go 3]
def k_MO_isThreeOff_2 : List AI := [x_lda 0, x_calv MO_isTwoOff 1 11, x_s1i 2, x_lda 0, x_ldi 1, x_calv MO_acts 2 11, x_s1i 3, x_ldi 2, x_ifeq 3, x_ic 1, x_rz]
def k_MO_isThreeOff_3 : List AI := [x_inc 1 1, x_go 1]
def k_MO_isThreeOff_4 : List AI := [x_ic 0, x_rz]
def kb_MO_isThreeOff : List (List AI) := [k_MO_isThreeOff_0, k_MO_isThreeOff_1, k_MO_isThreeOff_2, k_MO_isThreeOff_3, k_MO_isThreeOff_4]
def k_MO_changes_0 : List AI := [x_lda 0, x_calv MO_isRight 1 11, x_ifeq 1, x_ic 0, x_go 5]
def k_MO_changes_1 : List AI := [x_lda 0, x_calv MO_isOneOff 1 11, x_ifeq 2, x_ic 1, x_go 5]
def k_MO_changes_2 : List AI := [x_lda 0, x_calv MO_isTwoOff 1 11, x_ifeq 3, x_ic 2, x_go 5]
def k_MO_changes_3 : List AI := [x_lda 0, x_calv MO_isThreeOff 1 11, x_ifeq 4, x_ic 3, x_go 5]
def k_MO_changes_4 : List AI := [x_ic (-1), x_fall 5]
def k_MO_changes_5 : List AI := [x_ri]
def kb_MO_changes : List (List AI) := [k_MO_changes_0, k_MO_changes_1, k_MO_changes_2, k_MO_changes_3, k_MO_changes_4, k_MO_changes_5]
def k_MO_greater_0 : List AI := [x_ldl 0, x_ldl 2, x_lcmp, x_ifle 1, x_ldl 0, x_go 2]
def k_MO_greater_1 : List AI := [x_ldl 2, x_fall 2]
def k_MO_greater_2 : List AI := [x_rl]
def kb_MO_greater : List (List AI) := [k_MO_greater_0, k_MO_greater_1, k_MO_greater_2]
def k_MO_greatest_0 : List AI := [x_lc 0, x_s2 4, x_ldi 2, x_s1i 6, x_fall 1]
def k_MO_greatest_1 : List AI := [x_ldi 6, x_ldi 3, x_icgt 2, x_ldl 4, x_lda 0, x_ic 1, x_ldi 1, x_ldi 6, x_calv MO_swingBy 4 11, x_call MO_size 1, x_call MO_greater 2, x_s2 4, x_inc 6 1, x_go 1]
def k_MO_greatest_2 : List AI := [x_ldl 4, x_rl]
def kb_MO_greatest : List (List AI) := [k_MO_greatest_0, k_MO_greatest_1, k_MO_greatest_2]
def k_MO_race_0 : List AI := [x_ldi 1, x_i2l, x_lc 1, x_lc 300, x_call MO_isIn 3, x_ifeq 1, x_lda 0, x_lda 0, x_gi 49 11, x_lda 0, x_gi 47 11, x_ic 1, x_iadd, x_lda 0, x_gi 47 11, x_ldi 1, x_iadd, x_calv MO_greatest 4 11, x_go 2]
def k_MO_race_1 : List AI := [x_lc (-1), x_fall 2]
def k_MO_race_2 : List AI := [x_rl]
def kb_MO_race : List (List AI) := [k_MO_race_0, k_MO_race_1, k_MO_race_2]
def k_MO_stillest_0 : List AI := [x_ldi 1, x_i2l, x_lc 1, x_lc 300, x_call MO_isIn 3, x_ifeq 1, x_ldi 2, x_i2l, x_lc 0, x_lc 1, x_call MO_isIn 3, x_ifne 2, x_fall 1]
def k_MO_stillest_1 : List AI := [x_lc (-1), x_rl]
def k_MO_stillest_2 : List AI := [x_ic (-1), x_s1i 3, x_lc 0, x_s2 4, x_ic 0, x_s1i 6, x_fall 3]
def k_MO_stillest_3 : List AI := [x_ldi 6, x_ic 1, x_lda 0, x_calv MO_seats 1 11, x_ishl, x_icge 7, x_lda 0, x_ldi 6, x_calv MO_isLawful 2 11, x_ifne 4, x_go 6]
def k_MO_stillest_4 : List AI := [x_lda 0, x_ldi 6, x_lda 0, x_gi 47 11, x_ic 1, x_iadd, x_lda 0, x_gi 47 11, x_ldi 1, x_iadd, x_calv MO_greatest 4 11, x_s2 7, x_ldi 3, x_ic (-1), x_iceq 5, x_ldl 7, x_ldl 4, x_lcmp, x_iflt 5, x_go 6]
def k_MO_stillest_5 : List AI := [x_ldi 6, x_s1i 3, x_ldl 7, x_s2 4, x_fall 6]
def k_MO_stillest_6 : List AI := [x_inc 6 1, x_go 3]
def k_MO_stillest_7 : List AI := [x_ldi 3, x_ic (-1), x_icne 8, x_lc (-1), x_go 10]
def k_MO_stillest_8 : List AI := [x_ldi 2, x_ifne 9, x_ldl 4, x_go 10]
def k_MO_stillest_9 : List AI := [x_ldi 3, x_i2l, x_fall 10]
def k_MO_stillest_10 : List AI := [x_rl]
def kb_MO_stillest : List (List AI) := [k_MO_stillest_0, k_MO_stillest_1, k_MO_stillest_2, k_MO_stillest_3, k_MO_stillest_4, k_MO_stillest_5, k_MO_stillest_6, k_MO_stillest_7, k_MO_stillest_8, k_MO_stillest_9, k_MO_stillest_10]
def k_MO_underBy_0 : List AI := [x_lc 0, x_s2 4, x_ic 1, x_s1i 6, x_fall 1]
def k_MO_underBy_1 : List AI := [x_ldi 6, x_ldi 3, x_icgt 7, x_lda 0, x_ldi 1, x_ldi 2, x_calv0 MO_changesSeats 3 11, x_ldl 4, x_lda 0, x_lda 0, x_gi 49 11, x_lda 0, x_gi 47 11, x_ldi 6, x_iadd, x_lda 0, x_gi 47 11, x_ldi 3, x_iadd, x_calv MO_greatest 4 11, x_call MO_greater 2, x_s2 7, x_lda 0, x_ldi 1, x_ldi 2, x_calv0 MO_changesSeats 3 11, x_ldl 4, x_lda 0, x_ic 1, x_lda 0, x_gi 49 11, x_lda 0, x_gi 47 11, x_ldi 6, x_iadd, x_calv MO_swingBy 4 11, x_call MO_size 1, x_call MO_greater 2, x_s2 4, x_ic 12, x_ldi 1, x_imul, x_ldi 2, x_iadd, x_s1i 9, x_lda 0, x_gi 65 11, x_ic (-1), x_iceq 2, x_ldl 7, x_lda 0, x_gl 63 11, x_lcmp, x_ifge 3, x_fall 2]
def k_MO_underBy_2 : List AI := [x_ic 1, x_go 4]
def k_MO_underBy_3 : List AI := [x_ic 0, x_fall 4]
def k_MO_underBy_4 : List AI := [x_s1i 10, x_ldi 10, x_ifne 5, x_ldl 7, x_lda 0, x_gl 63 11, x_lcmp, x_ifgt 6, x_lda 0, x_gi 47 11, x_ldi 6, x_iadd, x_lda 0, x_gi 64 11, x_icgt 6, x_lda 0, x_gi 47 11, x_ldi 6, x_iadd, x_lda 0, x_gi 64 11, x_icne 5, x_ldi 9, x_lda 0, x_gi 65 11, x_icle 5, x_go 6]
def k_MO_underBy_5 : List AI := [x_lda 0, x_ldl 7, x_pl 63 11, x_lda 0, x_lda 0, x_gi 47 11, x_ldi 6, x_iadd, x_pi 64 11, x_lda 0, x_ldi 9, x_pi 65 11, x_fall 6]
def k_MO_underBy_6 : List AI := [x_inc 6 1, x_go 1]
def k_MO_underBy_7 : List AI := [x_ret]
def kb_MO_underBy : List (List AI) := [k_MO_underBy_0, k_MO_underBy_1, k_MO_underBy_2, k_MO_underBy_3, k_MO_underBy_4, k_MO_underBy_5, k_MO_underBy_6, k_MO_underBy_7]
def k_MO_under_0 : List AI := [x_ldi 1, x_i2l, x_lc 1, x_lc 100, x_call MO_isIn 3, x_ifeq 1, x_ldi 2, x_i2l, x_lc 0, x_lc 3, x_call MO_isIn 3, x_ifeq 1, x_lda 0, x_calv MO_seats 1 11, x_ic 2, x_icge 2, x_fall 1]
def k_MO_under_1 : List AI := [x_lc (-1), x_rl]
def k_MO_under_2 : List AI := [x_lda 0, x_ic (-1), x_pi 65 11, x_ic 0, x_s1i 3, x_fall 3]
def k_MO_under_3 : List AI := [x_ldi 3, x_lda 0, x_calv MO_seats 1 11, x_icge 6, x_ldi 3, x_ic 1, x_iadd, x_s1i 4, x_fall 4]
def k_MO_under_4 : List AI := [x_ldi 4, x_lda 0, x_calv MO_seats 1 11, x_icge 5, x_lda 0, x_ldi 3, x_ldi 4, x_ldi 1, x_calv0 MO_underBy 4 11, x_inc 4 1, x_go 4]
def k_MO_under_5 : List AI := [x_inc 3 1, x_go 3]
def k_MO_under_6 : List AI := [x_ldi 2, x_ifne 7, x_lda 0, x_gl 63 11, x_go 10]
def k_MO_under_7 : List AI := [x_ldi 2, x_ic 1, x_icne 8, x_lda 0, x_gi 64 11, x_i2l, x_go 10]
def k_MO_under_8 : List AI := [x_ldi 2, x_ic 2, x_icne 9, x_lda 0, x_gi 65 11, x_ic 12, x_idiv, x_i2l, x_go 10]
def k_MO_under_9 : List AI := [x_lda 0, x_gi 65 11, x_ic 12, x_irem, x_i2l, x_fall 10]
def k_MO_under_10 : List AI := [x_rl]
def kb_MO_under : List (List AI) := [k_MO_under_0, k_MO_under_1, k_MO_under_2, k_MO_under_3, k_MO_under_4, k_MO_under_5, k_MO_under_6, k_MO_under_7, k_MO_under_8, k_MO_under_9, k_MO_under_10]
def k_MO_triesTold_0 : List AI := [x_ic 0, x_s1i 1, x_fall 1]
def k_MO_triesTold_1 : List AI := [x_ldi 1, x_lda 0, x_calv MO_rowers 1 11, x_icge 2, x_lda 0, x_ga 66 11, x_ldi 1, x_lda 0, x_ga 34 11, x_ic 12, x_ldi 1, x_iadd, x_ali, x_asi, x_inc 1 1, x_go 1]
def k_MO_triesTold_2 : List AI := [x_ic 0, x_s1i 1, x_fall 3]
def k_MO_triesTold_3 : List AI := [x_ldi 1, x_lda 0, x_calv MO_seats 1 11, x_icge 4, x_lda 0, x_ga 67 11, x_ldi 1, x_lda 0, x_ga 31 11, x_ic 12, x_ldi 1, x_iadd, x_ali, x_asi, x_inc 1 1, x_go 3]
def k_MO_triesTold_4 : List AI := [x_ret]
def kb_MO_triesTold : List (List AI) := [k_MO_triesTold_0, k_MO_triesTold_1, k_MO_triesTold_2, k_MO_triesTold_3, k_MO_triesTold_4]
def k_MO_isFit_0 : List AI := [x_lc 0, x_s2 2, x_ic 0, x_s1i 4, x_fall 1]
def k_MO_isFit_1 : List AI := [x_ldi 4, x_lda 0, x_calv MO_seats 1 11, x_icge 5, x_ldi 4, x_lda 0, x_calv MO_rowers 1 11, x_icge 5, x_lda 0, x_ga 40 11, x_ic 96, x_ic 12, x_ldi 1, x_imul, x_iadd, x_ldi 4, x_iadd, x_ali, x_s1i 5, x_lda 0, x_ga 66 11, x_ldi 4, x_ali, x_lda 0, x_ga 67 11, x_ldi 4, x_ali, x_imul, x_i2l, x_lda 0, x_ga 30 11, x_ic 12, x_ldi 4, x_iadd, x_ali, x_lda 0, x_ga 41 11, x_ic 8, x_ldi 1, x_iadd, x_ali, x_call MO_raised 2, x_lmul, x_s2 6, x_ldl 2, x_ldi 5, x_ic 2, x_icne 2, x_ldl 6, x_go 4]
def k_MO_isFit_2 : List AI := [x_ldi 5, x_ic 1, x_icne 3, x_ldl 6, x_lneg, x_go 4]
def k_MO_isFit_3 : List AI := [x_lc 0, x_fall 4]
def k_MO_isFit_4 : List AI := [x_ladd, x_s2 2, x_inc 4 1, x_go 1]
def k_MO_isFit_5 : List AI := [x_ldl 2, x_lda 0, x_ga 42 11, x_ic 8, x_ldi 1, x_iadd, x_ali, x_i2l, x_lsub, x_call MO_size 1, x_lda 0, x_calv MO_near 1 11, x_i2l, x_lcmp, x_ifgt 6, x_ic 1, x_go 7]
def k_MO_isFit_6 : List AI := [x_ic 0, x_fall 7]
def k_MO_isFit_7 : List AI := [x_rz]
def kb_MO_isFit : List (List AI) := [k_MO_isFit_0, k_MO_isFit_1, k_MO_isFit_2, k_MO_isFit_3, k_MO_isFit_4, k_MO_isFit_5, k_MO_isFit_6, k_MO_isFit_7]
def k_MO_firstUnfit_0 : List AI := [x_ic 0, x_s1i 1, x_fall 1]
def k_MO_firstUnfit_1 : List AI := [x_ldi 1, x_lda 0, x_calv MO_runs 1 11, x_icge 3, x_lda 0, x_ldi 1, x_calv MO_isFit 2 11, x_ifne 2, x_ldi 1, x_ri]
def k_MO_firstUnfit_2 : List AI := [x_inc 1 1, x_go 1]
def k_MO_firstUnfit_3 : List AI := [x_ic (-1), x_ri]
def kb_MO_firstUnfit : List (List AI) := [k_MO_firstUnfit_0, k_MO_firstUnfit_1, k_MO_firstUnfit_2, k_MO_firstUnfit_3]
def k_MO_fits_0 : List AI := [x_lda 0, x_calv0 MO_triesTold 1 11, x_lda 0, x_calv MO_firstUnfit 1 11, x_ri]
def kb_MO_fits : List (List AI) := [k_MO_fits_0]
def k_MO_fittingRows_0 : List AI := [x_ic 0, x_s1i 1, x_ic 1, x_s1i 2, x_ic 0, x_s1i 3, x_fall 1]
def k_MO_fittingRows_1 : List AI := [x_ldi 3, x_lda 0, x_calv MO_rowers 1 11, x_icge 2, x_ldi 2, x_ic 9, x_imul, x_s1i 2, x_inc 3 1, x_go 1]
def k_MO_fittingRows_2 : List AI := [x_ic 0, x_s1i 3, x_fall 3]
def k_MO_fittingRows_3 : List AI := [x_ldi 3, x_ldi 2, x_icge 14, x_ldi 3, x_s1i 4, x_ic 0, x_s1i 5, x_fall 4]
def k_MO_fittingRows_4 : List AI := [x_ldi 5, x_lda 0, x_calv MO_rowers 1 11, x_icge 5, x_lda 0, x_ga 66 11, x_ldi 5, x_ic 1, x_ldi 4, x_ic 9, x_irem, x_iadd, x_asi, x_ldi 4, x_ic 9, x_idiv, x_s1i 4, x_inc 5 1, x_go 4]
def k_MO_fittingRows_5 : List AI := [x_lda 0, x_calv MO_firstUnfit 1 11, x_ic (-1), x_iceq 6, x_go 13]
def k_MO_fittingRows_6 : List AI := [x_ic 0, x_s1i 5, x_fall 7]
def k_MO_fittingRows_7 : List AI := [x_ldi 5, x_lda 0, x_calv MO_rowers 1 11, x_icge 12, x_lda 0, x_ga 66 11, x_ldi 5, x_ali, x_s1i 6, x_ldi 1, x_ifeq 8, x_ldi 6, x_lda 0, x_ga 68 11, x_ldi 5, x_ali, x_icge 9, x_fall 8]
def k_MO_fittingRows_8 : List AI := [x_lda 0, x_ga 68 11, x_ldi 5, x_ldi 6, x_asi, x_fall 9]
def k_MO_fittingRows_9 : List AI := [x_ldi 1, x_ifeq 10, x_ldi 6, x_lda 0, x_ga 69 11, x_ldi 5, x_ali, x_icle 11, x_fall 10]
def k_MO_fittingRows_10 : List AI := [x_lda 0, x_ga 69 11, x_ldi 5, x_ldi 6, x_asi, x_fall 11]
def k_MO_fittingRows_11 : List AI := [x_inc 5 1, x_go 7]
def k_MO_fittingRows_12 : List AI := [x_inc 1 1, x_fall 13]
def k_MO_fittingRows_13 : List AI := [x_inc 3 1, x_go 3]
def k_MO_fittingRows_14 : List AI := [x_ldi 1, x_ri]
def kb_MO_fittingRows : List (List AI) := [k_MO_fittingRows_0, k_MO_fittingRows_1, k_MO_fittingRows_2, k_MO_fittingRows_3, k_MO_fittingRows_4, k_MO_fittingRows_5, k_MO_fittingRows_6, k_MO_fittingRows_7, k_MO_fittingRows_8, k_MO_fittingRows_9, k_MO_fittingRows_10, k_MO_fittingRows_11, k_MO_fittingRows_12, k_MO_fittingRows_13, k_MO_fittingRows_14]
def k_MO_strengths_0 : List AI := [x_ldi 2, x_i2l, x_lc 0, x_lc 2, x_call MO_isIn 3, x_ifeq 1, x_lda 0, x_calv MO_rowers 1 11, x_ic 6, x_icgt 1, x_lda 0, x_ldi 1, x_calv MO_isRower 2 11, x_ifne 2, x_fall 1]
def k_MO_strengths_1 : List AI := [x_ic (-1), x_ri]
def k_MO_strengths_2 : List AI := [x_lda 0, x_calv0 MO_triesTold 1 11, x_lda 0, x_calv MO_fittingRows 1 11, x_s1i 3, x_ldi 2, x_ifne 3, x_ldi 3, x_go 6]
def k_MO_strengths_3 : List AI := [x_ldi 3, x_ifne 4, x_ic (-1), x_go 6]
def k_MO_strengths_4 : List AI := [x_ldi 2, x_ic 1, x_icne 5, x_lda 0, x_ga 68 11, x_ldi 1, x_ali, x_go 6]
def k_MO_strengths_5 : List AI := [x_lda 0, x_ga 69 11, x_ldi 1, x_ali, x_fall 6]
def k_MO_strengths_6 : List AI := [x_ri]
def kb_MO_strengths : List (List AI) := [k_MO_strengths_0, k_MO_strengths_1, k_MO_strengths_2, k_MO_strengths_3, k_MO_strengths_4, k_MO_strengths_5, k_MO_strengths_6]
def k_MO_crooked_0 : List AI := [x_lda 0, x_calv0 MO_triesTold 1 11, x_lda 0, x_calv MO_firstUnfit 1 11, x_ic (-1), x_icne 1, x_ic 0, x_ri]
def k_MO_crooked_1 : List AI := [x_ic 0, x_s1i 1, x_ic 0, x_s1i 2, x_fall 2]
def k_MO_crooked_2 : List AI := [x_ldi 2, x_lda 0, x_calv MO_seats 1 11, x_icge 6, x_ic 1, x_s1i 3, x_fall 3]
def k_MO_crooked_3 : List AI := [x_ldi 3, x_ic 100, x_icge 5, x_ldi 1, x_ldi 2, x_ishr, x_ic 1, x_iand, x_ifne 5, x_lda 0, x_ga 67 11, x_ldi 2, x_ldi 3, x_asi, x_lda 0, x_calv MO_firstUnfit 1 11, x_ic (-1), x_icne 4, x_ldi 1, x_ic 1, x_ldi 2, x_ishl, x_ior, x_s1i 1, x_fall 4]
def k_MO_crooked_4 : List AI := [x_inc 3 1, x_go 3]
def k_MO_crooked_5 : List AI := [x_lda 0, x_ga 67 11, x_ldi 2, x_lda 0, x_ga 31 11, x_ic 12, x_ldi 2, x_iadd, x_ali, x_asi, x_inc 2 1, x_go 2]
def k_MO_crooked_6 : List AI := [x_ldi 1, x_ri]
def kb_MO_crooked : List (List AI) := [k_MO_crooked_0, k_MO_crooked_1, k_MO_crooked_2, k_MO_crooked_3, k_MO_crooked_4, k_MO_crooked_5, k_MO_crooked_6]
def k_MO_payments_0 : List AI := [x_lda 0, x_ga 29 11, x_ic 7, x_ali, x_ri]
def kb_MO_payments : List (List AI) := [k_MO_payments_0]
def k_MO_apartBy_0 : List AI := [x_lc 0, x_s2 3, x_ic 0, x_s1i 5, x_fall 1]
def k_MO_apartBy_1 : List AI := [x_ldi 5, x_lda 0, x_calv MO_payments 1 11, x_icge 6, x_ldi 2, x_ifeq 2, x_lda 0, x_ga 43 11, x_ic 12, x_ldi 5, x_iadd, x_ali, x_lda 0, x_ga 44 11, x_ic 12, x_ldi 5, x_iadd, x_ali, x_imul, x_i2l, x_go 3]
def k_MO_apartBy_2 : List AI := [x_lda 0, x_ga 43 11, x_ic 12, x_ldi 5, x_iadd, x_ali, x_i2l, x_fall 3]
def k_MO_apartBy_3 : List AI := [x_s2 6, x_ldl 3, x_ldi 1, x_ldi 5, x_ishr, x_ic 1, x_iand, x_ic 1, x_icne 4, x_ldl 6, x_lneg, x_go 5]
def k_MO_apartBy_4 : List AI := [x_ldl 6, x_fall 5]
def k_MO_apartBy_5 : List AI := [x_ladd, x_s2 3, x_inc 5 1, x_go 1]
def k_MO_apartBy_6 : List AI := [x_ldl 3, x_rl]
def kb_MO_apartBy : List (List AI) := [k_MO_apartBy_0, k_MO_apartBy_1, k_MO_apartBy_2, k_MO_apartBy_3, k_MO_apartBy_4, k_MO_apartBy_5, k_MO_apartBy_6]
def k_MO_heirs_0 : List AI := [x_ldi 1, x_i2l, x_lc 0, x_lc 1, x_call MO_isIn 3, x_ifeq 1, x_lda 0, x_calv MO_payments 1 11, x_ifne 2, x_fall 1]
def k_MO_heirs_1 : List AI := [x_ic (-1), x_ri]
def k_MO_heirs_2 : List AI := [x_ic 0, x_s1i 2, x_ic 0, x_s1i 3, x_fall 3]
def k_MO_heirs_3 : List AI := [x_ldi 3, x_ic 1, x_lda 0, x_calv MO_payments 1 11, x_ishl, x_icge 7, x_lda 0, x_ldi 3, x_ic 0, x_calv MO_apartBy 3 11, x_lc 0, x_lcmp, x_ifne 6, x_lda 0, x_ldi 3, x_ic 1, x_calv MO_apartBy 3 11, x_lc 0, x_lcmp, x_ifeq 4, x_go 6]
def k_MO_heirs_4 : List AI := [x_ldi 1, x_ic 1, x_icne 5, x_ldi 3, x_ri]
def k_MO_heirs_5 : List AI := [x_inc 2 1, x_fall 6]
def k_MO_heirs_6 : List AI := [x_inc 3 2, x_go 3]
def k_MO_heirs_7 : List AI := [x_ldi 1, x_ifne 8, x_ldi 2, x_go 9]
def k_MO_heirs_8 : List AI := [x_ic (-1), x_fall 9]
def k_MO_heirs_9 : List AI := [x_ri]
def kb_MO_heirs : List (List AI) := [k_MO_heirs_0, k_MO_heirs_1, k_MO_heirs_2, k_MO_heirs_3, k_MO_heirs_4, k_MO_heirs_5, k_MO_heirs_6, k_MO_heirs_7, k_MO_heirs_8, k_MO_heirs_9]
def k_MO_apart_0 : List AI := [x_ldi 1, x_i2l, x_lc 0, x_ic 1, x_lda 0, x_calv MO_payments 1 11, x_ishl, x_ic 1, x_isub, x_i2l, x_call MO_isIn 3, x_ifeq 1, x_ldi 1, x_ic 2, x_irem, x_ifne 1, x_lda 0, x_calv MO_payments 1 11, x_ifle 1, x_lda 0, x_ldi 1, x_ldi 2, x_calv MO_apartBy 3 11, x_go 2]
def k_MO_apart_1 : List AI := [x_lc (-1000000000000000), x_fall 2]
def k_MO_apart_2 : List AI := [x_rl]
def kb_MO_apart : List (List AI) := [k_MO_apart_0, k_MO_apart_1, k_MO_apart_2]
def k_MO_qCode_0 : List AI := [x_lda 0, x_ga 87 11, x_lda 0, x_gi 88 11, x_ldi 1, x_asi, x_lda 0, x_dup, x_gi 88 11, x_ic 1, x_iadd, x_pi 88 11, x_ret]
def kb_MO_qCode : List (List AI) := [k_MO_qCode_0]
def k_MO_qOpens_0 : List AI := [x_lda 0, x_gi 5 11, x_ifeq 1, x_ret]
def k_MO_qOpens_1 : List AI := [x_lda 0, x_gi 91 11, x_ic 6, x_icne 2, x_lda 0, x_ic 4, x_ldi 2, x_calv0 MO_fail 3 11, x_ret]
def k_MO_qOpens_2 : List AI := [x_lda 0, x_dup, x_gi 91 11, x_ic 1, x_iadd, x_pi 91 11, x_lda 0, x_ga 89 11, x_lda 0, x_gi 90 11, x_ldi 1, x_asi, x_lda 0, x_dup, x_gi 90 11, x_ic 1, x_iadd, x_pi 90 11, x_ret]
def kb_MO_qOpens : List (List AI) := [k_MO_qOpens_0, k_MO_qOpens_1, k_MO_qOpens_2]
def k_MO_qIsOn_0 : List AI := [x_lda 0, x_gi 90 11, x_ifle 1, x_lda 0, x_ga 89 11, x_lda 0, x_gi 90 11, x_ic 1, x_isub, x_ali, x_ldi 1, x_icne 1, x_ic 1, x_go 2]
def k_MO_qIsOn_1 : List AI := [x_ic 0, x_fall 2]
def k_MO_qIsOn_2 : List AI := [x_rz]
def kb_MO_qIsOn : List (List AI) := [k_MO_qIsOn_0, k_MO_qIsOn_1, k_MO_qIsOn_2]
def k_MO_qDrops_0 : List AI := [x_lda 0, x_dup, x_gi 90 11, x_ic 1, x_isub, x_pi 90 11, x_lda 0, x_lda 0, x_ga 89 11, x_lda 0, x_gi 90 11, x_ali, x_calv0 MO_qCode 2 11, x_ret]
def kb_MO_qDrops : List (List AI) := [k_MO_qDrops_0]
def k_MO_qIsBracket_0 : List AI := [x_ldi 0, x_ic 20, x_iclt 1, x_ldi 0, x_ic 24, x_icgt 1, x_ic 1, x_go 2]
def k_MO_qIsBracket_1 : List AI := [x_ic 0, x_fall 2]
def k_MO_qIsBracket_2 : List AI := [x_rz]
def kb_MO_qIsBracket : List (List AI) := [k_MO_qIsBracket_0, k_MO_qIsBracket_1, k_MO_qIsBracket_2]
def k_MO_qBracket_0 : List AI := [x_lda 0, x_gi 90 11, x_ic 1, x_isub, x_s1i 1, x_fall 1]
def k_MO_qBracket_1 : List AI := [x_ldi 1, x_lda 0, x_gi 92 11, x_iclt 2, x_lda 0, x_ga 89 11, x_ldi 1, x_ali, x_call MO_qIsBracket 1, x_ifne 2, x_inc 1 (-1), x_go 1]
def k_MO_qBracket_2 : List AI := [x_ldi 1, x_lda 0, x_gi 92 11, x_iclt 3, x_lda 0, x_ga 89 11, x_ldi 1, x_ali, x_go 4]
def k_MO_qBracket_3 : List AI := [x_ic (-1), x_fall 4]
def k_MO_qBracket_4 : List AI := [x_ri]
def kb_MO_qBracket : List (List AI) := [k_MO_qBracket_0, k_MO_qBracket_1, k_MO_qBracket_2, k_MO_qBracket_3, k_MO_qBracket_4]
def k_MO_qDropsToBracket_0 : List AI := [x_lda 0, x_gi 90 11, x_lda 0, x_gi 92 11, x_icle 1, x_lda 0, x_ga 89 11, x_lda 0, x_gi 90 11, x_ic 1, x_isub, x_ali, x_call MO_qIsBracket 1, x_ifne 1, x_lda 0, x_calv0 MO_qDrops 1 11, x_go 0]
def k_MO_qDropsToBracket_1 : List AI := [x_ret]
def kb_MO_qDropsToBracket : List (List AI) := [k_MO_qDropsToBracket_0, k_MO_qDropsToBracket_1]
def k_MO_qWordHere_0 : List AI := [x_lda 0, x_lda 0, x_ga 82 11, x_calv MO_isHere 2 11, x_ifeq 1, x_ic 0, x_ri]
def k_MO_qWordHere_1 : List AI := [x_lda 0, x_lda 0, x_ga 83 11, x_calv MO_isHere 2 11, x_ifeq 2, x_ic 1, x_ri]
def k_MO_qWordHere_2 : List AI := [x_lda 0, x_lda 0, x_ga 84 11, x_calv MO_isHere 2 11, x_ifeq 3, x_ic 2, x_ri]
def k_MO_qWordHere_3 : List AI := [x_lda 0, x_lda 0, x_ga 85 11, x_calv MO_isHere 2 11, x_ifeq 4, x_ic 3, x_ri]
def k_MO_qWordHere_4 : List AI := [x_lda 0, x_lda 0, x_ga 86 11, x_calv MO_isHere 2 11, x_ifeq 5, x_ic 4, x_ri]
def k_MO_qWordHere_5 : List AI := [x_ic (-1), x_ri]
def kb_MO_qWordHere : List (List AI) := [k_MO_qWordHere_0, k_MO_qWordHere_1, k_MO_qWordHere_2, k_MO_qWordHere_3, k_MO_qWordHere_4, k_MO_qWordHere_5]
def k_MO_qWordOf_0 : List AI := [x_lda 0, x_calv MO_qWordHere 1 11, x_s1i 3, x_ldi 3, x_ldi 1, x_iclt 1, x_ldi 3, x_ldi 2, x_icge 1, x_ldi 3, x_go 2]
def k_MO_qWordOf_1 : List AI := [x_ic (-1), x_fall 2]
def k_MO_qWordOf_2 : List AI := [x_ri]
def kb_MO_qWordOf : List (List AI) := [k_MO_qWordOf_0, k_MO_qWordOf_1, k_MO_qWordOf_2]
def k_MO_qAsksWord_0 : List AI := [x_ldi 1, x_sw 5 [(0, 1), (1, 2), (2, 3), (3, 4)]]
def k_MO_qAsksWord_1 : List AI := [x_lda 0, x_lda 0, x_ga 82 11, x_calv0 MO_asks 2 11, x_go 6]
def k_MO_qAsksWord_2 : List AI := [x_lda 0, x_lda 0, x_ga 83 11, x_calv0 MO_asks 2 11, x_go 6]
def k_MO_qAsksWord_3 : List AI := [x_lda 0, x_lda 0, x_ga 84 11, x_calv0 MO_asks 2 11, x_go 6]
def k_MO_qAsksWord_4 : List AI := [x_lda 0, x_lda 0, x_ga 85 11, x_calv0 MO_asks 2 11, x_go 6]
def k_MO_qAsksWord_5 : List AI := [x_lda 0, x_lda 0, x_ga 86 11, x_calv0 MO_asks 2 11, x_fall 6]
def k_MO_qAsksWord_6 : List AI := [x_ret]
def kb_MO_qAsksWord : List (List AI) := [k_MO_qAsksWord_0, k_MO_qAsksWord_1, k_MO_qAsksWord_2, k_MO_qAsksWord_3, k_MO_qAsksWord_4, k_MO_qAsksWord_5, k_MO_qAsksWord_6]
def k_MO_qEndsPart_0 : List AI := [x_lda 0, x_gi 5 11, x_ifne 1, x_lda 0, x_gi 90 11, x_lda 0, x_gi 92 11, x_icle 1, x_lda 0, x_ga 89 11, x_lda 0, x_gi 90 11, x_ic 1, x_isub, x_ali, x_ic 60, x_iclt 1, x_lda 0, x_dup, x_gi 91 11, x_ic 1, x_isub, x_pi 91 11, x_lda 0, x_calv0 MO_qDrops 1 11, x_go 0]
def k_MO_qEndsPart_1 : List AI := [x_ret]
def kb_MO_qEndsPart : List (List AI) := [k_MO_qEndsPart_0, k_MO_qEndsPart_1]
def k_MO_qPartTold_0 : List AI := [x_ic 1, x_s1i 1, x_fall 1]
def k_MO_qPartTold_1 : List AI := [x_ldi 1, x_ifeq 13, x_lda 0, x_gi 5 11, x_ifne 13, x_lda 0, x_calv MO_look 1 11, x_s1i 2, x_lda 0, x_ic 3, x_ic 5, x_calv MO_qWordOf 3 11, x_s1i 3, x_ldi 2, x_ic 40, x_icne 2, x_lda 0, x_ic 20, x_lda 0, x_gi 2 11, x_calv0 MO_qOpens 3 11, x_lda 0, x_dup, x_gi 2 11, x_ic 1, x_iadd, x_pi 2 11, x_go 12]
def k_MO_qPartTold_2 : List AI := [x_lda 0, x_lda 0, x_ga 80 11, x_calv MO_isHere 2 11, x_ifne 3, x_lda 0, x_lda 0, x_ga 81 11, x_calv MO_isHere 2 11, x_ifeq 10, x_fall 3]
def k_MO_qPartTold_3 : List AI := [x_lda 0, x_lda 0, x_ga 80 11, x_calv MO_takes 2 11, x_s1i 4, x_ldi 4, x_ifne 4, x_lda 0, x_lda 0, x_ga 81 11, x_calv0 MO_asks 2 11, x_fall 4]
def k_MO_qPartTold_4 : List AI := [x_lda 0, x_calv MO_look 1 11, x_ic 40, x_icne 5, x_lda 0, x_gi 2 11, x_go 6]
def k_MO_qPartTold_5 : List AI := [x_ic (-1), x_fall 6]
def k_MO_qPartTold_6 : List AI := [x_s1i 5, x_ldi 5, x_ic (-1), x_iceq 9, x_lda 0, x_ldi 4, x_ifeq 7, x_ic 21, x_go 8]
def k_MO_qPartTold_7 : List AI := [x_ic 22, x_fall 8]
def k_MO_qPartTold_8 : List AI := [x_ldi 5, x_calv0 MO_qOpens 3 11, x_fall 9]
def k_MO_qPartTold_9 : List AI := [x_lda 0, x_ic 40, x_calv0 MO_asksSign 2 11, x_go 12]
def k_MO_qPartTold_10 : List AI := [x_ldi 3, x_ic (-1), x_iceq 11, x_lda 0, x_ic 60, x_ldi 3, x_iadd, x_ic 3, x_isub, x_lda 0, x_gi 2 11, x_calv0 MO_qOpens 3 11, x_lda 0, x_ldi 3, x_calv0 MO_qAsksWord 2 11, x_go 12]
def k_MO_qPartTold_11 : List AI := [x_ic 0, x_s1i 1, x_fall 12]
def k_MO_qPartTold_12 : List AI := [x_go 1]
def k_MO_qPartTold_13 : List AI := [x_lda 0, x_gi 5 11, x_ifeq 14, x_ret]
def k_MO_qPartTold_14 : List AI := [x_lda 0, x_ic 0, x_ic 3, x_calv MO_qWordOf 3 11, x_s1i 2, x_ldi 2, x_ic (-1), x_iceq 15, x_lda 0, x_ldi 2, x_calv0 MO_qAsksWord 2 11, x_fall 15]
def k_MO_qPartTold_15 : List AI := [x_lda 0, x_ldi 2, x_ic (-1), x_iceq 16, x_ic 40, x_ldi 2, x_iadd, x_go 17]
def k_MO_qPartTold_16 : List AI := [x_ic 1000, x_lda 0, x_ic 0, x_ic 99999, x_calv MO_number 3 11, x_iadd, x_fall 17]
def k_MO_qPartTold_17 : List AI := [x_calv0 MO_qCode 2 11, x_lda 0, x_calv0 MO_qEndsPart 1 11, x_ret]
def kb_MO_qPartTold : List (List AI) := [k_MO_qPartTold_0, k_MO_qPartTold_1, k_MO_qPartTold_2, k_MO_qPartTold_3, k_MO_qPartTold_4, k_MO_qPartTold_5, k_MO_qPartTold_6, k_MO_qPartTold_7, k_MO_qPartTold_8, k_MO_qPartTold_9, k_MO_qPartTold_10, k_MO_qPartTold_11, k_MO_qPartTold_12, k_MO_qPartTold_13, k_MO_qPartTold_14, k_MO_qPartTold_15, k_MO_qPartTold_16, k_MO_qPartTold_17]
def k_MO_qGoesOn_0 : List AI := [x_lda 0, x_gi 5 11, x_ifne 5, x_lda 0, x_calv MO_look 1 11, x_ic 41, x_icne 5, x_lda 0, x_calv MO_qBracket 1 11, x_ic 20, x_iceq 1, x_lda 0, x_calv MO_qBracket 1 11, x_ic 23, x_iceq 1, x_lda 0, x_calv MO_qBracket 1 11, x_ic 24, x_icne 5, x_fall 1]
def k_MO_qGoesOn_1 : List AI := [x_lda 0, x_dup, x_gi 2 11, x_ic 1, x_iadd, x_pi 2 11, x_lda 0, x_calv0 MO_qDropsToBracket 1 11, x_lda 0, x_dup, x_gi 90 11, x_ic 1, x_isub, x_pi 90 11, x_lda 0, x_dup, x_gi 91 11, x_ic 1, x_isub, x_pi 91 11, x_lda 0, x_ga 89 11, x_lda 0, x_gi 90 11, x_ali, x_ic 20, x_iceq 4, x_lda 0, x_lda 0, x_ga 89 11, x_lda 0, x_gi 90 11, x_ali, x_ic 23, x_icne 2, x_ic 5, x_go 3]
def k_MO_qGoesOn_2 : List AI := [x_ic 6, x_fall 3]
def k_MO_qGoesOn_3 : List AI := [x_calv0 MO_qCode 2 11, x_fall 4]
def k_MO_qGoesOn_4 : List AI := [x_lda 0, x_calv0 MO_qEndsPart 1 11, x_go 0]
def k_MO_qGoesOn_5 : List AI := [x_lda 0, x_ic 42, x_calv MO_takesSign 2 11, x_ifne 6, x_lda 0, x_ic 47, x_calv MO_takesSign 2 11, x_ifeq 12, x_fall 6]
def k_MO_qGoesOn_6 : List AI := [x_lda 0, x_ga 0 11, x_lda 0, x_gi 2 11, x_ic 1, x_isub, x_ali, x_ic 42, x_icne 7, x_ic 3, x_go 8]
def k_MO_qGoesOn_7 : List AI := [x_ic 4, x_fall 8]
def k_MO_qGoesOn_8 : List AI := [x_s1i 1, x_fall 9]
def k_MO_qGoesOn_9 : List AI := [x_lda 0, x_ic 3, x_calv MO_qIsOn 2 11, x_ifne 10, x_lda 0, x_ic 4, x_calv MO_qIsOn 2 11, x_ifeq 11, x_fall 10]
def k_MO_qGoesOn_10 : List AI := [x_lda 0, x_calv0 MO_qDrops 1 11, x_go 9]
def k_MO_qGoesOn_11 : List AI := [x_lda 0, x_ga 89 11, x_lda 0, x_gi 90 11, x_ldi 1, x_asi, x_lda 0, x_dup, x_gi 90 11, x_ic 1, x_iadd, x_pi 90 11, x_ic 1, x_rz]
def k_MO_qGoesOn_12 : List AI := [x_lda 0, x_ic 43, x_calv MO_takesSign 2 11, x_ifne 13, x_lda 0, x_ic 45, x_calv MO_takesSign 2 11, x_ifeq 19, x_fall 13]
def k_MO_qGoesOn_13 : List AI := [x_lda 0, x_ga 0 11, x_lda 0, x_gi 2 11, x_ic 1, x_isub, x_ali, x_ic 43, x_icne 14, x_ic 1, x_go 15]
def k_MO_qGoesOn_14 : List AI := [x_ic 2, x_fall 15]
def k_MO_qGoesOn_15 : List AI := [x_s1i 1, x_fall 16]
def k_MO_qGoesOn_16 : List AI := [x_lda 0, x_ic 3, x_calv MO_qIsOn 2 11, x_ifne 17, x_lda 0, x_ic 4, x_calv MO_qIsOn 2 11, x_ifne 17, x_lda 0, x_ic 1, x_calv MO_qIsOn 2 11, x_ifne 17, x_lda 0, x_ic 2, x_calv MO_qIsOn 2 11, x_ifeq 18, x_fall 17]
def k_MO_qGoesOn_17 : List AI := [x_lda 0, x_calv0 MO_qDrops 1 11, x_go 16]
def k_MO_qGoesOn_18 : List AI := [x_lda 0, x_ga 89 11, x_lda 0, x_gi 90 11, x_ldi 1, x_asi, x_lda 0, x_dup, x_gi 90 11, x_ic 1, x_iadd, x_pi 90 11, x_ic 1, x_rz]
def k_MO_qGoesOn_19 : List AI := [x_lda 0, x_calv MO_qBracket 1 11, x_ic 21, x_iceq 20, x_lda 0, x_calv MO_qBracket 1 11, x_ic 22, x_icne 22, x_fall 20]
def k_MO_qGoesOn_20 : List AI := [x_lda 0, x_ic 44, x_calv0 MO_asksSign 2 11, x_lda 0, x_gi 5 11, x_ifeq 21, x_ic 0, x_rz]
def k_MO_qGoesOn_21 : List AI := [x_lda 0, x_calv0 MO_qDropsToBracket 1 11, x_lda 0, x_ga 89 11, x_lda 0, x_gi 90 11, x_ic 1, x_isub, x_dup2, x_ali, x_ic 2, x_iadd, x_asi, x_ic 1, x_rz]
def k_MO_qGoesOn_22 : List AI := [x_lda 0, x_calv MO_qBracket 1 11, x_ic (-1), x_iceq 23, x_lda 0, x_gi 5 11, x_ifne 23, x_lda 0, x_ic 1, x_lda 0, x_gi 2 11, x_calv0 MO_fail 3 11, x_fall 23]
def k_MO_qGoesOn_23 : List AI := [x_ic 0, x_rz]
def kb_MO_qGoesOn : List (List AI) := [k_MO_qGoesOn_0, k_MO_qGoesOn_1, k_MO_qGoesOn_2, k_MO_qGoesOn_3, k_MO_qGoesOn_4, k_MO_qGoesOn_5, k_MO_qGoesOn_6, k_MO_qGoesOn_7, k_MO_qGoesOn_8, k_MO_qGoesOn_9, k_MO_qGoesOn_10, k_MO_qGoesOn_11, k_MO_qGoesOn_12, k_MO_qGoesOn_13, k_MO_qGoesOn_14, k_MO_qGoesOn_15, k_MO_qGoesOn_16, k_MO_qGoesOn_17, k_MO_qGoesOn_18, k_MO_qGoesOn_19, k_MO_qGoesOn_20, k_MO_qGoesOn_21, k_MO_qGoesOn_22, k_MO_qGoesOn_23]
def k_MO_qSums_0 : List AI := [x_lda 0, x_gi 92 11, x_s1i 1, x_lda 0, x_lda 0, x_gi 90 11, x_pi 92 11, x_ic 1, x_s1i 2, x_fall 1]
def k_MO_qSums_1 : List AI := [x_ldi 2, x_ifeq 4, x_lda 0, x_gi 5 11, x_ifne 4, x_lda 0, x_calv0 MO_qPartTold 1 11, x_lda 0, x_gi 5 11, x_ifne 2, x_lda 0, x_calv MO_qGoesOn 1 11, x_ifeq 2, x_ic 1, x_go 3]
def k_MO_qSums_2 : List AI := [x_ic 0, x_fall 3]
def k_MO_qSums_3 : List AI := [x_s1i 2, x_go 1]
def k_MO_qSums_4 : List AI := [x_lda 0, x_gi 5 11, x_ifne 5, x_lda 0, x_gi 90 11, x_lda 0, x_gi 92 11, x_icle 5, x_lda 0, x_calv0 MO_qDrops 1 11, x_go 4]
def k_MO_qSums_5 : List AI := [x_lda 0, x_ldi 1, x_pi 92 11, x_ret]
def kb_MO_qSums : List (List AI) := [k_MO_qSums_0, k_MO_qSums_1, k_MO_qSums_2, k_MO_qSums_3, k_MO_qSums_4, k_MO_qSums_5]
def k_MO_qFact_0 : List AI := [x_lda 0, x_lda 0, x_ga 79 11, x_calv MO_takes 2 11, x_ifeq 1, x_lda 0, x_ic 13, x_calv0 MO_qCode 2 11, x_ret]
def k_MO_qFact_1 : List AI := [x_lda 0, x_calv0 MO_qSums 1 11, x_lda 0, x_gi 5 11, x_ifeq 2, x_ret]
def k_MO_qFact_2 : List AI := [x_lda 0, x_calv MO_look 1 11, x_s1i 1, x_ldi 1, x_ic 60, x_iceq 3, x_ldi 1, x_ic 62, x_iceq 3, x_ldi 1, x_ic 61, x_iceq 3, x_lda 0, x_ic 1, x_lda 0, x_gi 2 11, x_calv0 MO_fail 3 11, x_ret]
def k_MO_qFact_3 : List AI := [x_lda 0, x_dup, x_gi 2 11, x_ic 1, x_iadd, x_pi 2 11, x_lda 0, x_calv0 MO_qSums 1 11, x_lda 0, x_ldi 1, x_ic 60, x_icne 4, x_ic 7, x_go 6]
def k_MO_qFact_4 : List AI := [x_ldi 1, x_ic 62, x_icne 5, x_ic 8, x_go 6]
def k_MO_qFact_5 : List AI := [x_ic 9, x_fall 6]
def k_MO_qFact_6 : List AI := [x_calv0 MO_qCode 2 11, x_ret]
def kb_MO_qFact : List (List AI) := [k_MO_qFact_0, k_MO_qFact_1, k_MO_qFact_2, k_MO_qFact_3, k_MO_qFact_4, k_MO_qFact_5, k_MO_qFact_6]
def k_MO_qHasSquare_0 : List AI := [x_ic 0, x_s1i 1, x_fall 1]
def k_MO_qHasSquare_1 : List AI := [x_ldi 1, x_lda 0, x_gi 90 11, x_icge 3, x_lda 0, x_ga 89 11, x_ldi 1, x_ali, x_ic 25, x_icne 2, x_ic 1, x_rz]
def k_MO_qHasSquare_2 : List AI := [x_inc 1 1, x_go 1]
def k_MO_qHasSquare_3 : List AI := [x_ic 0, x_rz]
def kb_MO_qHasSquare : List (List AI) := [k_MO_qHasSquare_0, k_MO_qHasSquare_1, k_MO_qHasSquare_2, k_MO_qHasSquare_3]
def k_MO_qDropsNots_0 : List AI := [x_lda 0, x_gi 5 11, x_ifne 1, x_lda 0, x_ic 12, x_calv MO_qIsOn 2 11, x_ifeq 1, x_lda 0, x_dup, x_gi 91 11, x_ic 1, x_isub, x_pi 91 11, x_lda 0, x_calv0 MO_qDrops 1 11, x_go 0]
def k_MO_qDropsNots_1 : List AI := [x_ret]
def kb_MO_qDropsNots : List (List AI) := [k_MO_qDropsNots_0, k_MO_qDropsNots_1]
def k_MO_qTest_0 : List AI := [x_ic 1, x_s1i 1, x_fall 1]
def k_MO_qTest_1 : List AI := [x_ldi 1, x_ifeq 6, x_lda 0, x_gi 5 11, x_ifne 6, x_lda 0, x_calv MO_look 1 11, x_s1i 2, x_ldi 2, x_ic 91, x_icne 2, x_lda 0, x_ic 25, x_lda 0, x_gi 2 11, x_calv0 MO_qOpens 3 11, x_lda 0, x_dup, x_gi 2 11, x_ic 1, x_iadd, x_pi 2 11, x_go 1]
def k_MO_qTest_2 : List AI := [x_lda 0, x_lda 0, x_ga 76 11, x_calv MO_isHere 2 11, x_ifeq 3, x_lda 0, x_ic 12, x_lda 0, x_gi 2 11, x_calv0 MO_qOpens 3 11, x_lda 0, x_lda 0, x_ga 76 11, x_calv0 MO_asks 2 11, x_go 1]
def k_MO_qTest_3 : List AI := [x_lda 0, x_calv0 MO_qFact 1 11, x_lda 0, x_calv0 MO_qDropsNots 1 11, x_lda 0, x_gi 5 11, x_ifne 4, x_lda 0, x_calv MO_qGoesOnTest 1 11, x_ifeq 4, x_ic 1, x_go 5]
def k_MO_qTest_4 : List AI := [x_ic 0, x_fall 5]
def k_MO_qTest_5 : List AI := [x_s1i 1, x_go 1]
def k_MO_qTest_6 : List AI := [x_lda 0, x_gi 5 11, x_ifne 7, x_lda 0, x_gi 90 11, x_ifle 7, x_lda 0, x_calv0 MO_qDrops 1 11, x_go 6]
def k_MO_qTest_7 : List AI := [x_ret]
def kb_MO_qTest : List (List AI) := [k_MO_qTest_0, k_MO_qTest_1, k_MO_qTest_2, k_MO_qTest_3, k_MO_qTest_4, k_MO_qTest_5, k_MO_qTest_6, k_MO_qTest_7]
def k_MO_qGoesOnTest_0 : List AI := [x_lda 0, x_gi 5 11, x_ifne 3, x_lda 0, x_calv MO_look 1 11, x_ic 93, x_icne 3, x_lda 0, x_calv MO_qHasSquare 1 11, x_ifeq 3, x_lda 0, x_dup, x_gi 2 11, x_ic 1, x_iadd, x_pi 2 11, x_fall 1]
def k_MO_qGoesOnTest_1 : List AI := [x_lda 0, x_ic 25, x_calv MO_qIsOn 2 11, x_ifne 2, x_lda 0, x_calv0 MO_qDrops 1 11, x_go 1]
def k_MO_qGoesOnTest_2 : List AI := [x_lda 0, x_dup, x_gi 90 11, x_ic 1, x_isub, x_pi 90 11, x_lda 0, x_dup, x_gi 91 11, x_ic 1, x_isub, x_pi 91 11, x_lda 0, x_calv0 MO_qDropsNots 1 11, x_go 0]
def k_MO_qGoesOnTest_3 : List AI := [x_lda 0, x_lda 0, x_ga 77 11, x_calv MO_takes 2 11, x_ifeq 6, x_fall 4]
def k_MO_qGoesOnTest_4 : List AI := [x_lda 0, x_ic 10, x_calv MO_qIsOn 2 11, x_ifeq 5, x_lda 0, x_calv0 MO_qDrops 1 11, x_go 4]
def k_MO_qGoesOnTest_5 : List AI := [x_lda 0, x_ga 89 11, x_lda 0, x_gi 90 11, x_ic 10, x_asi, x_lda 0, x_dup, x_gi 90 11, x_ic 1, x_iadd, x_pi 90 11, x_ic 1, x_rz]
def k_MO_qGoesOnTest_6 : List AI := [x_lda 0, x_lda 0, x_ga 78 11, x_calv MO_takes 2 11, x_ifeq 10, x_fall 7]
def k_MO_qGoesOnTest_7 : List AI := [x_lda 0, x_ic 10, x_calv MO_qIsOn 2 11, x_ifne 8, x_lda 0, x_ic 11, x_calv MO_qIsOn 2 11, x_ifeq 9, x_fall 8]
def k_MO_qGoesOnTest_8 : List AI := [x_lda 0, x_calv0 MO_qDrops 1 11, x_go 7]
def k_MO_qGoesOnTest_9 : List AI := [x_lda 0, x_ga 89 11, x_lda 0, x_gi 90 11, x_ic 11, x_asi, x_lda 0, x_dup, x_gi 90 11, x_ic 1, x_iadd, x_pi 90 11, x_ic 1, x_rz]
def k_MO_qGoesOnTest_10 : List AI := [x_lda 0, x_gi 5 11, x_ifne 11, x_lda 0, x_calv MO_qHasSquare 1 11, x_ifeq 11, x_lda 0, x_ic 1, x_lda 0, x_gi 2 11, x_calv0 MO_fail 3 11, x_fall 11]
def k_MO_qGoesOnTest_11 : List AI := [x_ic 0, x_rz]
def kb_MO_qGoesOnTest : List (List AI) := [k_MO_qGoesOnTest_0, k_MO_qGoesOnTest_1, k_MO_qGoesOnTest_2, k_MO_qGoesOnTest_3, k_MO_qGoesOnTest_4, k_MO_qGoesOnTest_5, k_MO_qGoesOnTest_6, k_MO_qGoesOnTest_7, k_MO_qGoesOnTest_8, k_MO_qGoesOnTest_9, k_MO_qGoesOnTest_10, k_MO_qGoesOnTest_11]
def k_MO_qClip_0 : List AI := [x_ldl 0, x_lc 1000000, x_lcmp, x_ifle 1, x_lc 1000000, x_go 3]
def k_MO_qClip_1 : List AI := [x_ldl 0, x_lc (-1000000), x_lcmp, x_ifge 2, x_lc (-1000000), x_go 3]
def k_MO_qClip_2 : List AI := [x_ldl 0, x_fall 3]
def k_MO_qClip_3 : List AI := [x_rl]
def kb_MO_qClip : List (List AI) := [k_MO_qClip_0, k_MO_qClip_1, k_MO_qClip_2, k_MO_qClip_3]
def k_MO_qFloor_0 : List AI := [x_ldl 2, x_lc 0, x_lcmp, x_ifne 1, x_lc 0, x_rl]
def k_MO_qFloor_1 : List AI := [x_ldl 0, x_ldl 2, x_ldiv, x_s2 4, x_ldl 0, x_ldl 2, x_lrem, x_lc 0, x_lcmp, x_ifeq 6, x_ldl 0, x_lc 0, x_lcmp, x_ifge 2, x_ic 1, x_go 3]
def k_MO_qFloor_2 : List AI := [x_ic 0, x_fall 3]
def k_MO_qFloor_3 : List AI := [x_ldl 2, x_lc 0, x_lcmp, x_ifge 4, x_ic 1, x_go 5]
def k_MO_qFloor_4 : List AI := [x_ic 0, x_fall 5]
def k_MO_qFloor_5 : List AI := [x_iceq 6, x_ldl 4, x_lc 1, x_lsub, x_go 7]
def k_MO_qFloor_6 : List AI := [x_ldl 4, x_fall 7]
def k_MO_qFloor_7 : List AI := [x_rl]
def kb_MO_qFloor : List (List AI) := [k_MO_qFloor_0, k_MO_qFloor_1, k_MO_qFloor_2, k_MO_qFloor_3, k_MO_qFloor_4, k_MO_qFloor_5, k_MO_qFloor_6, k_MO_qFloor_7]
def k_MO_qPuts_0 : List AI := [x_lda 0, x_ga 93 11, x_lda 0, x_gi 94 11, x_ldl 1, x_asl, x_lda 0, x_dup, x_gi 94 11, x_ic 1, x_iadd, x_pi 94 11, x_ret]
def kb_MO_qPuts : List (List AI) := [k_MO_qPuts_0]
def k_MO_qJoins_0 : List AI := [x_lda 0, x_ga 93 11, x_lda 0, x_gi 94 11, x_ic 1, x_isub, x_all, x_s2 2, x_lda 0, x_ga 93 11, x_lda 0, x_gi 94 11, x_ic 2, x_isub, x_all, x_s2 4, x_lda 0, x_dup, x_gi 94 11, x_ic 2, x_isub, x_pi 94 11, x_ldi 1, x_sw 21 [(1, 1), (2, 2), (3, 3), (4, 4), (5, 5), (6, 8), (7, 11), (8, 14), (9, 17), (10, 20)]]
def k_MO_qJoins_1 : List AI := [x_lda 0, x_ldl 4, x_ldl 2, x_ladd, x_call MO_qClip 1, x_calv0 MO_qPuts 2 11, x_go 24]
def k_MO_qJoins_2 : List AI := [x_lda 0, x_ldl 4, x_ldl 2, x_lsub, x_call MO_qClip 1, x_calv0 MO_qPuts 2 11, x_go 24]
def k_MO_qJoins_3 : List AI := [x_lda 0, x_ldl 4, x_ldl 2, x_lmul, x_call MO_qClip 1, x_calv0 MO_qPuts 2 11, x_go 24]
def k_MO_qJoins_4 : List AI := [x_lda 0, x_ldl 4, x_ldl 2, x_call MO_qFloor 2, x_calv0 MO_qPuts 2 11, x_go 24]
def k_MO_qJoins_5 : List AI := [x_lda 0, x_ldl 4, x_ldl 2, x_lcmp, x_ifge 6, x_ldl 4, x_go 7]
def k_MO_qJoins_6 : List AI := [x_ldl 2, x_fall 7]
def k_MO_qJoins_7 : List AI := [x_calv0 MO_qPuts 2 11, x_go 24]
def k_MO_qJoins_8 : List AI := [x_lda 0, x_ldl 4, x_ldl 2, x_lcmp, x_ifle 9, x_ldl 4, x_go 10]
def k_MO_qJoins_9 : List AI := [x_ldl 2, x_fall 10]
def k_MO_qJoins_10 : List AI := [x_calv0 MO_qPuts 2 11, x_go 24]
def k_MO_qJoins_11 : List AI := [x_lda 0, x_ldl 4, x_ldl 2, x_lcmp, x_ifge 12, x_lc 1, x_go 13]
def k_MO_qJoins_12 : List AI := [x_lc 0, x_fall 13]
def k_MO_qJoins_13 : List AI := [x_calv0 MO_qPuts 2 11, x_go 24]
def k_MO_qJoins_14 : List AI := [x_lda 0, x_ldl 4, x_ldl 2, x_lcmp, x_ifle 15, x_lc 1, x_go 16]
def k_MO_qJoins_15 : List AI := [x_lc 0, x_fall 16]
def k_MO_qJoins_16 : List AI := [x_calv0 MO_qPuts 2 11, x_go 24]
def k_MO_qJoins_17 : List AI := [x_lda 0, x_ldl 4, x_ldl 2, x_lcmp, x_ifne 18, x_lc 1, x_go 19]
def k_MO_qJoins_18 : List AI := [x_lc 0, x_fall 19]
def k_MO_qJoins_19 : List AI := [x_calv0 MO_qPuts 2 11, x_go 24]
def k_MO_qJoins_20 : List AI := [x_lda 0, x_ldl 4, x_ldl 2, x_lmul, x_calv0 MO_qPuts 2 11, x_go 24]
def k_MO_qJoins_21 : List AI := [x_lda 0, x_ldl 4, x_ldl 2, x_ladd, x_lc 0, x_lcmp, x_ifle 22, x_lc 1, x_go 23]
def k_MO_qJoins_22 : List AI := [x_lc 0, x_fall 23]
def k_MO_qJoins_23 : List AI := [x_calv0 MO_qPuts 2 11, x_fall 24]
def k_MO_qJoins_24 : List AI := [x_ret]
def kb_MO_qJoins : List (List AI) := [k_MO_qJoins_0, k_MO_qJoins_1, k_MO_qJoins_2, k_MO_qJoins_3, k_MO_qJoins_4, k_MO_qJoins_5, k_MO_qJoins_6, k_MO_qJoins_7, k_MO_qJoins_8, k_MO_qJoins_9, k_MO_qJoins_10, k_MO_qJoins_11, k_MO_qJoins_12, k_MO_qJoins_13, k_MO_qJoins_14, k_MO_qJoins_15, k_MO_qJoins_16, k_MO_qJoins_17, k_MO_qJoins_18, k_MO_qJoins_19, k_MO_qJoins_20, k_MO_qJoins_21, k_MO_qJoins_22, k_MO_qJoins_23, k_MO_qJoins_24]
def k_MO_qPartOf_0 : List AI := [x_ldi 1, x_lsw 3 [(0, 1), (1, 2)]]
def k_MO_qPartOf_1 : List AI := [x_ldi 2, x_i2l, x_rl]
def k_MO_qPartOf_2 : List AI := [x_lda 0, x_ldi 2, x_calv MO_qOffAt 2 11, x_rl]
def k_MO_qPartOf_3 : List AI := [x_lda 0, x_ldi 2, x_calv MO_qIsGoodAt 2 11, x_rl]
def kb_MO_qPartOf : List (List AI) := [k_MO_qPartOf_0, k_MO_qPartOf_1, k_MO_qPartOf_2, k_MO_qPartOf_3]
def k_MO_qOf_0 : List AI := [x_ldi 1, x_lsw 4 [(0, 1)]]
def k_MO_qOf_1 : List AI := [x_ldl 2, x_lc 0, x_lc 3, x_call MO_isIn 3, x_ifeq 2, x_lda 0, x_ldl 2, x_l2i, x_lda 0, x_gi 49 11, x_ldi 4, x_calv MO_swingBy 4 11, x_go 3]
def k_MO_qOf_2 : List AI := [x_lc 0, x_fall 3]
def k_MO_qOf_3 : List AI := [x_rl]
def k_MO_qOf_4 : List AI := [x_ldl 2, x_lc 0, x_lda 0, x_calv MO_rowers 1 11, x_ic 1, x_isub, x_i2l, x_call MO_isIn 3, x_ifeq 5, x_lda 0, x_ldl 2, x_l2i, x_ldi 4, x_calv MO_strengthAt 3 11, x_i2l, x_go 6]
def k_MO_qOf_5 : List AI := [x_lc 0, x_fall 6]
def k_MO_qOf_6 : List AI := [x_rl]
def kb_MO_qOf : List (List AI) := [k_MO_qOf_0, k_MO_qOf_1, k_MO_qOf_2, k_MO_qOf_3, k_MO_qOf_4, k_MO_qOf_5, k_MO_qOf_6]
def k_MO_qTold_0 : List AI := [x_lda 0, x_ic 0, x_pi 94 11, x_ic 0, x_s1i 2, x_fall 1]
def k_MO_qTold_1 : List AI := [x_ldi 2, x_lda 0, x_gi 88 11, x_icge 8, x_lda 0, x_ga 87 11, x_ldi 2, x_ali, x_s1i 3, x_ldi 3, x_ic 1000, x_iclt 2, x_lda 0, x_ldi 3, x_ic 1000, x_isub, x_i2l, x_calv0 MO_qPuts 2 11, x_go 7]
def k_MO_qTold_2 : List AI := [x_ldi 3, x_ic 60, x_iclt 3, x_lda 0, x_ga 93 11, x_lda 0, x_gi 94 11, x_ic 1, x_isub, x_lda 0, x_ldi 3, x_ic 60, x_isub, x_lda 0, x_ga 93 11, x_lda 0, x_gi 94 11, x_ic 1, x_isub, x_all, x_ldi 1, x_calv MO_qOf 4 11, x_call MO_qClip 1, x_asl, x_go 7]
def k_MO_qTold_3 : List AI := [x_ldi 3, x_ic 40, x_iclt 4, x_lda 0, x_lda 0, x_ldi 3, x_ic 40, x_isub, x_ldi 1, x_calv MO_qPartOf 3 11, x_call MO_qClip 1, x_calv0 MO_qPuts 2 11, x_go 7]
def k_MO_qTold_4 : List AI := [x_ldi 3, x_ic 13, x_icne 5, x_lda 0, x_lc 1, x_calv0 MO_qPuts 2 11, x_go 7]
def k_MO_qTold_5 : List AI := [x_ldi 3, x_ic 12, x_icne 6, x_lda 0, x_ga 93 11, x_lda 0, x_gi 94 11, x_ic 1, x_isub, x_lc 1, x_lda 0, x_ga 93 11, x_lda 0, x_gi 94 11, x_ic 1, x_isub, x_all, x_lsub, x_asl, x_go 7]
def k_MO_qTold_6 : List AI := [x_lda 0, x_ldi 3, x_calv0 MO_qJoins 2 11, x_fall 7]
def k_MO_qTold_7 : List AI := [x_inc 2 1, x_go 1]
def k_MO_qTold_8 : List AI := [x_lda 0, x_ga 93 11, x_ic 0, x_all, x_rl]
def kb_MO_qTold : List (List AI) := [k_MO_qTold_0, k_MO_qTold_1, k_MO_qTold_2, k_MO_qTold_3, k_MO_qTold_4, k_MO_qTold_5, k_MO_qTold_6, k_MO_qTold_7, k_MO_qTold_8]
def k_MO_qKind_0 : List AI := [x_lda 0, x_lda 0, x_ga 70 11, x_calv MO_takes 2 11, x_ifeq 1, x_ic 0, x_go 6]
def k_MO_qKind_1 : List AI := [x_lda 0, x_lda 0, x_ga 71 11, x_calv MO_takes 2 11, x_ifeq 2, x_ic 1, x_go 6]
def k_MO_qKind_2 : List AI := [x_lda 0, x_lda 0, x_ga 72 11, x_calv MO_takes 2 11, x_ifeq 3, x_ic 2, x_go 6]
def k_MO_qKind_3 : List AI := [x_lda 0, x_lda 0, x_ga 73 11, x_calv MO_takes 2 11, x_ifeq 4, x_ic 3, x_go 6]
def k_MO_qKind_4 : List AI := [x_lda 0, x_lda 0, x_ga 74 11, x_calv MO_takes 2 11, x_ifeq 5, x_ic 4, x_go 6]
def k_MO_qKind_5 : List AI := [x_ic 5, x_fall 6]
def k_MO_qKind_6 : List AI := [x_s1i 1, x_ldi 1, x_ic 5, x_icne 7, x_lda 0, x_lda 0, x_ga 75 11, x_calv0 MO_asks 2 11, x_fall 7]
def k_MO_qKind_7 : List AI := [x_ldi 1, x_ri]
def kb_MO_qKind : List (List AI) := [k_MO_qKind_0, k_MO_qKind_1, k_MO_qKind_2, k_MO_qKind_3, k_MO_qKind_4, k_MO_qKind_5, k_MO_qKind_6, k_MO_qKind_7]
def k_MO_qTakes_0 : List AI := [x_ldi 1, x_ic 3, x_icge 1, x_ldl 2, x_lc 1, x_lcmp, x_ifne 1, x_ic 1, x_go 2]
def k_MO_qTakes_1 : List AI := [x_ic 0, x_fall 2]
def k_MO_qTakes_2 : List AI := [x_s1i 5, x_ldi 1, x_ifne 3, x_ldi 5, x_ifeq 3, x_lda 0, x_gl 95 11, x_lc (-1), x_lcmp, x_ifeq 4, x_fall 3]
def k_MO_qTakes_3 : List AI := [x_ldi 1, x_ic 1, x_icne 5, x_ldi 5, x_ifeq 5, x_fall 4]
def k_MO_qTakes_4 : List AI := [x_lda 0, x_ldi 4, x_i2l, x_pl 95 11, x_fall 5]
def k_MO_qTakes_5 : List AI := [x_ldi 1, x_ic 2, x_icne 6, x_ldi 5, x_ifeq 6, x_lda 0, x_dup, x_gl 95 11, x_lc 1, x_ladd, x_pl 95 11, x_fall 6]
def k_MO_qTakes_6 : List AI := [x_ldi 1, x_ic 3, x_icne 7, x_lda 0, x_dup, x_gl 95 11, x_ldl 2, x_ladd, x_pl 95 11, x_fall 7]
def k_MO_qTakes_7 : List AI := [x_ldi 1, x_ic 3, x_icle 10, x_lda 0, x_gi 96 11, x_ifne 9, x_ldi 1, x_ic 4, x_icne 8, x_ldl 2, x_lda 0, x_gl 95 11, x_lcmp, x_ifle 10, x_go 9]
def k_MO_qTakes_8 : List AI := [x_ldl 2, x_lda 0, x_gl 95 11, x_lcmp, x_ifge 10, x_fall 9]
def k_MO_qTakes_9 : List AI := [x_lda 0, x_ldl 2, x_pl 95 11, x_fall 10]
def k_MO_qTakes_10 : List AI := [x_lda 0, x_ic 0, x_pz 96 11, x_ret]
def kb_MO_qTakes : List (List AI) := [k_MO_qTakes_0, k_MO_qTakes_1, k_MO_qTakes_2, k_MO_qTakes_3, k_MO_qTakes_4, k_MO_qTakes_5, k_MO_qTakes_6, k_MO_qTakes_7, k_MO_qTakes_8, k_MO_qTakes_9, k_MO_qTakes_10]
def k_MO_ask_0 : List AI := [x_lda 0, x_lda 0, x_gi 1 11, x_pi 3 11, x_lda 0, x_ic 0, x_pi 1 11, x_lda 0, x_ic 0, x_pi 2 11, x_lda 0, x_ic (-1), x_pi 4 11, x_lda 0, x_ic 0, x_pi 5 11, x_lda 0, x_ic (-1), x_pi 6 11, x_lda 0, x_ic 0, x_pi 88 11, x_lda 0, x_ic 0, x_pi 90 11, x_lda 0, x_ic 0, x_pi 91 11, x_lda 0, x_ic 0, x_pi 92 11, x_lda 0, x_calv MO_qKind 1 11, x_s1i 1, x_lda 0, x_gi 5 11, x_ifne 1, x_ldi 1, x_ic 3, x_icge 1, x_lda 0, x_calv0 MO_qTest 1 11, x_go 2]
def k_MO_ask_1 : List AI := [x_lda 0, x_gi 5 11, x_ifne 2, x_lda 0, x_calv0 MO_qSums 1 11, x_fall 2]
def k_MO_ask_2 : List AI := [x_lda 0, x_gi 5 11, x_ifne 3, x_lda 0, x_calv MO_look 1 11, x_ic (-1), x_iceq 3, x_lda 0, x_ic 1, x_lda 0, x_gi 2 11, x_calv0 MO_fail 3 11, x_fall 3]
def k_MO_ask_3 : List AI := [x_lda 0, x_lda 0, x_gi 5 11, x_pi 7 11, x_lda 0, x_lda 0, x_gi 6 11, x_pi 8 11, x_lda 0, x_gi 5 11, x_ifeq 4, x_lc (-1000000000000000), x_rl]
def k_MO_ask_4 : List AI := [x_lda 0, x_ldi 1, x_ic 2, x_icge 5, x_lc (-1), x_go 6]
def k_MO_ask_5 : List AI := [x_lc 0, x_fall 6]
def k_MO_ask_6 : List AI := [x_pl 95 11, x_lda 0, x_ic 1, x_pz 96 11, x_lda 0, x_gi 47 11, x_ic 100, x_iadd, x_ic 9999, x_icle 7, x_ic 9999, x_go 8]
def k_MO_ask_7 : List AI := [x_lda 0, x_gi 47 11, x_ic 100, x_iadd, x_fall 8]
def k_MO_ask_8 : List AI := [x_s1i 2, x_lda 0, x_gi 47 11, x_s1i 3, x_fall 9]
def k_MO_ask_9 : List AI := [x_ldi 3, x_ldi 2, x_icgt 10, x_lda 0, x_ldi 1, x_lda 0, x_ldi 3, x_calv MO_qTold 2 11, x_ldi 3, x_calv0 MO_qTakes 4 11, x_inc 3 1, x_go 9]
def k_MO_ask_10 : List AI := [x_lda 0, x_gl 95 11, x_rl]
def kb_MO_ask : List (List AI) := [k_MO_ask_0, k_MO_ask_1, k_MO_ask_2, k_MO_ask_3, k_MO_ask_4, k_MO_ask_5, k_MO_ask_6, k_MO_ask_7, k_MO_ask_8, k_MO_ask_9, k_MO_ask_10]
def k_MO_qOffAt_0 : List AI := [x_lda 0, x_gi 47 11, x_s1i 2, x_lda 0, x_ldi 1, x_pi 47 11, x_lda 0, x_lda 0, x_gi 49 11, x_calv MO_offBy 2 11, x_s2 3, x_lda 0, x_ldi 2, x_pi 47 11, x_ldl 3, x_rl]
def kb_MO_qOffAt : List (List AI) := [k_MO_qOffAt_0]
def k_MO_qIsGoodAt_0 : List AI := [x_lda 0, x_gi 47 11, x_s1i 2, x_lda 0, x_ldi 1, x_pi 47 11, x_lda 0, x_lda 0, x_gi 49 11, x_calv MO_isGood 2 11, x_s1i 3, x_lda 0, x_ldi 2, x_pi 47 11, x_ldi 3, x_ifeq 1, x_lc 1, x_go 2]
def k_MO_qIsGoodAt_1 : List AI := [x_lc 0, x_fall 2]
def k_MO_qIsGoodAt_2 : List AI := [x_rl]
def kb_MO_qIsGoodAt : List (List AI) := [k_MO_qIsGoodAt_0, k_MO_qIsGoodAt_1, k_MO_qIsGoodAt_2]
def k_MO_checked_0 : List AI := [x_ic 107, x_s1i 2, x_ic 0, x_s1i 3, x_fall 1]
def k_MO_checked_1 : List AI := [x_ldi 3, x_ldi 1, x_icge 2, x_ic 5, x_ldi 2, x_imul, x_lda 0, x_ldi 3, x_ali, x_iadd, x_ic 251, x_irem, x_s1i 2, x_inc 3 1, x_go 1]
def k_MO_checked_2 : List AI := [x_ldi 2, x_ri]
def kb_MO_checked : List (List AI) := [k_MO_checked_0, k_MO_checked_1, k_MO_checked_2]
def k_MO_image_0 : List AI := [x_lda 0, x_ga 97 11, x_ic 0, x_lda 0, x_gi 47 11, x_ic 256, x_idiv, x_asi, x_lda 0, x_ga 97 11, x_ic 1, x_lda 0, x_gi 47 11, x_ic 256, x_irem, x_asi, x_ic 0, x_s1i 1, x_fall 1]
def k_MO_image_1 : List AI := [x_ldi 1, x_ic 8, x_icge 2, x_lda 0, x_ga 97 11, x_ic 2, x_ldi 1, x_iadd, x_lda 0, x_gl 48 11, x_ic 56, x_ic 8, x_ldi 1, x_imul, x_isub, x_lshr, x_lc 255, x_land, x_l2i, x_asi, x_inc 1 1, x_go 1]
def k_MO_image_2 : List AI := [x_lda 0, x_ic 10, x_pi 98 11, x_ic 0, x_s1i 1, x_fall 3]
def k_MO_image_3 : List AI := [x_ldi 1, x_lda 0, x_calv MO_seats 1 11, x_icge 4, x_lda 0, x_ga 97 11, x_lda 0, x_gi 98 11, x_lda 0, x_ga 50 11, x_ldi 1, x_ali, x_ic 1, x_iadd, x_asi, x_lda 0, x_ga 97 11, x_lda 0, x_gi 98 11, x_ic 1, x_iadd, x_lda 0, x_gi 49 11, x_ldi 1, x_ishr, x_ic 1, x_iand, x_asi, x_lda 0, x_dup, x_gi 98 11, x_ic 2, x_iadd, x_pi 98 11, x_inc 1 1, x_go 3]
def k_MO_image_4 : List AI := [x_lda 0, x_ga 97 11, x_lda 0, x_gi 98 11, x_lda 0, x_ga 97 11, x_lda 0, x_gi 98 11, x_call MO_checked 2, x_asi, x_lda 0, x_dup, x_gi 98 11, x_ic 1, x_iadd, x_pi 98 11, x_lda 0, x_gi 98 11, x_ri]
def kb_MO_image : List (List AI) := [k_MO_image_0, k_MO_image_1, k_MO_image_2, k_MO_image_3, k_MO_image_4]
def k_MO_octet_0 : List AI := [x_ldi 1, x_iflt 1, x_ldi 1, x_lda 0, x_gi 98 11, x_icge 1, x_lda 0, x_ga 97 11, x_ldi 1, x_ali, x_go 2]
def k_MO_octet_1 : List AI := [x_ic (-1), x_fall 2]
def k_MO_octet_2 : List AI := [x_ri]
def kb_MO_octet : List (List AI) := [k_MO_octet_0, k_MO_octet_1, k_MO_octet_2]
def k_MO_isImage_0 : List AI := [x_ldi 1, x_ic 11, x_ic 2, x_lda 0, x_calv MO_seats 1 11, x_imul, x_iadd, x_icne 1, x_lda 0, x_ga 0 11, x_ldi 1, x_ic 1, x_isub, x_ali, x_lda 0, x_ga 0 11, x_ldi 1, x_ic 1, x_isub, x_call MO_checked 2, x_icne 1, x_ic 256, x_lda 0, x_ga 0 11, x_ic 0, x_ali, x_imul, x_lda 0, x_ga 0 11, x_ic 1, x_ali, x_iadd, x_ic 9999, x_icle 2, x_fall 1]
def k_MO_isImage_1 : List AI := [x_ic 0, x_rz]
def k_MO_isImage_2 : List AI := [x_ic 0, x_s1i 2, x_ic 0, x_s1i 3, x_ic 0, x_s1i 4, x_fall 3]
def k_MO_isImage_3 : List AI := [x_ldi 4, x_lda 0, x_calv MO_seats 1 11, x_icge 8, x_lda 0, x_ga 0 11, x_ic 10, x_ic 2, x_ldi 4, x_imul, x_iadd, x_ali, x_s1i 5, x_ldi 5, x_ifle 4, x_inc 3 1, x_fall 4]
def k_MO_isImage_4 : List AI := [x_lda 0, x_ga 0 11, x_ic 11, x_ic 2, x_ldi 4, x_imul, x_iadd, x_ali, x_s1i 6, x_ldi 5, x_lda 0, x_calv MO_rowers 1 11, x_icgt 5, x_ldi 6, x_ic 1, x_icgt 5, x_ldi 5, x_ifle 6, x_ldi 2, x_ldi 5, x_ishr, x_ic 1, x_iand, x_ic 1, x_icne 6, x_fall 5]
def k_MO_isImage_5 : List AI := [x_ic 0, x_rz]
def k_MO_isImage_6 : List AI := [x_lda 0, x_ldi 4, x_calv MO_isFixed 2 11, x_ifeq 7, x_ldi 6, x_lda 0, x_ga 32 11, x_ic 12, x_ldi 4, x_iadd, x_ali, x_ic 1, x_isub, x_iceq 7, x_ic 0, x_rz]
def k_MO_isImage_7 : List AI := [x_ldi 2, x_ic 1, x_ldi 5, x_ishl, x_ior, x_s1i 2, x_inc 4 1, x_go 3]
def k_MO_isImage_8 : List AI := [x_ldi 3, x_lda 0, x_calv MO_seats 1 11, x_lda 0, x_calv MO_rowers 1 11, x_icge 9, x_lda 0, x_calv MO_seats 1 11, x_go 10]
def k_MO_isImage_9 : List AI := [x_lda 0, x_calv MO_rowers 1 11, x_fall 10]
def k_MO_isImage_10 : List AI := [x_icne 11, x_ic 1, x_go 12]
def k_MO_isImage_11 : List AI := [x_ic 0, x_fall 12]
def k_MO_isImage_12 : List AI := [x_rz]
def kb_MO_isImage : List (List AI) := [k_MO_isImage_0, k_MO_isImage_1, k_MO_isImage_2, k_MO_isImage_3, k_MO_isImage_4, k_MO_isImage_5, k_MO_isImage_6, k_MO_isImage_7, k_MO_isImage_8, k_MO_isImage_9, k_MO_isImage_10, k_MO_isImage_11, k_MO_isImage_12]
def k_MO_on_0 : List AI := [x_lda 0, x_gi 1 11, x_s1i 1, x_lda 0, x_ic 0, x_pi 1 11, x_lda 0, x_ldi 1, x_calv MO_isImage 2 11, x_ifne 1, x_lda 0, x_ga 9 11, x_ic 5, x_dup2, x_ali, x_ic 1, x_iadd, x_asi, x_ic 0, x_rz]
def k_MO_on_1 : List AI := [x_lda 0, x_ic 256, x_lda 0, x_ga 0 11, x_ic 0, x_ali, x_imul, x_lda 0, x_ga 0 11, x_ic 1, x_ali, x_iadd, x_pi 47 11, x_lda 0, x_lc 0, x_pl 48 11, x_ic 0, x_s1i 2, x_fall 2]
def k_MO_on_2 : List AI := [x_ldi 2, x_ic 8, x_icge 3, x_lda 0, x_lda 0, x_gl 48 11, x_ic 8, x_lshl, x_lda 0, x_ga 0 11, x_ic 2, x_ldi 2, x_iadd, x_ali, x_i2l, x_lor, x_pl 48 11, x_inc 2 1, x_go 2]
def k_MO_on_3 : List AI := [x_lda 0, x_ic 0, x_pi 49 11, x_ic 0, x_s1i 2, x_fall 4]
def k_MO_on_4 : List AI := [x_ldi 2, x_lda 0, x_calv MO_seats 1 11, x_icge 5, x_lda 0, x_ga 50 11, x_ldi 2, x_lda 0, x_ga 0 11, x_ic 10, x_ic 2, x_ldi 2, x_imul, x_iadd, x_ali, x_ic 1, x_isub, x_asi, x_lda 0, x_dup, x_gi 49 11, x_lda 0, x_ga 0 11, x_ic 11, x_ic 2, x_ldi 2, x_imul, x_iadd, x_ali, x_ldi 2, x_ishl, x_ior, x_pi 49 11, x_inc 2 1, x_go 4]
def k_MO_on_5 : List AI := [x_lda 0, x_ic 0, x_pi 55 11, x_ic 1, x_rz]
def kb_MO_on : List (List AI) := [k_MO_on_0, k_MO_on_1, k_MO_on_2, k_MO_on_3, k_MO_on_4, k_MO_on_5]
def k_MO_status_0 : List AI := [x_ldi 1, x_i2l, x_lc 0, x_lc 5, x_call MO_isIn 3, x_ifeq 1, x_lda 0, x_ga 9 11, x_ldi 1, x_ali, x_go 2]
def k_MO_status_1 : List AI := [x_ic (-1), x_fall 2]
def k_MO_status_2 : List AI := [x_ri]
def kb_MO_status : List (List AI) := [k_MO_status_0, k_MO_status_1, k_MO_status_2]
def k_LW_law_0 : List AI := [x_new 10, x_dup, x_cals0 EO_init 1 10, x_s1a 1, x_new 11, x_dup, x_cals0 MO_init 1 11, x_s1a 2, x_ic 0, x_s1i 3, x_fall 1]
def k_LW_law_1 : List AI := [x_ldi 3, x_lda 0, x_scn, x_ic 6, x_isub, x_icgt 47, x_lda 0, x_ldi 3, x_scl, x_ic 63, x_iand, x_sw 46 [(0, 2), (1, 3), (2, 4), (3, 5), (4, 6), (5, 7), (6, 8), (7, 9), (8, 10), (9, 11), (10, 12), (11, 13), (12, 14), (13, 15), (14, 16), (15, 17), (16, 18), (17, 19), (18, 20), (19, 21), (20, 22), (21, 23), (22, 24), (23, 25), (24, 26), (25, 27), (26, 28), (27, 29), (28, 30), (29, 31), (30, 32), (31, 33), (32, 34), (33, 35), (34, 36), (35, 41), (36, 42), (37, 43), (38, 44), (39, 45)]]
def k_LW_law_2 : List AI := [x_lda 1, x_lda 0, x_ldi 3, x_ic 1, x_iadd, x_scl, x_lda 0, x_ldi 3, x_ic 2, x_iadd, x_scl, x_lda 0, x_ldi 3, x_ic 3, x_iadd, x_scl, x_lda 0, x_ldi 3, x_ic 4, x_iadd, x_scl, x_lda 0, x_ldi 3, x_ic 5, x_iadd, x_scl, x_calv EO_feed 6 10, x_lda 2, x_lda 0, x_ldi 3, x_ic 1, x_iadd, x_scl, x_lda 0, x_ldi 3, x_ic 2, x_iadd, x_scl, x_lda 0, x_ldi 3, x_ic 3, x_iadd, x_scl, x_lda 0, x_ldi 3, x_ic 4, x_iadd, x_scl, x_lda 0, x_ldi 3, x_ic 5, x_iadd, x_scl, x_calv MO_feed 6 11, x_iceq 46, x_ic 0, x_rz]
def k_LW_law_3 : List AI := [x_lda 1, x_lda 0, x_ldi 3, x_ic 1, x_iadd, x_scl, x_calv EO_end 2 10, x_lda 2, x_lda 0, x_ldi 3, x_ic 1, x_iadd, x_scl, x_calv MO_end 2 11, x_iceq 46, x_ic 0, x_rz]
def k_LW_law_4 : List AI := [x_lda 1, x_calv EO_text 1 10, x_lda 2, x_calv MO_text 1 11, x_iceq 46, x_ic 0, x_rz]
def k_LW_law_5 : List AI := [x_lda 1, x_lda 0, x_ldi 3, x_ic 1, x_iadd, x_scl, x_calv EO_fault 2 10, x_lda 2, x_lda 0, x_ldi 3, x_ic 1, x_iadd, x_scl, x_calv MO_fault 2 11, x_iceq 46, x_ic 0, x_rz]
def k_LW_law_6 : List AI := [x_lda 1, x_lda 0, x_ldi 3, x_ic 1, x_iadd, x_scl, x_calv EO_boat 2 10, x_lda 2, x_lda 0, x_ldi 3, x_ic 1, x_iadd, x_scl, x_calv MO_boat 2 11, x_iceq 46, x_ic 0, x_rz]
def k_LW_law_7 : List AI := [x_lda 1, x_lda 0, x_ldi 3, x_ic 1, x_iadd, x_scl, x_lda 0, x_ldi 3, x_ic 2, x_iadd, x_scl, x_calv EO_letter 3 10, x_lda 2, x_lda 0, x_ldi 3, x_ic 1, x_iadd, x_scl, x_lda 0, x_ldi 3, x_ic 2, x_iadd, x_scl, x_calv MO_letter 3 11, x_iceq 46, x_ic 0, x_rz]
def k_LW_law_8 : List AI := [x_lda 1, x_lda 0, x_ldi 3, x_ic 1, x_iadd, x_scl, x_lda 0, x_ldi 3, x_ic 2, x_iadd, x_scl, x_calv EO_seat 3 10, x_lda 2, x_lda 0, x_ldi 3, x_ic 1, x_iadd, x_scl, x_lda 0, x_ldi 3, x_ic 2, x_iadd, x_scl, x_calv MO_seat 3 11, x_iceq 46, x_ic 0, x_rz]
def k_LW_law_9 : List AI := [x_lda 1, x_lda 0, x_ldi 3, x_ic 1, x_iadd, x_scl, x_lda 0, x_ldi 3, x_ic 2, x_iadd, x_scl, x_calv EO_rower 3 10, x_lda 2, x_lda 0, x_ldi 3, x_ic 1, x_iadd, x_scl, x_lda 0, x_ldi 3, x_ic 2, x_iadd, x_scl, x_calv MO_rower 3 11, x_iceq 46, x_ic 0, x_rz]
def k_LW_law_10 : List AI := [x_lda 1, x_lda 0, x_ldi 3, x_ic 1, x_iadd, x_scl, x_calv EO_want 2 10, x_lda 2, x_lda 0, x_ldi 3, x_ic 1, x_iadd, x_scl, x_calv MO_want 2 11, x_lcmp, x_ifeq 46, x_ic 0, x_rz]
def k_LW_law_11 : List AI := [x_lda 1, x_lda 0, x_ldi 3, x_ic 1, x_iadd, x_scl, x_lda 0, x_ldi 3, x_ic 2, x_iadd, x_scl, x_calv EO_swing 3 10, x_lda 2, x_lda 0, x_ldi 3, x_ic 1, x_iadd, x_scl, x_lda 0, x_ldi 3, x_ic 2, x_iadd, x_scl, x_calv MO_swing 3 11, x_lcmp, x_ifeq 46, x_ic 0, x_rz]
def k_LW_law_12 : List AI := [x_lda 1, x_calv EO_off 1 10, x_lda 2, x_calv MO_off 1 11, x_lcmp, x_ifeq 46, x_ic 0, x_rz]
def k_LW_law_13 : List AI := [x_lda 1, x_calv EO_good 1 10, x_lda 2, x_calv MO_good 1 11, x_iceq 46, x_ic 0, x_rz]
def k_LW_law_14 : List AI := [x_lda 1, x_calv EO_lawful 1 10, x_lda 2, x_calv MO_lawful 1 11, x_iceq 46, x_ic 0, x_rz]
def k_LW_law_15 : List AI := [x_lda 1, x_calv EO_heading 1 10, x_lda 2, x_calv MO_heading 1 11, x_lcmp, x_ifeq 46, x_ic 0, x_rz]
def k_LW_law_16 : List AI := [x_lda 1, x_lda 0, x_ldi 3, x_ic 1, x_iadd, x_scl, x_calv EO_turn 2 10, x_lda 2, x_lda 0, x_ldi 3, x_ic 1, x_iadd, x_scl, x_calv MO_turn 2 11, x_iceq 46, x_ic 0, x_rz]
def k_LW_law_17 : List AI := [x_lda 1, x_lda 0, x_ldi 3, x_ic 1, x_iadd, x_scl, x_lda 0, x_ldi 3, x_ic 2, x_iadd, x_scl, x_calv EO_swap 3 10, x_lda 2, x_lda 0, x_ldi 3, x_ic 1, x_iadd, x_scl, x_lda 0, x_ldi 3, x_ic 2, x_iadd, x_scl, x_calv MO_swap 3 11, x_iceq 46, x_ic 0, x_rz]
def k_LW_law_18 : List AI := [x_lda 1, x_lda 0, x_ldi 3, x_ic 1, x_iadd, x_scl, x_calv EO_stroke 2 10, x_lda 2, x_lda 0, x_ldi 3, x_ic 1, x_iadd, x_scl, x_calv MO_stroke 2 11, x_iceq 46, x_ic 0, x_rz]
def k_LW_law_19 : List AI := [x_lda 1, x_lda 0, x_ldi 3, x_ic 1, x_iadd, x_scl, x_calv EO_row 2 10, x_lda 2, x_lda 0, x_ldi 3, x_ic 1, x_iadd, x_scl, x_calv MO_row 2 11, x_lcmp, x_ifeq 46, x_ic 0, x_rz]
def k_LW_law_20 : List AI := [x_lda 1, x_calv EO_undo 1 10, x_lda 2, x_calv MO_undo 1 11, x_iceq 46, x_ic 0, x_rz]
def k_LW_law_21 : List AI := [x_lda 1, x_lda 0, x_ldi 3, x_ic 1, x_iadd, x_scl, x_calv EO_seed 2 10, x_lda 2, x_lda 0, x_ldi 3, x_ic 1, x_iadd, x_scl, x_calv MO_seed 2 11, x_iceq 46, x_ic 0, x_rz]
def k_LW_law_22 : List AI := [x_lda 1, x_lda 0, x_ldi 3, x_ic 1, x_iadd, x_scl, x_calv EO_ways 2 10, x_lda 2, x_lda 0, x_ldi 3, x_ic 1, x_iadd, x_scl, x_calv MO_ways 2 11, x_lcmp, x_ifeq 46, x_ic 0, x_rz]
def k_LW_law_23 : List AI := [x_lda 1, x_lda 0, x_ldi 3, x_ic 1, x_iadd, x_scl, x_lda 0, x_ldi 3, x_ic 2, x_iadd, x_scl, x_calv EO_made 3 10, x_lda 2, x_lda 0, x_ldi 3, x_ic 1, x_iadd, x_scl, x_lda 0, x_ldi 3, x_ic 2, x_iadd, x_scl, x_calv MO_made 3 11, x_iceq 46, x_ic 0, x_rz]
def k_LW_law_24 : List AI := [x_lda 1, x_lda 0, x_ldi 3, x_ic 1, x_iadd, x_scl, x_lda 0, x_ldi 3, x_ic 2, x_iadd, x_scl, x_calv EO_doubled 3 10, x_lda 2, x_lda 0, x_ldi 3, x_ic 1, x_iadd, x_scl, x_lda 0, x_ldi 3, x_ic 2, x_iadd, x_scl, x_calv MO_doubled 3 11, x_lcmp, x_ifeq 46, x_ic 0, x_rz]
def k_LW_law_25 : List AI := [x_lda 1, x_lda 0, x_ldi 3, x_ic 1, x_iadd, x_scl, x_lda 0, x_ldi 3, x_ic 2, x_iadd, x_scl, x_calv EO_still 3 10, x_lda 2, x_lda 0, x_ldi 3, x_ic 1, x_iadd, x_scl, x_lda 0, x_ldi 3, x_ic 2, x_iadd, x_scl, x_calv MO_still 3 11, x_iceq 46, x_ic 0, x_rz]
def k_LW_law_26 : List AI := [x_lda 1, x_lda 0, x_ldi 3, x_ic 1, x_iadd, x_scl, x_calv EO_nearest 2 10, x_lda 2, x_lda 0, x_ldi 3, x_ic 1, x_iadd, x_scl, x_calv MO_nearest 2 11, x_lcmp, x_ifeq 46, x_ic 0, x_rz]
def k_LW_law_27 : List AI := [x_lda 1, x_lda 0, x_ldi 3, x_ic 1, x_iadd, x_scl, x_calv EO_seated 2 10, x_lda 2, x_lda 0, x_ldi 3, x_ic 1, x_iadd, x_scl, x_calv MO_seated 2 11, x_lcmp, x_ifeq 46, x_ic 0, x_rz]
def k_LW_law_28 : List AI := [x_lda 1, x_calv EO_changes 1 10, x_lda 2, x_calv MO_changes 1 11, x_iceq 46, x_ic 0, x_rz]
def k_LW_law_29 : List AI := [x_lda 1, x_lda 0, x_ldi 3, x_ic 1, x_iadd, x_scl, x_calv EO_race 2 10, x_lda 2, x_lda 0, x_ldi 3, x_ic 1, x_iadd, x_scl, x_calv MO_race 2 11, x_lcmp, x_ifeq 46, x_ic 0, x_rz]
def k_LW_law_30 : List AI := [x_lda 1, x_lda 0, x_ldi 3, x_ic 1, x_iadd, x_scl, x_lda 0, x_ldi 3, x_ic 2, x_iadd, x_scl, x_calv EO_stillest 3 10, x_lda 2, x_lda 0, x_ldi 3, x_ic 1, x_iadd, x_scl, x_lda 0, x_ldi 3, x_ic 2, x_iadd, x_scl, x_calv MO_stillest 3 11, x_lcmp, x_ifeq 46, x_ic 0, x_rz]
def k_LW_law_31 : List AI := [x_lda 1, x_lda 0, x_ldi 3, x_ic 1, x_iadd, x_scl, x_lda 0, x_ldi 3, x_ic 2, x_iadd, x_scl, x_calv EO_under 3 10, x_lda 2, x_lda 0, x_ldi 3, x_ic 1, x_iadd, x_scl, x_lda 0, x_ldi 3, x_ic 2, x_iadd, x_scl, x_calv MO_under 3 11, x_lcmp, x_ifeq 46, x_ic 0, x_rz]
def k_LW_law_32 : List AI := [x_lda 1, x_calv EO_fits 1 10, x_lda 2, x_calv MO_fits 1 11, x_iceq 46, x_ic 0, x_rz]
def k_LW_law_33 : List AI := [x_lda 1, x_lda 0, x_ldi 3, x_ic 1, x_iadd, x_scl, x_lda 0, x_ldi 3, x_ic 2, x_iadd, x_scl, x_calv EO_strengths 3 10, x_lda 2, x_lda 0, x_ldi 3, x_ic 1, x_iadd, x_scl, x_lda 0, x_ldi 3, x_ic 2, x_iadd, x_scl, x_calv MO_strengths 3 11, x_iceq 46, x_ic 0, x_rz]
def k_LW_law_34 : List AI := [x_lda 1, x_calv EO_crooked 1 10, x_lda 2, x_calv MO_crooked 1 11, x_iceq 46, x_ic 0, x_rz]
def k_LW_law_35 : List AI := [x_lda 1, x_lda 0, x_ldi 3, x_ic 1, x_iadd, x_scl, x_calv EO_heirs 2 10, x_lda 2, x_lda 0, x_ldi 3, x_ic 1, x_iadd, x_scl, x_calv MO_heirs 2 11, x_iceq 46, x_ic 0, x_rz]
def k_LW_law_36 : List AI := [x_lda 1, x_lda 0, x_ldi 3, x_ic 1, x_iadd, x_scl, x_lda 0, x_ldi 3, x_ic 2, x_iadd, x_scl, x_ifeq 37, x_ic 1, x_go 38]
def k_LW_law_37 : List AI := [x_ic 0, x_fall 38]
def k_LW_law_38 : List AI := [x_calv EO_apart 3 10, x_lda 2, x_lda 0, x_ldi 3, x_ic 1, x_iadd, x_scl, x_lda 0, x_ldi 3, x_ic 2, x_iadd, x_scl, x_ifeq 39, x_ic 1, x_go 40]
def k_LW_law_39 : List AI := [x_ic 0, x_fall 40]
def k_LW_law_40 : List AI := [x_calv MO_apart 3 11, x_lcmp, x_ifeq 46, x_ic 0, x_rz]
def k_LW_law_41 : List AI := [x_lda 1, x_calv EO_ask 1 10, x_lda 2, x_calv MO_ask 1 11, x_lcmp, x_ifeq 46, x_ic 0, x_rz]
def k_LW_law_42 : List AI := [x_lda 1, x_calv EO_image 1 10, x_lda 2, x_calv MO_image 1 11, x_iceq 46, x_ic 0, x_rz]
def k_LW_law_43 : List AI := [x_lda 1, x_lda 0, x_ldi 3, x_ic 1, x_iadd, x_scl, x_calv EO_octet 2 10, x_lda 2, x_lda 0, x_ldi 3, x_ic 1, x_iadd, x_scl, x_calv MO_octet 2 11, x_iceq 46, x_ic 0, x_rz]
def k_LW_law_44 : List AI := [x_lda 1, x_calv EO_on 1 10, x_lda 2, x_calv MO_on 1 11, x_iceq 46, x_ic 0, x_rz]
def k_LW_law_45 : List AI := [x_lda 1, x_lda 0, x_ldi 3, x_ic 1, x_iadd, x_scl, x_calv EO_status 2 10, x_lda 2, x_lda 0, x_ldi 3, x_ic 1, x_iadd, x_scl, x_calv MO_status 2 11, x_iceq 46, x_ic 0, x_rz]
def k_LW_law_46 : List AI := [x_inc 3 6, x_go 1]
def k_LW_law_47 : List AI := [x_ic 1, x_rz]
def kb_LW_law : List (List AI) := [k_LW_law_0, k_LW_law_1, k_LW_law_2, k_LW_law_3, k_LW_law_4, k_LW_law_5, k_LW_law_6, k_LW_law_7, k_LW_law_8, k_LW_law_9, k_LW_law_10, k_LW_law_11, k_LW_law_12, k_LW_law_13, k_LW_law_14, k_LW_law_15, k_LW_law_16, k_LW_law_17, k_LW_law_18, k_LW_law_19, k_LW_law_20, k_LW_law_21, k_LW_law_22, k_LW_law_23, k_LW_law_24, k_LW_law_25, k_LW_law_26, k_LW_law_27, k_LW_law_28, k_LW_law_29, k_LW_law_30, k_LW_law_31, k_LW_law_32, k_LW_law_33, k_LW_law_34, k_LW_law_35, k_LW_law_36, k_LW_law_37, k_LW_law_38, k_LW_law_39, k_LW_law_40, k_LW_law_41, k_LW_law_42, k_LW_law_43, k_LW_law_44, k_LW_law_45, k_LW_law_46, k_LW_law_47]
def bkT : List (List (List AI)) := [kb_JK_bitCount, kb_JK_floorDiv, kb_JK_absI, kb_JK_absL, kb_JK_maxI, kb_JK_maxL, kb_JK_minI, kb_JK_minL, kb_JK_fillL, kb_JK_fillI, kb_BT_read, kb_BT_statement, kb_BT_isOneTooMany, kb_BT_seatTold, kb_BT_rowerTold, kb_BT_nameTold, kb_BT_isName, kb_BT_eachTold, kb_BT_fixTold, kb_BT_wantTold, kb_BT_nearTold, kb_BT_runTold, kb_BT_sidesTold, kb_BT_payTold, kb_CH_init, kb_CH_fewest, kb_CH_load, kb_CH_canBeLawful, kb_CH_bySwaps, kb_CH_byTurns, kb_CH_isGood, kb_CH_exchange, kb_CH_flip, kb_CW_init, kb_CW_board, kb_CW_seatOf, kb_CW_sides, kb_CW_strengthAt, kb_CW_forceIn, kb_CW_leverToSide, kb_CW_swingAt, kb_CW_offAt, kb_CW_isGoodAt, kb_CW_turnSeat, kb_CW_swapRowers, kb_CW_passBy, kb_CW_rowOn, kb_CW_undoAct, kb_CW_writeImage, kb_CW_takeImage, kb_CW_isImage, kb_CW_rowersCanSitSo, kb_CW_sidesCanBeSo, kb_CW_strokeIn, kb_CW_checkOn, kb_CW_writeOctet, kb_CW_noteAct, kb_CW_flip, kb_CW_exchange, kb_CW_drawnSwing, kb_CW_drawOfThree, kb_HV_init, kb_HV_waysFor, kb_HV_countWays, kb_HV_wayAt, kb_HV_choose, kb_HV_canBe, kb_HV_sumDoubled, kb_HV_stillUpTo, kb_HV_power, kb_HV_partPayments, kb_HV_addPayments, kb_HV_heirsApart, kb_LN_init, kb_LN_clear, kb_LN_add, kb_LN_advanceTo, kb_NE_init, kb_NE_findAsTheySit, kb_NE_findOrder, kb_NE_bestRower, kb_NE_arrange, kb_NE_keepOrder, kb_NE_scan, kb_NE_setLanes, kb_NE_weigh, kb_PL_init, kb_PL_clear, kb_PL_isSeat, kb_PL_isRower, kb_PL_isPower, kb_PL_isFixed, kb_PL_seatAtPlace, kb_PL_addSeat, kb_PL_fixSeat, kb_PL_addRower, kb_PL_wantSwing, kb_PL_addRun, kb_PL_setRunSide, kb_PL_addPayment, kb_PL_wants, kb_PL_leverOf, kb_PL_allows, kb_PL_sideAtFirst, kb_PL_seatedAtFirst, kb_PL_runLever, kb_PL_swungOf, kb_PL_payment, kb_QU_init, kb_QU_read, kb_QU_test, kb_QU_both, kb_QU_fact, kb_QU_comparison, kb_QU_sum, kb_QU_product, kb_QU_part, kb_QU_partOf, kb_QU_pair, kb_QU_mayOpen, kb_QU_code, kb_QU_keep, kb_QU_answer, kb_QU_answerTest, kb_QU_answerSum, kb_QU_valueAt, kb_QU_keepTen, kb_QU_apply, kb_QU_applyToTwo, kb_QU_swingOf, kb_QU_forceOf, kb_QU_joined, kb_QU_held, kb_QU_push, kb_QU_pop, kb_RA_init, kb_RA_greatest, kb_RA_findStillest, kb_RA_findUnderWay, kb_RA_sailAsTheySit, kb_RA_tryChange, kb_RA_setLanes, kb_RA_greatestOf, kb_RA_firstTen, kb_RA_lastTen, kb_TP_init, kb_TP_hasRoomForFive, kb_TP_put, kb_TP_cut, kb_TP_clear, kb_TP_byteAt, kb_TP_begin, kb_TP_fail, kb_TP_failHere, kb_TP_next, kb_TP_takeSign, kb_TP_wordHere, kb_TP_passWord, kb_TP_takeWord, kb_TP_anyWordEnd, kb_TP_placeIn, kb_TP_takeNumber, kb_TP_takeSignedNumber, kb_TP_wordEnd, kb_TP_isLetter, kb_TP_isDigit, kb_TP_isBlank, kb_TR_init, kb_TR_forget, kb_TR_firstUnfit, kb_TR_told, kb_TR_crookedSeats, kb_TR_gapAsTold, kb_TR_canBeCrooked, kb_TR_allFitWith, kb_TR_countRows, kb_TR_setBounds, kb_TR_rowsFrom, kb_TR_verdictFrom, kb_TR_allRowsFrom, kb_TR_rowsOfLast, kb_TR_tryMore, kb_TR_noteStrengths, kb_EO_init, kb_EO_feed, kb_EO_end, kb_EO_text, kb_EO_fault, kb_EO_boat, kb_EO_letter, kb_EO_seat, kb_EO_rower, kb_EO_want, kb_EO_swing, kb_EO_off, kb_EO_good, kb_EO_lawful, kb_EO_heading, kb_EO_turn, kb_EO_swap, kb_EO_stroke, kb_EO_row, kb_EO_undo, kb_EO_seed, kb_EO_ways, kb_EO_made, kb_EO_doubled, kb_EO_still, kb_EO_nearest, kb_EO_seated, kb_EO_changes, kb_EO_race, kb_EO_stillest, kb_EO_under, kb_EO_fits, kb_EO_strengths, kb_EO_crooked, kb_EO_heirs, kb_EO_apart, kb_EO_ask, kb_EO_image, kb_EO_octet, kb_EO_on, kb_EO_status, kb_EO_refuse, kb_EO_canGoBy, kb_EO_keepFault, kb_MO_init, kb_MO_isIn, kb_MO_feed, kb_MO_end, kb_MO_fail, kb_MO_isLetter, kb_MO_isDigit, kb_MO_look, kb_MO_isHere, kb_MO_takes, kb_MO_asks, kb_MO_takesSign, kb_MO_asksSign, kb_MO_number, kb_MO_signed, kb_MO_isOwnHere, kb_MO_name, kb_MO_isFull, kb_MO_seatAt, kb_MO_seatTold, kb_MO_rowerTold, kb_MO_fixTold, kb_MO_wantTold, kb_MO_sidesTold, kb_MO_runTold, kb_MO_payTold, kb_MO_statementTold, kb_MO_text, kb_MO_stands, kb_MO_fault, kb_MO_seats, kb_MO_rowers, kb_MO_runs, kb_MO_each, kb_MO_near, kb_MO_isSeat, kb_MO_isRower, kb_MO_isFixed, kb_MO_strengthAt, kb_MO_pullOf, kb_MO_raised, kb_MO_swingBy, kb_MO_size, kb_MO_isWantedOf, kb_MO_offBy, kb_MO_isGood, kb_MO_bits, kb_MO_isLawful, kb_MO_fixedMany, kb_MO_wants, kb_MO_boat, kb_MO_letter, kb_MO_seat, kb_MO_seatOf, kb_MO_rower, kb_MO_isPower, kb_MO_want, kb_MO_swing, kb_MO_off, kb_MO_good, kb_MO_lawful, kb_MO_heading, kb_MO_keeps, kb_MO_undo, kb_MO_turn, kb_MO_changesSeats, kb_MO_canSwap, kb_MO_swap, kb_MO_canGo, kb_MO_stroke, kb_MO_seed, kb_MO_drawOf, kb_MO_rows, kb_MO_row, kb_MO_ways, kb_MO_sumBy, kb_MO_made, kb_MO_doubled, kb_MO_still, kb_MO_isNearest, kb_MO_nearest, kb_MO_putsAside, kb_MO_takesBack, kb_MO_sitBy, kb_MO_seated, kb_MO_actMany, kb_MO_acts, kb_MO_isRight, kb_MO_isOneOff, kb_MO_isTwoOff, kb_MO_isThreeOff, kb_MO_changes, kb_MO_greater, kb_MO_greatest, kb_MO_race, kb_MO_stillest, kb_MO_underBy, kb_MO_under, kb_MO_triesTold, kb_MO_isFit, kb_MO_firstUnfit, kb_MO_fits, kb_MO_fittingRows, kb_MO_strengths, kb_MO_crooked, kb_MO_payments, kb_MO_apartBy, kb_MO_heirs, kb_MO_apart, kb_MO_qCode, kb_MO_qOpens, kb_MO_qIsOn, kb_MO_qDrops, kb_MO_qIsBracket, kb_MO_qBracket, kb_MO_qDropsToBracket, kb_MO_qWordHere, kb_MO_qWordOf, kb_MO_qAsksWord, kb_MO_qEndsPart, kb_MO_qPartTold, kb_MO_qGoesOn, kb_MO_qSums, kb_MO_qFact, kb_MO_qHasSquare, kb_MO_qDropsNots, kb_MO_qTest, kb_MO_qGoesOnTest, kb_MO_qClip, kb_MO_qFloor, kb_MO_qPuts, kb_MO_qJoins, kb_MO_qPartOf, kb_MO_qOf, kb_MO_qTold, kb_MO_qKind, kb_MO_qTakes, kb_MO_ask, kb_MO_qOffAt, kb_MO_qIsGoodAt, kb_MO_checked, kb_MO_image, kb_MO_octet, kb_MO_isImage, kb_MO_on, kb_MO_status, kb_LW_law]
def blk (m n : Nat) : List AI := (bkT.getD m []).getD n []
def mxT : List Nat := [1, 6, 1, 2, 2, 4, 2, 4, 5, 4, 3, 4, 2, 3, 3, 6, 6, 2, 4, 3, 2, 3, 6, 3, 1, 4, 6, 4, 8, 6, 3, 7, 4, 1, 3, 3, 3, 3, 3, 5, 6, 5, 3, 2, 3, 2, 3, 2, 3, 3, 5, 5, 4, 1, 2, 2, 4, 2, 4, 5, 1, 1, 2, 5, 3, 6, 3, 7, 8, 6, 5, 5, 8, 1, 1, 8, 4, 1, 4, 4, 2, 7, 1, 5, 5, 10, 1, 1, 2, 2, 1, 2, 3, 6, 4, 3, 3, 3, 3, 3, 3, 4, 2, 2, 1, 3, 2, 3, 1, 3, 4, 4, 5, 5, 5, 5, 5, 5, 5, 2, 2, 2, 4, 8, 13, 5, 4, 4, 6, 3, 4, 5, 2, 3, 1, 1, 5, 10, 5, 7, 18, 6, 4, 1, 2, 1, 1, 3, 2, 1, 2, 1, 3, 1, 1, 2, 2, 1, 3, 1, 8, 5, 4, 2, 1, 1, 1, 1, 1, 2, 4, 4, 5, 5, 4, 3, 7, 7, 12, 5, 14, 5, 4, 1, 6, 2, 3, 2, 3, 3, 4, 4, 2, 3, 1, 1, 1, 1, 2, 3, 2, 2, 1, 2, 2, 3, 3, 3, 2, 3, 1, 2, 3, 3, 1, 3, 1, 2, 3, 2, 1, 2, 2, 2, 2, 2, 1, 1, 6, 8, 2, 3, 1, 1, 1, 4, 2, 2, 2, 2, 5, 5, 2, 3, 4, 3, 5, 7, 4, 3, 5, 5, 4, 2, 2, 3, 2, 1, 1, 1, 1, 1, 2, 2, 2, 4, 3, 5, 9, 2, 2, 5, 3, 3, 3, 3, 3, 2, 8, 3, 3, 3, 1, 2, 3, 1, 1, 1, 1, 2, 2, 2, 4, 3, 3, 2, 2, 2, 2, 5, 3, 7, 6, 5, 6, 4, 4, 4, 2, 2, 5, 9, 1, 5, 1, 4, 4, 4, 1, 4, 7, 2, 9, 11, 5, 2, 8, 2, 1, 7, 4, 4, 1, 8, 4, 3, 2, 3, 2, 1, 1, 2, 1, 1, 4, 2, 1, 6, 2, 3, 2, 2, 1, 3, 1, 2, 6, 3, 6, 3, 5, 4, 2, 6, 4, 5, 4, 4, 2, 2, 7, 3, 2, 4]
def mxl (m : Nat) : Nat := mxT.getD m 0
theorem e_JK_bitCount_0 : blk JK_bitCount 0 = k_JK_bitCount_0 := rfl
theorem e_JK_floorDiv_0 : blk JK_floorDiv 0 = k_JK_floorDiv_0 := rfl
theorem e_JK_floorDiv_1 : blk JK_floorDiv 1 = k_JK_floorDiv_1 := rfl
theorem e_JK_absI_0 : blk JK_absI 0 = k_JK_absI_0 := rfl
theorem e_JK_absI_1 : blk JK_absI 1 = k_JK_absI_1 := rfl
theorem e_JK_absI_2 : blk JK_absI 2 = k_JK_absI_2 := rfl
theorem e_JK_absL_0 : blk JK_absL 0 = k_JK_absL_0 := rfl
theorem e_JK_absL_1 : blk JK_absL 1 = k_JK_absL_1 := rfl
theorem e_JK_absL_2 : blk JK_absL 2 = k_JK_absL_2 := rfl
theorem e_JK_maxI_0 : blk JK_maxI 0 = k_JK_maxI_0 := rfl
theorem e_JK_maxI_1 : blk JK_maxI 1 = k_JK_maxI_1 := rfl
theorem e_JK_maxI_2 : blk JK_maxI 2 = k_JK_maxI_2 := rfl
theorem e_JK_maxL_0 : blk JK_maxL 0 = k_JK_maxL_0 := rfl
theorem e_JK_maxL_1 : blk JK_maxL 1 = k_JK_maxL_1 := rfl
theorem e_JK_maxL_2 : blk JK_maxL 2 = k_JK_maxL_2 := rfl
theorem e_JK_minI_0 : blk JK_minI 0 = k_JK_minI_0 := rfl
theorem e_JK_minI_1 : blk JK_minI 1 = k_JK_minI_1 := rfl
theorem e_JK_minI_2 : blk JK_minI 2 = k_JK_minI_2 := rfl
theorem e_JK_minL_0 : blk JK_minL 0 = k_JK_minL_0 := rfl
theorem e_JK_minL_1 : blk JK_minL 1 = k_JK_minL_1 := rfl
theorem e_JK_minL_2 : blk JK_minL 2 = k_JK_minL_2 := rfl
theorem e_JK_fillL_0 : blk JK_fillL 0 = k_JK_fillL_0 := rfl
theorem e_JK_fillL_1 : blk JK_fillL 1 = k_JK_fillL_1 := rfl
theorem e_JK_fillL_2 : blk JK_fillL 2 = k_JK_fillL_2 := rfl
theorem e_JK_fillI_0 : blk JK_fillI 0 = k_JK_fillI_0 := rfl
theorem e_JK_fillI_1 : blk JK_fillI 1 = k_JK_fillI_1 := rfl
theorem e_JK_fillI_2 : blk JK_fillI 2 = k_JK_fillI_2 := rfl
theorem e_BT_read_0 : blk BT_read 0 = k_BT_read_0 := rfl
theorem e_BT_read_1 : blk BT_read 1 = k_BT_read_1 := rfl
theorem e_BT_read_2 : blk BT_read 2 = k_BT_read_2 := rfl
theorem e_BT_read_3 : blk BT_read 3 = k_BT_read_3 := rfl
theorem e_BT_read_4 : blk BT_read 4 = k_BT_read_4 := rfl
theorem e_BT_read_5 : blk BT_read 5 = k_BT_read_5 := rfl
theorem e_BT_read_6 : blk BT_read 6 = k_BT_read_6 := rfl
theorem e_BT_statement_0 : blk BT_statement 0 = k_BT_statement_0 := rfl
theorem e_BT_statement_1 : blk BT_statement 1 = k_BT_statement_1 := rfl
theorem e_BT_statement_2 : blk BT_statement 2 = k_BT_statement_2 := rfl
theorem e_BT_statement_3 : blk BT_statement 3 = k_BT_statement_3 := rfl
theorem e_BT_statement_4 : blk BT_statement 4 = k_BT_statement_4 := rfl
theorem e_BT_statement_5 : blk BT_statement 5 = k_BT_statement_5 := rfl
theorem e_BT_statement_6 : blk BT_statement 6 = k_BT_statement_6 := rfl
theorem e_BT_statement_7 : blk BT_statement 7 = k_BT_statement_7 := rfl
theorem e_BT_statement_8 : blk BT_statement 8 = k_BT_statement_8 := rfl
theorem e_BT_statement_9 : blk BT_statement 9 = k_BT_statement_9 := rfl
theorem e_BT_statement_10 : blk BT_statement 10 = k_BT_statement_10 := rfl
theorem e_BT_statement_11 : blk BT_statement 11 = k_BT_statement_11 := rfl
theorem e_BT_isOneTooMany_0 : blk BT_isOneTooMany 0 = k_BT_isOneTooMany_0 := rfl
theorem e_BT_isOneTooMany_1 : blk BT_isOneTooMany 1 = k_BT_isOneTooMany_1 := rfl
theorem e_BT_isOneTooMany_2 : blk BT_isOneTooMany 2 = k_BT_isOneTooMany_2 := rfl
theorem e_BT_isOneTooMany_3 : blk BT_isOneTooMany 3 = k_BT_isOneTooMany_3 := rfl
theorem e_BT_isOneTooMany_4 : blk BT_isOneTooMany 4 = k_BT_isOneTooMany_4 := rfl
theorem e_BT_isOneTooMany_5 : blk BT_isOneTooMany 5 = k_BT_isOneTooMany_5 := rfl
theorem e_BT_isOneTooMany_6 : blk BT_isOneTooMany 6 = k_BT_isOneTooMany_6 := rfl
theorem e_BT_isOneTooMany_7 : blk BT_isOneTooMany 7 = k_BT_isOneTooMany_7 := rfl
theorem e_BT_isOneTooMany_8 : blk BT_isOneTooMany 8 = k_BT_isOneTooMany_8 := rfl
theorem e_BT_isOneTooMany_9 : blk BT_isOneTooMany 9 = k_BT_isOneTooMany_9 := rfl
theorem e_BT_isOneTooMany_10 : blk BT_isOneTooMany 10 = k_BT_isOneTooMany_10 := rfl
theorem e_BT_isOneTooMany_11 : blk BT_isOneTooMany 11 = k_BT_isOneTooMany_11 := rfl
theorem e_BT_isOneTooMany_12 : blk BT_isOneTooMany 12 = k_BT_isOneTooMany_12 := rfl
theorem e_BT_isOneTooMany_13 : blk BT_isOneTooMany 13 = k_BT_isOneTooMany_13 := rfl
theorem e_BT_seatTold_0 : blk BT_seatTold 0 = k_BT_seatTold_0 := rfl
theorem e_BT_seatTold_1 : blk BT_seatTold 1 = k_BT_seatTold_1 := rfl
theorem e_BT_seatTold_2 : blk BT_seatTold 2 = k_BT_seatTold_2 := rfl
theorem e_BT_seatTold_3 : blk BT_seatTold 3 = k_BT_seatTold_3 := rfl
theorem e_BT_seatTold_4 : blk BT_seatTold 4 = k_BT_seatTold_4 := rfl
theorem e_BT_rowerTold_0 : blk BT_rowerTold 0 = k_BT_rowerTold_0 := rfl
theorem e_BT_rowerTold_1 : blk BT_rowerTold 1 = k_BT_rowerTold_1 := rfl
theorem e_BT_rowerTold_2 : blk BT_rowerTold 2 = k_BT_rowerTold_2 := rfl
theorem e_BT_rowerTold_3 : blk BT_rowerTold 3 = k_BT_rowerTold_3 := rfl
theorem e_BT_rowerTold_4 : blk BT_rowerTold 4 = k_BT_rowerTold_4 := rfl
theorem e_BT_nameTold_0 : blk BT_nameTold 0 = k_BT_nameTold_0 := rfl
theorem e_BT_nameTold_1 : blk BT_nameTold 1 = k_BT_nameTold_1 := rfl
theorem e_BT_nameTold_2 : blk BT_nameTold 2 = k_BT_nameTold_2 := rfl
theorem e_BT_nameTold_3 : blk BT_nameTold 3 = k_BT_nameTold_3 := rfl
theorem e_BT_nameTold_4 : blk BT_nameTold 4 = k_BT_nameTold_4 := rfl
theorem e_BT_nameTold_5 : blk BT_nameTold 5 = k_BT_nameTold_5 := rfl
theorem e_BT_nameTold_6 : blk BT_nameTold 6 = k_BT_nameTold_6 := rfl
theorem e_BT_nameTold_7 : blk BT_nameTold 7 = k_BT_nameTold_7 := rfl
theorem e_BT_nameTold_8 : blk BT_nameTold 8 = k_BT_nameTold_8 := rfl
theorem e_BT_isName_0 : blk BT_isName 0 = k_BT_isName_0 := rfl
theorem e_BT_isName_1 : blk BT_isName 1 = k_BT_isName_1 := rfl
theorem e_BT_isName_2 : blk BT_isName 2 = k_BT_isName_2 := rfl
theorem e_BT_isName_3 : blk BT_isName 3 = k_BT_isName_3 := rfl
theorem e_BT_isName_4 : blk BT_isName 4 = k_BT_isName_4 := rfl
theorem e_BT_isName_5 : blk BT_isName 5 = k_BT_isName_5 := rfl
theorem e_BT_eachTold_0 : blk BT_eachTold 0 = k_BT_eachTold_0 := rfl
theorem e_BT_eachTold_1 : blk BT_eachTold 1 = k_BT_eachTold_1 := rfl
theorem e_BT_fixTold_0 : blk BT_fixTold 0 = k_BT_fixTold_0 := rfl
theorem e_BT_fixTold_1 : blk BT_fixTold 1 = k_BT_fixTold_1 := rfl
theorem e_BT_fixTold_2 : blk BT_fixTold 2 = k_BT_fixTold_2 := rfl
theorem e_BT_fixTold_3 : blk BT_fixTold 3 = k_BT_fixTold_3 := rfl
theorem e_BT_fixTold_4 : blk BT_fixTold 4 = k_BT_fixTold_4 := rfl
theorem e_BT_fixTold_5 : blk BT_fixTold 5 = k_BT_fixTold_5 := rfl
theorem e_BT_fixTold_6 : blk BT_fixTold 6 = k_BT_fixTold_6 := rfl
theorem e_BT_fixTold_7 : blk BT_fixTold 7 = k_BT_fixTold_7 := rfl
theorem e_BT_wantTold_0 : blk BT_wantTold 0 = k_BT_wantTold_0 := rfl
theorem e_BT_wantTold_1 : blk BT_wantTold 1 = k_BT_wantTold_1 := rfl
theorem e_BT_wantTold_2 : blk BT_wantTold 2 = k_BT_wantTold_2 := rfl
theorem e_BT_wantTold_3 : blk BT_wantTold 3 = k_BT_wantTold_3 := rfl
theorem e_BT_nearTold_0 : blk BT_nearTold 0 = k_BT_nearTold_0 := rfl
theorem e_BT_nearTold_1 : blk BT_nearTold 1 = k_BT_nearTold_1 := rfl
theorem e_BT_runTold_0 : blk BT_runTold 0 = k_BT_runTold_0 := rfl
theorem e_BT_runTold_1 : blk BT_runTold 1 = k_BT_runTold_1 := rfl
theorem e_BT_runTold_2 : blk BT_runTold 2 = k_BT_runTold_2 := rfl
theorem e_BT_runTold_3 : blk BT_runTold 3 = k_BT_runTold_3 := rfl
theorem e_BT_runTold_4 : blk BT_runTold 4 = k_BT_runTold_4 := rfl
theorem e_BT_sidesTold_0 : blk BT_sidesTold 0 = k_BT_sidesTold_0 := rfl
theorem e_BT_sidesTold_1 : blk BT_sidesTold 1 = k_BT_sidesTold_1 := rfl
theorem e_BT_sidesTold_2 : blk BT_sidesTold 2 = k_BT_sidesTold_2 := rfl
theorem e_BT_sidesTold_3 : blk BT_sidesTold 3 = k_BT_sidesTold_3 := rfl
theorem e_BT_sidesTold_4 : blk BT_sidesTold 4 = k_BT_sidesTold_4 := rfl
theorem e_BT_sidesTold_5 : blk BT_sidesTold 5 = k_BT_sidesTold_5 := rfl
theorem e_BT_sidesTold_6 : blk BT_sidesTold 6 = k_BT_sidesTold_6 := rfl
theorem e_BT_sidesTold_7 : blk BT_sidesTold 7 = k_BT_sidesTold_7 := rfl
theorem e_BT_sidesTold_8 : blk BT_sidesTold 8 = k_BT_sidesTold_8 := rfl
theorem e_BT_sidesTold_9 : blk BT_sidesTold 9 = k_BT_sidesTold_9 := rfl
theorem e_BT_payTold_0 : blk BT_payTold 0 = k_BT_payTold_0 := rfl
theorem e_BT_payTold_1 : blk BT_payTold 1 = k_BT_payTold_1 := rfl
theorem e_BT_payTold_2 : blk BT_payTold 2 = k_BT_payTold_2 := rfl
theorem e_BT_payTold_3 : blk BT_payTold 3 = k_BT_payTold_3 := rfl
theorem e_CH_init_0 : blk CH_init 0 = k_CH_init_0 := rfl
theorem e_CH_fewest_0 : blk CH_fewest 0 = k_CH_fewest_0 := rfl
theorem e_CH_fewest_1 : blk CH_fewest 1 = k_CH_fewest_1 := rfl
theorem e_CH_fewest_2 : blk CH_fewest 2 = k_CH_fewest_2 := rfl
theorem e_CH_fewest_3 : blk CH_fewest 3 = k_CH_fewest_3 := rfl
theorem e_CH_fewest_4 : blk CH_fewest 4 = k_CH_fewest_4 := rfl
theorem e_CH_fewest_5 : blk CH_fewest 5 = k_CH_fewest_5 := rfl
theorem e_CH_load_0 : blk CH_load 0 = k_CH_load_0 := rfl
theorem e_CH_load_1 : blk CH_load 1 = k_CH_load_1 := rfl
theorem e_CH_load_2 : blk CH_load 2 = k_CH_load_2 := rfl
theorem e_CH_load_3 : blk CH_load 3 = k_CH_load_3 := rfl
theorem e_CH_load_4 : blk CH_load 4 = k_CH_load_4 := rfl
theorem e_CH_load_5 : blk CH_load 5 = k_CH_load_5 := rfl
theorem e_CH_load_6 : blk CH_load 6 = k_CH_load_6 := rfl
theorem e_CH_load_7 : blk CH_load 7 = k_CH_load_7 := rfl
theorem e_CH_canBeLawful_0 : blk CH_canBeLawful 0 = k_CH_canBeLawful_0 := rfl
theorem e_CH_canBeLawful_1 : blk CH_canBeLawful 1 = k_CH_canBeLawful_1 := rfl
theorem e_CH_canBeLawful_2 : blk CH_canBeLawful 2 = k_CH_canBeLawful_2 := rfl
theorem e_CH_canBeLawful_3 : blk CH_canBeLawful 3 = k_CH_canBeLawful_3 := rfl
theorem e_CH_bySwaps_0 : blk CH_bySwaps 0 = k_CH_bySwaps_0 := rfl
theorem e_CH_bySwaps_1 : blk CH_bySwaps 1 = k_CH_bySwaps_1 := rfl
theorem e_CH_bySwaps_2 : blk CH_bySwaps 2 = k_CH_bySwaps_2 := rfl
theorem e_CH_bySwaps_3 : blk CH_bySwaps 3 = k_CH_bySwaps_3 := rfl
theorem e_CH_bySwaps_4 : blk CH_bySwaps 4 = k_CH_bySwaps_4 := rfl
theorem e_CH_bySwaps_5 : blk CH_bySwaps 5 = k_CH_bySwaps_5 := rfl
theorem e_CH_bySwaps_6 : blk CH_bySwaps 6 = k_CH_bySwaps_6 := rfl
theorem e_CH_byTurns_0 : blk CH_byTurns 0 = k_CH_byTurns_0 := rfl
theorem e_CH_byTurns_1 : blk CH_byTurns 1 = k_CH_byTurns_1 := rfl
theorem e_CH_byTurns_2 : blk CH_byTurns 2 = k_CH_byTurns_2 := rfl
theorem e_CH_byTurns_3 : blk CH_byTurns 3 = k_CH_byTurns_3 := rfl
theorem e_CH_byTurns_4 : blk CH_byTurns 4 = k_CH_byTurns_4 := rfl
theorem e_CH_byTurns_5 : blk CH_byTurns 5 = k_CH_byTurns_5 := rfl
theorem e_CH_byTurns_6 : blk CH_byTurns 6 = k_CH_byTurns_6 := rfl
theorem e_CH_isGood_0 : blk CH_isGood 0 = k_CH_isGood_0 := rfl
theorem e_CH_isGood_1 : blk CH_isGood 1 = k_CH_isGood_1 := rfl
theorem e_CH_isGood_2 : blk CH_isGood 2 = k_CH_isGood_2 := rfl
theorem e_CH_isGood_3 : blk CH_isGood 3 = k_CH_isGood_3 := rfl
theorem e_CH_exchange_0 : blk CH_exchange 0 = k_CH_exchange_0 := rfl
theorem e_CH_exchange_1 : blk CH_exchange 1 = k_CH_exchange_1 := rfl
theorem e_CH_exchange_2 : blk CH_exchange 2 = k_CH_exchange_2 := rfl
theorem e_CH_flip_0 : blk CH_flip 0 = k_CH_flip_0 := rfl
theorem e_CH_flip_1 : blk CH_flip 1 = k_CH_flip_1 := rfl
theorem e_CH_flip_2 : blk CH_flip 2 = k_CH_flip_2 := rfl
theorem e_CW_init_0 : blk CW_init 0 = k_CW_init_0 := rfl
theorem e_CW_board_0 : blk CW_board 0 = k_CW_board_0 := rfl
theorem e_CW_board_1 : blk CW_board 1 = k_CW_board_1 := rfl
theorem e_CW_board_2 : blk CW_board 2 = k_CW_board_2 := rfl
theorem e_CW_board_3 : blk CW_board 3 = k_CW_board_3 := rfl
theorem e_CW_board_4 : blk CW_board 4 = k_CW_board_4 := rfl
theorem e_CW_seatOf_0 : blk CW_seatOf 0 = k_CW_seatOf_0 := rfl
theorem e_CW_seatOf_1 : blk CW_seatOf 1 = k_CW_seatOf_1 := rfl
theorem e_CW_seatOf_2 : blk CW_seatOf 2 = k_CW_seatOf_2 := rfl
theorem e_CW_seatOf_3 : blk CW_seatOf 3 = k_CW_seatOf_3 := rfl
theorem e_CW_sides_0 : blk CW_sides 0 = k_CW_sides_0 := rfl
theorem e_CW_sides_1 : blk CW_sides 1 = k_CW_sides_1 := rfl
theorem e_CW_sides_2 : blk CW_sides 2 = k_CW_sides_2 := rfl
theorem e_CW_strengthAt_0 : blk CW_strengthAt 0 = k_CW_strengthAt_0 := rfl
theorem e_CW_strengthAt_1 : blk CW_strengthAt 1 = k_CW_strengthAt_1 := rfl
theorem e_CW_strengthAt_2 : blk CW_strengthAt 2 = k_CW_strengthAt_2 := rfl
theorem e_CW_forceIn_0 : blk CW_forceIn 0 = k_CW_forceIn_0 := rfl
theorem e_CW_forceIn_1 : blk CW_forceIn 1 = k_CW_forceIn_1 := rfl
theorem e_CW_forceIn_2 : blk CW_forceIn 2 = k_CW_forceIn_2 := rfl
theorem e_CW_leverToSide_0 : blk CW_leverToSide 0 = k_CW_leverToSide_0 := rfl
theorem e_CW_leverToSide_1 : blk CW_leverToSide 1 = k_CW_leverToSide_1 := rfl
theorem e_CW_leverToSide_2 : blk CW_leverToSide 2 = k_CW_leverToSide_2 := rfl
theorem e_CW_leverToSide_3 : blk CW_leverToSide 3 = k_CW_leverToSide_3 := rfl
theorem e_CW_swingAt_0 : blk CW_swingAt 0 = k_CW_swingAt_0 := rfl
theorem e_CW_swingAt_1 : blk CW_swingAt 1 = k_CW_swingAt_1 := rfl
theorem e_CW_swingAt_2 : blk CW_swingAt 2 = k_CW_swingAt_2 := rfl
theorem e_CW_offAt_0 : blk CW_offAt 0 = k_CW_offAt_0 := rfl
theorem e_CW_offAt_1 : blk CW_offAt 1 = k_CW_offAt_1 := rfl
theorem e_CW_offAt_2 : blk CW_offAt 2 = k_CW_offAt_2 := rfl
theorem e_CW_offAt_3 : blk CW_offAt 3 = k_CW_offAt_3 := rfl
theorem e_CW_isGoodAt_0 : blk CW_isGoodAt 0 = k_CW_isGoodAt_0 := rfl
theorem e_CW_isGoodAt_1 : blk CW_isGoodAt 1 = k_CW_isGoodAt_1 := rfl
theorem e_CW_isGoodAt_2 : blk CW_isGoodAt 2 = k_CW_isGoodAt_2 := rfl
theorem e_CW_isGoodAt_3 : blk CW_isGoodAt 3 = k_CW_isGoodAt_3 := rfl
theorem e_CW_turnSeat_0 : blk CW_turnSeat 0 = k_CW_turnSeat_0 := rfl
theorem e_CW_turnSeat_1 : blk CW_turnSeat 1 = k_CW_turnSeat_1 := rfl
theorem e_CW_turnSeat_2 : blk CW_turnSeat 2 = k_CW_turnSeat_2 := rfl
theorem e_CW_swapRowers_0 : blk CW_swapRowers 0 = k_CW_swapRowers_0 := rfl
theorem e_CW_swapRowers_1 : blk CW_swapRowers 1 = k_CW_swapRowers_1 := rfl
theorem e_CW_swapRowers_2 : blk CW_swapRowers 2 = k_CW_swapRowers_2 := rfl
theorem e_CW_swapRowers_3 : blk CW_swapRowers 3 = k_CW_swapRowers_3 := rfl
theorem e_CW_passBy_0 : blk CW_passBy 0 = k_CW_passBy_0 := rfl
theorem e_CW_rowOn_0 : blk CW_rowOn 0 = k_CW_rowOn_0 := rfl
theorem e_CW_rowOn_1 : blk CW_rowOn 1 = k_CW_rowOn_1 := rfl
theorem e_CW_rowOn_2 : blk CW_rowOn 2 = k_CW_rowOn_2 := rfl
theorem e_CW_undoAct_0 : blk CW_undoAct 0 = k_CW_undoAct_0 := rfl
theorem e_CW_undoAct_1 : blk CW_undoAct 1 = k_CW_undoAct_1 := rfl
theorem e_CW_undoAct_2 : blk CW_undoAct 2 = k_CW_undoAct_2 := rfl
theorem e_CW_undoAct_3 : blk CW_undoAct 3 = k_CW_undoAct_3 := rfl
theorem e_CW_undoAct_4 : blk CW_undoAct 4 = k_CW_undoAct_4 := rfl
theorem e_CW_undoAct_5 : blk CW_undoAct 5 = k_CW_undoAct_5 := rfl
theorem e_CW_writeImage_0 : blk CW_writeImage 0 = k_CW_writeImage_0 := rfl
theorem e_CW_writeImage_1 : blk CW_writeImage 1 = k_CW_writeImage_1 := rfl
theorem e_CW_writeImage_2 : blk CW_writeImage 2 = k_CW_writeImage_2 := rfl
theorem e_CW_writeImage_3 : blk CW_writeImage 3 = k_CW_writeImage_3 := rfl
theorem e_CW_writeImage_4 : blk CW_writeImage 4 = k_CW_writeImage_4 := rfl
theorem e_CW_writeImage_5 : blk CW_writeImage 5 = k_CW_writeImage_5 := rfl
theorem e_CW_writeImage_6 : blk CW_writeImage 6 = k_CW_writeImage_6 := rfl
theorem e_CW_takeImage_0 : blk CW_takeImage 0 = k_CW_takeImage_0 := rfl
theorem e_CW_takeImage_1 : blk CW_takeImage 1 = k_CW_takeImage_1 := rfl
theorem e_CW_takeImage_2 : blk CW_takeImage 2 = k_CW_takeImage_2 := rfl
theorem e_CW_takeImage_3 : blk CW_takeImage 3 = k_CW_takeImage_3 := rfl
theorem e_CW_takeImage_4 : blk CW_takeImage 4 = k_CW_takeImage_4 := rfl
theorem e_CW_takeImage_5 : blk CW_takeImage 5 = k_CW_takeImage_5 := rfl
theorem e_CW_isImage_0 : blk CW_isImage 0 = k_CW_isImage_0 := rfl
theorem e_CW_isImage_1 : blk CW_isImage 1 = k_CW_isImage_1 := rfl
theorem e_CW_isImage_2 : blk CW_isImage 2 = k_CW_isImage_2 := rfl
theorem e_CW_isImage_3 : blk CW_isImage 3 = k_CW_isImage_3 := rfl
theorem e_CW_isImage_4 : blk CW_isImage 4 = k_CW_isImage_4 := rfl
theorem e_CW_isImage_5 : blk CW_isImage 5 = k_CW_isImage_5 := rfl
theorem e_CW_rowersCanSitSo_0 : blk CW_rowersCanSitSo 0 = k_CW_rowersCanSitSo_0 := rfl
theorem e_CW_rowersCanSitSo_1 : blk CW_rowersCanSitSo 1 = k_CW_rowersCanSitSo_1 := rfl
theorem e_CW_rowersCanSitSo_2 : blk CW_rowersCanSitSo 2 = k_CW_rowersCanSitSo_2 := rfl
theorem e_CW_rowersCanSitSo_3 : blk CW_rowersCanSitSo 3 = k_CW_rowersCanSitSo_3 := rfl
theorem e_CW_rowersCanSitSo_4 : blk CW_rowersCanSitSo 4 = k_CW_rowersCanSitSo_4 := rfl
theorem e_CW_rowersCanSitSo_5 : blk CW_rowersCanSitSo 5 = k_CW_rowersCanSitSo_5 := rfl
theorem e_CW_rowersCanSitSo_6 : blk CW_rowersCanSitSo 6 = k_CW_rowersCanSitSo_6 := rfl
theorem e_CW_rowersCanSitSo_7 : blk CW_rowersCanSitSo 7 = k_CW_rowersCanSitSo_7 := rfl
theorem e_CW_sidesCanBeSo_0 : blk CW_sidesCanBeSo 0 = k_CW_sidesCanBeSo_0 := rfl
theorem e_CW_sidesCanBeSo_1 : blk CW_sidesCanBeSo 1 = k_CW_sidesCanBeSo_1 := rfl
theorem e_CW_sidesCanBeSo_2 : blk CW_sidesCanBeSo 2 = k_CW_sidesCanBeSo_2 := rfl
theorem e_CW_sidesCanBeSo_3 : blk CW_sidesCanBeSo 3 = k_CW_sidesCanBeSo_3 := rfl
theorem e_CW_sidesCanBeSo_4 : blk CW_sidesCanBeSo 4 = k_CW_sidesCanBeSo_4 := rfl
theorem e_CW_strokeIn_0 : blk CW_strokeIn 0 = k_CW_strokeIn_0 := rfl
theorem e_CW_checkOn_0 : blk CW_checkOn 0 = k_CW_checkOn_0 := rfl
theorem e_CW_writeOctet_0 : blk CW_writeOctet 0 = k_CW_writeOctet_0 := rfl
theorem e_CW_writeOctet_1 : blk CW_writeOctet 1 = k_CW_writeOctet_1 := rfl
theorem e_CW_noteAct_0 : blk CW_noteAct 0 = k_CW_noteAct_0 := rfl
theorem e_CW_flip_0 : blk CW_flip 0 = k_CW_flip_0 := rfl
theorem e_CW_flip_1 : blk CW_flip 1 = k_CW_flip_1 := rfl
theorem e_CW_exchange_0 : blk CW_exchange 0 = k_CW_exchange_0 := rfl
theorem e_CW_exchange_1 : blk CW_exchange 1 = k_CW_exchange_1 := rfl
theorem e_CW_drawnSwing_0 : blk CW_drawnSwing 0 = k_CW_drawnSwing_0 := rfl
theorem e_CW_drawnSwing_1 : blk CW_drawnSwing 1 = k_CW_drawnSwing_1 := rfl
theorem e_CW_drawnSwing_2 : blk CW_drawnSwing 2 = k_CW_drawnSwing_2 := rfl
theorem e_CW_drawnSwing_3 : blk CW_drawnSwing 3 = k_CW_drawnSwing_3 := rfl
theorem e_CW_drawOfThree_0 : blk CW_drawOfThree 0 = k_CW_drawOfThree_0 := rfl
theorem e_HV_init_0 : blk HV_init 0 = k_HV_init_0 := rfl
theorem e_HV_waysFor_0 : blk HV_waysFor 0 = k_HV_waysFor_0 := rfl
theorem e_HV_waysFor_1 : blk HV_waysFor 1 = k_HV_waysFor_1 := rfl
theorem e_HV_waysFor_2 : blk HV_waysFor 2 = k_HV_waysFor_2 := rfl
theorem e_HV_waysFor_3 : blk HV_waysFor 3 = k_HV_waysFor_3 := rfl
theorem e_HV_countWays_0 : blk HV_countWays 0 = k_HV_countWays_0 := rfl
theorem e_HV_countWays_1 : blk HV_countWays 1 = k_HV_countWays_1 := rfl
theorem e_HV_countWays_2 : blk HV_countWays 2 = k_HV_countWays_2 := rfl
theorem e_HV_countWays_3 : blk HV_countWays 3 = k_HV_countWays_3 := rfl
theorem e_HV_countWays_4 : blk HV_countWays 4 = k_HV_countWays_4 := rfl
theorem e_HV_countWays_5 : blk HV_countWays 5 = k_HV_countWays_5 := rfl
theorem e_HV_countWays_6 : blk HV_countWays 6 = k_HV_countWays_6 := rfl
theorem e_HV_countWays_7 : blk HV_countWays 7 = k_HV_countWays_7 := rfl
theorem e_HV_wayAt_0 : blk HV_wayAt 0 = k_HV_wayAt_0 := rfl
theorem e_HV_wayAt_1 : blk HV_wayAt 1 = k_HV_wayAt_1 := rfl
theorem e_HV_wayAt_2 : blk HV_wayAt 2 = k_HV_wayAt_2 := rfl
theorem e_HV_choose_0 : blk HV_choose 0 = k_HV_choose_0 := rfl
theorem e_HV_choose_1 : blk HV_choose 1 = k_HV_choose_1 := rfl
theorem e_HV_choose_2 : blk HV_choose 2 = k_HV_choose_2 := rfl
theorem e_HV_choose_3 : blk HV_choose 3 = k_HV_choose_3 := rfl
theorem e_HV_choose_4 : blk HV_choose 4 = k_HV_choose_4 := rfl
theorem e_HV_choose_5 : blk HV_choose 5 = k_HV_choose_5 := rfl
theorem e_HV_canBe_0 : blk HV_canBe 0 = k_HV_canBe_0 := rfl
theorem e_HV_canBe_1 : blk HV_canBe 1 = k_HV_canBe_1 := rfl
theorem e_HV_canBe_2 : blk HV_canBe 2 = k_HV_canBe_2 := rfl
theorem e_HV_sumDoubled_0 : blk HV_sumDoubled 0 = k_HV_sumDoubled_0 := rfl
theorem e_HV_sumDoubled_1 : blk HV_sumDoubled 1 = k_HV_sumDoubled_1 := rfl
theorem e_HV_sumDoubled_2 : blk HV_sumDoubled 2 = k_HV_sumDoubled_2 := rfl
theorem e_HV_sumDoubled_3 : blk HV_sumDoubled 3 = k_HV_sumDoubled_3 := rfl
theorem e_HV_sumDoubled_4 : blk HV_sumDoubled 4 = k_HV_sumDoubled_4 := rfl
theorem e_HV_sumDoubled_5 : blk HV_sumDoubled 5 = k_HV_sumDoubled_5 := rfl
theorem e_HV_sumDoubled_6 : blk HV_sumDoubled 6 = k_HV_sumDoubled_6 := rfl
theorem e_HV_stillUpTo_0 : blk HV_stillUpTo 0 = k_HV_stillUpTo_0 := rfl
theorem e_HV_stillUpTo_1 : blk HV_stillUpTo 1 = k_HV_stillUpTo_1 := rfl
theorem e_HV_stillUpTo_2 : blk HV_stillUpTo 2 = k_HV_stillUpTo_2 := rfl
theorem e_HV_stillUpTo_3 : blk HV_stillUpTo 3 = k_HV_stillUpTo_3 := rfl
theorem e_HV_stillUpTo_4 : blk HV_stillUpTo 4 = k_HV_stillUpTo_4 := rfl
theorem e_HV_stillUpTo_5 : blk HV_stillUpTo 5 = k_HV_stillUpTo_5 := rfl
theorem e_HV_stillUpTo_6 : blk HV_stillUpTo 6 = k_HV_stillUpTo_6 := rfl
theorem e_HV_stillUpTo_7 : blk HV_stillUpTo 7 = k_HV_stillUpTo_7 := rfl
theorem e_HV_stillUpTo_8 : blk HV_stillUpTo 8 = k_HV_stillUpTo_8 := rfl
theorem e_HV_stillUpTo_9 : blk HV_stillUpTo 9 = k_HV_stillUpTo_9 := rfl
theorem e_HV_power_0 : blk HV_power 0 = k_HV_power_0 := rfl
theorem e_HV_power_1 : blk HV_power 1 = k_HV_power_1 := rfl
theorem e_HV_power_2 : blk HV_power 2 = k_HV_power_2 := rfl
theorem e_HV_partPayments_0 : blk HV_partPayments 0 = k_HV_partPayments_0 := rfl
theorem e_HV_partPayments_1 : blk HV_partPayments 1 = k_HV_partPayments_1 := rfl
theorem e_HV_partPayments_2 : blk HV_partPayments 2 = k_HV_partPayments_2 := rfl
theorem e_HV_partPayments_3 : blk HV_partPayments 3 = k_HV_partPayments_3 := rfl
theorem e_HV_partPayments_4 : blk HV_partPayments 4 = k_HV_partPayments_4 := rfl
theorem e_HV_partPayments_5 : blk HV_partPayments 5 = k_HV_partPayments_5 := rfl
theorem e_HV_partPayments_6 : blk HV_partPayments 6 = k_HV_partPayments_6 := rfl
theorem e_HV_addPayments_0 : blk HV_addPayments 0 = k_HV_addPayments_0 := rfl
theorem e_HV_addPayments_1 : blk HV_addPayments 1 = k_HV_addPayments_1 := rfl
theorem e_HV_addPayments_2 : blk HV_addPayments 2 = k_HV_addPayments_2 := rfl
theorem e_HV_heirsApart_0 : blk HV_heirsApart 0 = k_HV_heirsApart_0 := rfl
theorem e_HV_heirsApart_1 : blk HV_heirsApart 1 = k_HV_heirsApart_1 := rfl
theorem e_HV_heirsApart_2 : blk HV_heirsApart 2 = k_HV_heirsApart_2 := rfl
theorem e_HV_heirsApart_3 : blk HV_heirsApart 3 = k_HV_heirsApart_3 := rfl
theorem e_HV_heirsApart_4 : blk HV_heirsApart 4 = k_HV_heirsApart_4 := rfl
theorem e_HV_heirsApart_5 : blk HV_heirsApart 5 = k_HV_heirsApart_5 := rfl
theorem e_HV_heirsApart_6 : blk HV_heirsApart 6 = k_HV_heirsApart_6 := rfl
theorem e_LN_init_0 : blk LN_init 0 = k_LN_init_0 := rfl
theorem e_LN_clear_0 : blk LN_clear 0 = k_LN_clear_0 := rfl
theorem e_LN_add_0 : blk LN_add 0 = k_LN_add_0 := rfl
theorem e_LN_add_1 : blk LN_add 1 = k_LN_add_1 := rfl
theorem e_LN_add_2 : blk LN_add 2 = k_LN_add_2 := rfl
theorem e_LN_add_3 : blk LN_add 3 = k_LN_add_3 := rfl
theorem e_LN_add_4 : blk LN_add 4 = k_LN_add_4 := rfl
theorem e_LN_advanceTo_0 : blk LN_advanceTo 0 = k_LN_advanceTo_0 := rfl
theorem e_LN_advanceTo_1 : blk LN_advanceTo 1 = k_LN_advanceTo_1 := rfl
theorem e_LN_advanceTo_2 : blk LN_advanceTo 2 = k_LN_advanceTo_2 := rfl
theorem e_LN_advanceTo_3 : blk LN_advanceTo 3 = k_LN_advanceTo_3 := rfl
theorem e_NE_init_0 : blk NE_init 0 = k_NE_init_0 := rfl
theorem e_NE_findAsTheySit_0 : blk NE_findAsTheySit 0 = k_NE_findAsTheySit_0 := rfl
theorem e_NE_findAsTheySit_1 : blk NE_findAsTheySit 1 = k_NE_findAsTheySit_1 := rfl
theorem e_NE_findAsTheySit_2 : blk NE_findAsTheySit 2 = k_NE_findAsTheySit_2 := rfl
theorem e_NE_findOrder_0 : blk NE_findOrder 0 = k_NE_findOrder_0 := rfl
theorem e_NE_findOrder_1 : blk NE_findOrder 1 = k_NE_findOrder_1 := rfl
theorem e_NE_bestRower_0 : blk NE_bestRower 0 = k_NE_bestRower_0 := rfl
theorem e_NE_bestRower_1 : blk NE_bestRower 1 = k_NE_bestRower_1 := rfl
theorem e_NE_bestRower_2 : blk NE_bestRower 2 = k_NE_bestRower_2 := rfl
theorem e_NE_arrange_0 : blk NE_arrange 0 = k_NE_arrange_0 := rfl
theorem e_NE_arrange_1 : blk NE_arrange 1 = k_NE_arrange_1 := rfl
theorem e_NE_arrange_2 : blk NE_arrange 2 = k_NE_arrange_2 := rfl
theorem e_NE_arrange_3 : blk NE_arrange 3 = k_NE_arrange_3 := rfl
theorem e_NE_arrange_4 : blk NE_arrange 4 = k_NE_arrange_4 := rfl
theorem e_NE_arrange_5 : blk NE_arrange 5 = k_NE_arrange_5 := rfl
theorem e_NE_arrange_6 : blk NE_arrange 6 = k_NE_arrange_6 := rfl
theorem e_NE_arrange_7 : blk NE_arrange 7 = k_NE_arrange_7 := rfl
theorem e_NE_keepOrder_0 : blk NE_keepOrder 0 = k_NE_keepOrder_0 := rfl
theorem e_NE_scan_0 : blk NE_scan 0 = k_NE_scan_0 := rfl
theorem e_NE_scan_1 : blk NE_scan 1 = k_NE_scan_1 := rfl
theorem e_NE_scan_2 : blk NE_scan 2 = k_NE_scan_2 := rfl
theorem e_NE_scan_3 : blk NE_scan 3 = k_NE_scan_3 := rfl
theorem e_NE_scan_4 : blk NE_scan 4 = k_NE_scan_4 := rfl
theorem e_NE_setLanes_0 : blk NE_setLanes 0 = k_NE_setLanes_0 := rfl
theorem e_NE_setLanes_1 : blk NE_setLanes 1 = k_NE_setLanes_1 := rfl
theorem e_NE_setLanes_2 : blk NE_setLanes 2 = k_NE_setLanes_2 := rfl
theorem e_NE_setLanes_3 : blk NE_setLanes 3 = k_NE_setLanes_3 := rfl
theorem e_NE_setLanes_4 : blk NE_setLanes 4 = k_NE_setLanes_4 := rfl
theorem e_NE_setLanes_5 : blk NE_setLanes 5 = k_NE_setLanes_5 := rfl
theorem e_NE_weigh_0 : blk NE_weigh 0 = k_NE_weigh_0 := rfl
theorem e_NE_weigh_1 : blk NE_weigh 1 = k_NE_weigh_1 := rfl
theorem e_NE_weigh_2 : blk NE_weigh 2 = k_NE_weigh_2 := rfl
theorem e_NE_weigh_3 : blk NE_weigh 3 = k_NE_weigh_3 := rfl
theorem e_NE_weigh_4 : blk NE_weigh 4 = k_NE_weigh_4 := rfl
theorem e_NE_weigh_5 : blk NE_weigh 5 = k_NE_weigh_5 := rfl
theorem e_NE_weigh_6 : blk NE_weigh 6 = k_NE_weigh_6 := rfl
theorem e_NE_weigh_7 : blk NE_weigh 7 = k_NE_weigh_7 := rfl
theorem e_PL_init_0 : blk PL_init 0 = k_PL_init_0 := rfl
theorem e_PL_clear_0 : blk PL_clear 0 = k_PL_clear_0 := rfl
theorem e_PL_isSeat_0 : blk PL_isSeat 0 = k_PL_isSeat_0 := rfl
theorem e_PL_isSeat_1 : blk PL_isSeat 1 = k_PL_isSeat_1 := rfl
theorem e_PL_isSeat_2 : blk PL_isSeat 2 = k_PL_isSeat_2 := rfl
theorem e_PL_isRower_0 : blk PL_isRower 0 = k_PL_isRower_0 := rfl
theorem e_PL_isRower_1 : blk PL_isRower 1 = k_PL_isRower_1 := rfl
theorem e_PL_isRower_2 : blk PL_isRower 2 = k_PL_isRower_2 := rfl
theorem e_PL_isPower_0 : blk PL_isPower 0 = k_PL_isPower_0 := rfl
theorem e_PL_isPower_1 : blk PL_isPower 1 = k_PL_isPower_1 := rfl
theorem e_PL_isPower_2 : blk PL_isPower 2 = k_PL_isPower_2 := rfl
theorem e_PL_isFixed_0 : blk PL_isFixed 0 = k_PL_isFixed_0 := rfl
theorem e_PL_isFixed_1 : blk PL_isFixed 1 = k_PL_isFixed_1 := rfl
theorem e_PL_isFixed_2 : blk PL_isFixed 2 = k_PL_isFixed_2 := rfl
theorem e_PL_seatAtPlace_0 : blk PL_seatAtPlace 0 = k_PL_seatAtPlace_0 := rfl
theorem e_PL_seatAtPlace_1 : blk PL_seatAtPlace 1 = k_PL_seatAtPlace_1 := rfl
theorem e_PL_seatAtPlace_2 : blk PL_seatAtPlace 2 = k_PL_seatAtPlace_2 := rfl
theorem e_PL_seatAtPlace_3 : blk PL_seatAtPlace 3 = k_PL_seatAtPlace_3 := rfl
theorem e_PL_addSeat_0 : blk PL_addSeat 0 = k_PL_addSeat_0 := rfl
theorem e_PL_addSeat_1 : blk PL_addSeat 1 = k_PL_addSeat_1 := rfl
theorem e_PL_addSeat_2 : blk PL_addSeat 2 = k_PL_addSeat_2 := rfl
theorem e_PL_addSeat_3 : blk PL_addSeat 3 = k_PL_addSeat_3 := rfl
theorem e_PL_fixSeat_0 : blk PL_fixSeat 0 = k_PL_fixSeat_0 := rfl
theorem e_PL_fixSeat_1 : blk PL_fixSeat 1 = k_PL_fixSeat_1 := rfl
theorem e_PL_fixSeat_2 : blk PL_fixSeat 2 = k_PL_fixSeat_2 := rfl
theorem e_PL_fixSeat_3 : blk PL_fixSeat 3 = k_PL_fixSeat_3 := rfl
theorem e_PL_fixSeat_4 : blk PL_fixSeat 4 = k_PL_fixSeat_4 := rfl
theorem e_PL_addRower_0 : blk PL_addRower 0 = k_PL_addRower_0 := rfl
theorem e_PL_addRower_1 : blk PL_addRower 1 = k_PL_addRower_1 := rfl
theorem e_PL_wantSwing_0 : blk PL_wantSwing 0 = k_PL_wantSwing_0 := rfl
theorem e_PL_wantSwing_1 : blk PL_wantSwing 1 = k_PL_wantSwing_1 := rfl
theorem e_PL_addRun_0 : blk PL_addRun 0 = k_PL_addRun_0 := rfl
theorem e_PL_addRun_1 : blk PL_addRun 1 = k_PL_addRun_1 := rfl
theorem e_PL_setRunSide_0 : blk PL_setRunSide 0 = k_PL_setRunSide_0 := rfl
theorem e_PL_setRunSide_1 : blk PL_setRunSide 1 = k_PL_setRunSide_1 := rfl
theorem e_PL_addPayment_0 : blk PL_addPayment 0 = k_PL_addPayment_0 := rfl
theorem e_PL_addPayment_1 : blk PL_addPayment 1 = k_PL_addPayment_1 := rfl
theorem e_PL_wants_0 : blk PL_wants 0 = k_PL_wants_0 := rfl
theorem e_PL_wants_1 : blk PL_wants 1 = k_PL_wants_1 := rfl
theorem e_PL_wants_2 : blk PL_wants 2 = k_PL_wants_2 := rfl
theorem e_PL_wants_3 : blk PL_wants 3 = k_PL_wants_3 := rfl
theorem e_PL_leverOf_0 : blk PL_leverOf 0 = k_PL_leverOf_0 := rfl
theorem e_PL_leverOf_1 : blk PL_leverOf 1 = k_PL_leverOf_1 := rfl
theorem e_PL_leverOf_2 : blk PL_leverOf 2 = k_PL_leverOf_2 := rfl
theorem e_PL_leverOf_3 : blk PL_leverOf 3 = k_PL_leverOf_3 := rfl
theorem e_PL_leverOf_4 : blk PL_leverOf 4 = k_PL_leverOf_4 := rfl
theorem e_PL_allows_0 : blk PL_allows 0 = k_PL_allows_0 := rfl
theorem e_PL_allows_1 : blk PL_allows 1 = k_PL_allows_1 := rfl
theorem e_PL_allows_2 : blk PL_allows 2 = k_PL_allows_2 := rfl
theorem e_PL_allows_3 : blk PL_allows 3 = k_PL_allows_3 := rfl
theorem e_PL_sideAtFirst_0 : blk PL_sideAtFirst 0 = k_PL_sideAtFirst_0 := rfl
theorem e_PL_sideAtFirst_1 : blk PL_sideAtFirst 1 = k_PL_sideAtFirst_1 := rfl
theorem e_PL_seatedAtFirst_0 : blk PL_seatedAtFirst 0 = k_PL_seatedAtFirst_0 := rfl
theorem e_PL_runLever_0 : blk PL_runLever 0 = k_PL_runLever_0 := rfl
theorem e_PL_runLever_1 : blk PL_runLever 1 = k_PL_runLever_1 := rfl
theorem e_PL_runLever_2 : blk PL_runLever 2 = k_PL_runLever_2 := rfl
theorem e_PL_swungOf_0 : blk PL_swungOf 0 = k_PL_swungOf_0 := rfl
theorem e_PL_swungOf_1 : blk PL_swungOf 1 = k_PL_swungOf_1 := rfl
theorem e_PL_swungOf_2 : blk PL_swungOf 2 = k_PL_swungOf_2 := rfl
theorem e_PL_payment_0 : blk PL_payment 0 = k_PL_payment_0 := rfl
theorem e_PL_payment_1 : blk PL_payment 1 = k_PL_payment_1 := rfl
theorem e_PL_payment_2 : blk PL_payment 2 = k_PL_payment_2 := rfl
theorem e_PL_payment_3 : blk PL_payment 3 = k_PL_payment_3 := rfl
theorem e_PL_payment_4 : blk PL_payment 4 = k_PL_payment_4 := rfl
theorem e_QU_init_0 : blk QU_init 0 = k_QU_init_0 := rfl
theorem e_QU_read_0 : blk QU_read 0 = k_QU_read_0 := rfl
theorem e_QU_read_1 : blk QU_read 1 = k_QU_read_1 := rfl
theorem e_QU_read_2 : blk QU_read 2 = k_QU_read_2 := rfl
theorem e_QU_read_3 : blk QU_read 3 = k_QU_read_3 := rfl
theorem e_QU_read_4 : blk QU_read 4 = k_QU_read_4 := rfl
theorem e_QU_read_5 : blk QU_read 5 = k_QU_read_5 := rfl
theorem e_QU_read_6 : blk QU_read 6 = k_QU_read_6 := rfl
theorem e_QU_read_7 : blk QU_read 7 = k_QU_read_7 := rfl
theorem e_QU_test_0 : blk QU_test 0 = k_QU_test_0 := rfl
theorem e_QU_test_1 : blk QU_test 1 = k_QU_test_1 := rfl
theorem e_QU_test_2 : blk QU_test 2 = k_QU_test_2 := rfl
theorem e_QU_test_3 : blk QU_test 3 = k_QU_test_3 := rfl
theorem e_QU_test_4 : blk QU_test 4 = k_QU_test_4 := rfl
theorem e_QU_both_0 : blk QU_both 0 = k_QU_both_0 := rfl
theorem e_QU_both_1 : blk QU_both 1 = k_QU_both_1 := rfl
theorem e_QU_both_2 : blk QU_both 2 = k_QU_both_2 := rfl
theorem e_QU_both_3 : blk QU_both 3 = k_QU_both_3 := rfl
theorem e_QU_both_4 : blk QU_both 4 = k_QU_both_4 := rfl
theorem e_QU_fact_0 : blk QU_fact 0 = k_QU_fact_0 := rfl
theorem e_QU_fact_1 : blk QU_fact 1 = k_QU_fact_1 := rfl
theorem e_QU_fact_2 : blk QU_fact 2 = k_QU_fact_2 := rfl
theorem e_QU_fact_3 : blk QU_fact 3 = k_QU_fact_3 := rfl
theorem e_QU_fact_4 : blk QU_fact 4 = k_QU_fact_4 := rfl
theorem e_QU_fact_5 : blk QU_fact 5 = k_QU_fact_5 := rfl
theorem e_QU_fact_6 : blk QU_fact 6 = k_QU_fact_6 := rfl
theorem e_QU_comparison_0 : blk QU_comparison 0 = k_QU_comparison_0 := rfl
theorem e_QU_comparison_1 : blk QU_comparison 1 = k_QU_comparison_1 := rfl
theorem e_QU_comparison_2 : blk QU_comparison 2 = k_QU_comparison_2 := rfl
theorem e_QU_comparison_3 : blk QU_comparison 3 = k_QU_comparison_3 := rfl
theorem e_QU_comparison_4 : blk QU_comparison 4 = k_QU_comparison_4 := rfl
theorem e_QU_comparison_5 : blk QU_comparison 5 = k_QU_comparison_5 := rfl
theorem e_QU_comparison_6 : blk QU_comparison 6 = k_QU_comparison_6 := rfl
theorem e_QU_sum_0 : blk QU_sum 0 = k_QU_sum_0 := rfl
theorem e_QU_sum_1 : blk QU_sum 1 = k_QU_sum_1 := rfl
theorem e_QU_sum_2 : blk QU_sum 2 = k_QU_sum_2 := rfl
theorem e_QU_sum_3 : blk QU_sum 3 = k_QU_sum_3 := rfl
theorem e_QU_sum_4 : blk QU_sum 4 = k_QU_sum_4 := rfl
theorem e_QU_sum_5 : blk QU_sum 5 = k_QU_sum_5 := rfl
theorem e_QU_sum_6 : blk QU_sum 6 = k_QU_sum_6 := rfl
theorem e_QU_sum_7 : blk QU_sum 7 = k_QU_sum_7 := rfl
theorem e_QU_sum_8 : blk QU_sum 8 = k_QU_sum_8 := rfl
theorem e_QU_product_0 : blk QU_product 0 = k_QU_product_0 := rfl
theorem e_QU_product_1 : blk QU_product 1 = k_QU_product_1 := rfl
theorem e_QU_product_2 : blk QU_product 2 = k_QU_product_2 := rfl
theorem e_QU_product_3 : blk QU_product 3 = k_QU_product_3 := rfl
theorem e_QU_product_4 : blk QU_product 4 = k_QU_product_4 := rfl
theorem e_QU_product_5 : blk QU_product 5 = k_QU_product_5 := rfl
theorem e_QU_product_6 : blk QU_product 6 = k_QU_product_6 := rfl
theorem e_QU_product_7 : blk QU_product 7 = k_QU_product_7 := rfl
theorem e_QU_product_8 : blk QU_product 8 = k_QU_product_8 := rfl
theorem e_QU_part_0 : blk QU_part 0 = k_QU_part_0 := rfl
theorem e_QU_part_1 : blk QU_part 1 = k_QU_part_1 := rfl
theorem e_QU_part_2 : blk QU_part 2 = k_QU_part_2 := rfl
theorem e_QU_part_3 : blk QU_part 3 = k_QU_part_3 := rfl
theorem e_QU_part_4 : blk QU_part 4 = k_QU_part_4 := rfl
theorem e_QU_part_5 : blk QU_part 5 = k_QU_part_5 := rfl
theorem e_QU_part_6 : blk QU_part 6 = k_QU_part_6 := rfl
theorem e_QU_part_7 : blk QU_part 7 = k_QU_part_7 := rfl
theorem e_QU_part_8 : blk QU_part 8 = k_QU_part_8 := rfl
theorem e_QU_partOf_0 : blk QU_partOf 0 = k_QU_partOf_0 := rfl
theorem e_QU_partOf_1 : blk QU_partOf 1 = k_QU_partOf_1 := rfl
theorem e_QU_pair_0 : blk QU_pair 0 = k_QU_pair_0 := rfl
theorem e_QU_pair_1 : blk QU_pair 1 = k_QU_pair_1 := rfl
theorem e_QU_pair_2 : blk QU_pair 2 = k_QU_pair_2 := rfl
theorem e_QU_pair_3 : blk QU_pair 3 = k_QU_pair_3 := rfl
theorem e_QU_mayOpen_0 : blk QU_mayOpen 0 = k_QU_mayOpen_0 := rfl
theorem e_QU_mayOpen_1 : blk QU_mayOpen 1 = k_QU_mayOpen_1 := rfl
theorem e_QU_mayOpen_2 : blk QU_mayOpen 2 = k_QU_mayOpen_2 := rfl
theorem e_QU_mayOpen_3 : blk QU_mayOpen 3 = k_QU_mayOpen_3 := rfl
theorem e_QU_code_0 : blk QU_code 0 = k_QU_code_0 := rfl
theorem e_QU_keep_0 : blk QU_keep 0 = k_QU_keep_0 := rfl
theorem e_QU_keep_1 : blk QU_keep 1 = k_QU_keep_1 := rfl
theorem e_QU_answer_0 : blk QU_answer 0 = k_QU_answer_0 := rfl
theorem e_QU_answer_1 : blk QU_answer 1 = k_QU_answer_1 := rfl
theorem e_QU_answer_2 : blk QU_answer 2 = k_QU_answer_2 := rfl
theorem e_QU_answerTest_0 : blk QU_answerTest 0 = k_QU_answerTest_0 := rfl
theorem e_QU_answerTest_1 : blk QU_answerTest 1 = k_QU_answerTest_1 := rfl
theorem e_QU_answerTest_2 : blk QU_answerTest 2 = k_QU_answerTest_2 := rfl
theorem e_QU_answerTest_3 : blk QU_answerTest 3 = k_QU_answerTest_3 := rfl
theorem e_QU_answerTest_4 : blk QU_answerTest 4 = k_QU_answerTest_4 := rfl
theorem e_QU_answerTest_5 : blk QU_answerTest 5 = k_QU_answerTest_5 := rfl
theorem e_QU_answerTest_6 : blk QU_answerTest 6 = k_QU_answerTest_6 := rfl
theorem e_QU_answerTest_7 : blk QU_answerTest 7 = k_QU_answerTest_7 := rfl
theorem e_QU_answerTest_8 : blk QU_answerTest 8 = k_QU_answerTest_8 := rfl
theorem e_QU_answerSum_0 : blk QU_answerSum 0 = k_QU_answerSum_0 := rfl
theorem e_QU_answerSum_1 : blk QU_answerSum 1 = k_QU_answerSum_1 := rfl
theorem e_QU_answerSum_2 : blk QU_answerSum 2 = k_QU_answerSum_2 := rfl
theorem e_QU_answerSum_3 : blk QU_answerSum 3 = k_QU_answerSum_3 := rfl
theorem e_QU_answerSum_4 : blk QU_answerSum 4 = k_QU_answerSum_4 := rfl
theorem e_QU_answerSum_5 : blk QU_answerSum 5 = k_QU_answerSum_5 := rfl
theorem e_QU_valueAt_0 : blk QU_valueAt 0 = k_QU_valueAt_0 := rfl
theorem e_QU_valueAt_1 : blk QU_valueAt 1 = k_QU_valueAt_1 := rfl
theorem e_QU_valueAt_2 : blk QU_valueAt 2 = k_QU_valueAt_2 := rfl
theorem e_QU_valueAt_3 : blk QU_valueAt 3 = k_QU_valueAt_3 := rfl
theorem e_QU_valueAt_4 : blk QU_valueAt 4 = k_QU_valueAt_4 := rfl
theorem e_QU_keepTen_0 : blk QU_keepTen 0 = k_QU_keepTen_0 := rfl
theorem e_QU_keepTen_1 : blk QU_keepTen 1 = k_QU_keepTen_1 := rfl
theorem e_QU_keepTen_2 : blk QU_keepTen 2 = k_QU_keepTen_2 := rfl
theorem e_QU_keepTen_3 : blk QU_keepTen 3 = k_QU_keepTen_3 := rfl
theorem e_QU_keepTen_4 : blk QU_keepTen 4 = k_QU_keepTen_4 := rfl
theorem e_QU_keepTen_5 : blk QU_keepTen 5 = k_QU_keepTen_5 := rfl
theorem e_QU_apply_0 : blk QU_apply 0 = k_QU_apply_0 := rfl
theorem e_QU_apply_1 : blk QU_apply 1 = k_QU_apply_1 := rfl
theorem e_QU_apply_2 : blk QU_apply 2 = k_QU_apply_2 := rfl
theorem e_QU_apply_3 : blk QU_apply 3 = k_QU_apply_3 := rfl
theorem e_QU_apply_4 : blk QU_apply 4 = k_QU_apply_4 := rfl
theorem e_QU_apply_5 : blk QU_apply 5 = k_QU_apply_5 := rfl
theorem e_QU_apply_6 : blk QU_apply 6 = k_QU_apply_6 := rfl
theorem e_QU_apply_7 : blk QU_apply 7 = k_QU_apply_7 := rfl
theorem e_QU_apply_8 : blk QU_apply 8 = k_QU_apply_8 := rfl
theorem e_QU_apply_9 : blk QU_apply 9 = k_QU_apply_9 := rfl
theorem e_QU_apply_10 : blk QU_apply 10 = k_QU_apply_10 := rfl
theorem e_QU_apply_11 : blk QU_apply 11 = k_QU_apply_11 := rfl
theorem e_QU_applyToTwo_0 : blk QU_applyToTwo 0 = k_QU_applyToTwo_0 := rfl
theorem e_QU_swingOf_0 : blk QU_swingOf 0 = k_QU_swingOf_0 := rfl
theorem e_QU_swingOf_1 : blk QU_swingOf 1 = k_QU_swingOf_1 := rfl
theorem e_QU_swingOf_2 : blk QU_swingOf 2 = k_QU_swingOf_2 := rfl
theorem e_QU_forceOf_0 : blk QU_forceOf 0 = k_QU_forceOf_0 := rfl
theorem e_QU_forceOf_1 : blk QU_forceOf 1 = k_QU_forceOf_1 := rfl
theorem e_QU_forceOf_2 : blk QU_forceOf 2 = k_QU_forceOf_2 := rfl
theorem e_QU_joined_0 : blk QU_joined 0 = k_QU_joined_0 := rfl
theorem e_QU_joined_1 : blk QU_joined 1 = k_QU_joined_1 := rfl
theorem e_QU_joined_2 : blk QU_joined 2 = k_QU_joined_2 := rfl
theorem e_QU_joined_3 : blk QU_joined 3 = k_QU_joined_3 := rfl
theorem e_QU_joined_4 : blk QU_joined 4 = k_QU_joined_4 := rfl
theorem e_QU_joined_5 : blk QU_joined 5 = k_QU_joined_5 := rfl
theorem e_QU_joined_6 : blk QU_joined 6 = k_QU_joined_6 := rfl
theorem e_QU_joined_7 : blk QU_joined 7 = k_QU_joined_7 := rfl
theorem e_QU_joined_8 : blk QU_joined 8 = k_QU_joined_8 := rfl
theorem e_QU_joined_9 : blk QU_joined 9 = k_QU_joined_9 := rfl
theorem e_QU_joined_10 : blk QU_joined 10 = k_QU_joined_10 := rfl
theorem e_QU_joined_11 : blk QU_joined 11 = k_QU_joined_11 := rfl
theorem e_QU_joined_12 : blk QU_joined 12 = k_QU_joined_12 := rfl
theorem e_QU_joined_13 : blk QU_joined 13 = k_QU_joined_13 := rfl
theorem e_QU_joined_14 : blk QU_joined 14 = k_QU_joined_14 := rfl
theorem e_QU_joined_15 : blk QU_joined 15 = k_QU_joined_15 := rfl
theorem e_QU_joined_16 : blk QU_joined 16 = k_QU_joined_16 := rfl
theorem e_QU_joined_17 : blk QU_joined 17 = k_QU_joined_17 := rfl
theorem e_QU_joined_18 : blk QU_joined 18 = k_QU_joined_18 := rfl
theorem e_QU_joined_19 : blk QU_joined 19 = k_QU_joined_19 := rfl
theorem e_QU_held_0 : blk QU_held 0 = k_QU_held_0 := rfl
theorem e_QU_push_0 : blk QU_push 0 = k_QU_push_0 := rfl
theorem e_QU_push_1 : blk QU_push 1 = k_QU_push_1 := rfl
theorem e_QU_pop_0 : blk QU_pop 0 = k_QU_pop_0 := rfl
theorem e_QU_pop_1 : blk QU_pop 1 = k_QU_pop_1 := rfl
theorem e_RA_init_0 : blk RA_init 0 = k_RA_init_0 := rfl
theorem e_RA_greatest_0 : blk RA_greatest 0 = k_RA_greatest_0 := rfl
theorem e_RA_greatest_1 : blk RA_greatest 1 = k_RA_greatest_1 := rfl
theorem e_RA_greatest_2 : blk RA_greatest 2 = k_RA_greatest_2 := rfl
theorem e_RA_findStillest_0 : blk RA_findStillest 0 = k_RA_findStillest_0 := rfl
theorem e_RA_findStillest_1 : blk RA_findStillest 1 = k_RA_findStillest_1 := rfl
theorem e_RA_findStillest_2 : blk RA_findStillest 2 = k_RA_findStillest_2 := rfl
theorem e_RA_findStillest_3 : blk RA_findStillest 3 = k_RA_findStillest_3 := rfl
theorem e_RA_findStillest_4 : blk RA_findStillest 4 = k_RA_findStillest_4 := rfl
theorem e_RA_findStillest_5 : blk RA_findStillest 5 = k_RA_findStillest_5 := rfl
theorem e_RA_findUnderWay_0 : blk RA_findUnderWay 0 = k_RA_findUnderWay_0 := rfl
theorem e_RA_findUnderWay_1 : blk RA_findUnderWay 1 = k_RA_findUnderWay_1 := rfl
theorem e_RA_findUnderWay_2 : blk RA_findUnderWay 2 = k_RA_findUnderWay_2 := rfl
theorem e_RA_findUnderWay_3 : blk RA_findUnderWay 3 = k_RA_findUnderWay_3 := rfl
theorem e_RA_findUnderWay_4 : blk RA_findUnderWay 4 = k_RA_findUnderWay_4 := rfl
theorem e_RA_findUnderWay_5 : blk RA_findUnderWay 5 = k_RA_findUnderWay_5 := rfl
theorem e_RA_sailAsTheySit_0 : blk RA_sailAsTheySit 0 = k_RA_sailAsTheySit_0 := rfl
theorem e_RA_sailAsTheySit_1 : blk RA_sailAsTheySit 1 = k_RA_sailAsTheySit_1 := rfl
theorem e_RA_sailAsTheySit_2 : blk RA_sailAsTheySit 2 = k_RA_sailAsTheySit_2 := rfl
theorem e_RA_tryChange_0 : blk RA_tryChange 0 = k_RA_tryChange_0 := rfl
theorem e_RA_tryChange_1 : blk RA_tryChange 1 = k_RA_tryChange_1 := rfl
theorem e_RA_tryChange_2 : blk RA_tryChange 2 = k_RA_tryChange_2 := rfl
theorem e_RA_tryChange_3 : blk RA_tryChange 3 = k_RA_tryChange_3 := rfl
theorem e_RA_tryChange_4 : blk RA_tryChange 4 = k_RA_tryChange_4 := rfl
theorem e_RA_setLanes_0 : blk RA_setLanes 0 = k_RA_setLanes_0 := rfl
theorem e_RA_setLanes_1 : blk RA_setLanes 1 = k_RA_setLanes_1 := rfl
theorem e_RA_setLanes_2 : blk RA_setLanes 2 = k_RA_setLanes_2 := rfl
theorem e_RA_setLanes_3 : blk RA_setLanes 3 = k_RA_setLanes_3 := rfl
theorem e_RA_setLanes_4 : blk RA_setLanes 4 = k_RA_setLanes_4 := rfl
theorem e_RA_greatestOf_0 : blk RA_greatestOf 0 = k_RA_greatestOf_0 := rfl
theorem e_RA_greatestOf_1 : blk RA_greatestOf 1 = k_RA_greatestOf_1 := rfl
theorem e_RA_greatestOf_2 : blk RA_greatestOf 2 = k_RA_greatestOf_2 := rfl
theorem e_RA_firstTen_0 : blk RA_firstTen 0 = k_RA_firstTen_0 := rfl
theorem e_RA_lastTen_0 : blk RA_lastTen 0 = k_RA_lastTen_0 := rfl
theorem e_TP_init_0 : blk TP_init 0 = k_TP_init_0 := rfl
theorem e_TP_hasRoomForFive_0 : blk TP_hasRoomForFive 0 = k_TP_hasRoomForFive_0 := rfl
theorem e_TP_hasRoomForFive_1 : blk TP_hasRoomForFive 1 = k_TP_hasRoomForFive_1 := rfl
theorem e_TP_hasRoomForFive_2 : blk TP_hasRoomForFive 2 = k_TP_hasRoomForFive_2 := rfl
theorem e_TP_put_0 : blk TP_put 0 = k_TP_put_0 := rfl
theorem e_TP_put_1 : blk TP_put 1 = k_TP_put_1 := rfl
theorem e_TP_put_2 : blk TP_put 2 = k_TP_put_2 := rfl
theorem e_TP_cut_0 : blk TP_cut 0 = k_TP_cut_0 := rfl
theorem e_TP_cut_1 : blk TP_cut 1 = k_TP_cut_1 := rfl
theorem e_TP_cut_2 : blk TP_cut 2 = k_TP_cut_2 := rfl
theorem e_TP_clear_0 : blk TP_clear 0 = k_TP_clear_0 := rfl
theorem e_TP_byteAt_0 : blk TP_byteAt 0 = k_TP_byteAt_0 := rfl
theorem e_TP_byteAt_1 : blk TP_byteAt 1 = k_TP_byteAt_1 := rfl
theorem e_TP_byteAt_2 : blk TP_byteAt 2 = k_TP_byteAt_2 := rfl
theorem e_TP_begin_0 : blk TP_begin 0 = k_TP_begin_0 := rfl
theorem e_TP_fail_0 : blk TP_fail 0 = k_TP_fail_0 := rfl
theorem e_TP_failHere_0 : blk TP_failHere 0 = k_TP_failHere_0 := rfl
theorem e_TP_next_0 : blk TP_next 0 = k_TP_next_0 := rfl
theorem e_TP_next_1 : blk TP_next 1 = k_TP_next_1 := rfl
theorem e_TP_takeSign_0 : blk TP_takeSign 0 = k_TP_takeSign_0 := rfl
theorem e_TP_takeSign_1 : blk TP_takeSign 1 = k_TP_takeSign_1 := rfl
theorem e_TP_wordHere_0 : blk TP_wordHere 0 = k_TP_wordHere_0 := rfl
theorem e_TP_wordHere_1 : blk TP_wordHere 1 = k_TP_wordHere_1 := rfl
theorem e_TP_wordHere_2 : blk TP_wordHere 2 = k_TP_wordHere_2 := rfl
theorem e_TP_passWord_0 : blk TP_passWord 0 = k_TP_passWord_0 := rfl
theorem e_TP_takeWord_0 : blk TP_takeWord 0 = k_TP_takeWord_0 := rfl
theorem e_TP_takeWord_1 : blk TP_takeWord 1 = k_TP_takeWord_1 := rfl
theorem e_TP_anyWordEnd_0 : blk TP_anyWordEnd 0 = k_TP_anyWordEnd_0 := rfl
theorem e_TP_anyWordEnd_1 : blk TP_anyWordEnd 1 = k_TP_anyWordEnd_1 := rfl
theorem e_TP_anyWordEnd_2 : blk TP_anyWordEnd 2 = k_TP_anyWordEnd_2 := rfl
theorem e_TP_placeIn_0 : blk TP_placeIn 0 = k_TP_placeIn_0 := rfl
theorem e_TP_placeIn_1 : blk TP_placeIn 1 = k_TP_placeIn_1 := rfl
theorem e_TP_placeIn_2 : blk TP_placeIn 2 = k_TP_placeIn_2 := rfl
theorem e_TP_placeIn_3 : blk TP_placeIn 3 = k_TP_placeIn_3 := rfl
theorem e_TP_placeIn_4 : blk TP_placeIn 4 = k_TP_placeIn_4 := rfl
theorem e_TP_placeIn_5 : blk TP_placeIn 5 = k_TP_placeIn_5 := rfl
theorem e_TP_placeIn_6 : blk TP_placeIn 6 = k_TP_placeIn_6 := rfl
theorem e_TP_placeIn_7 : blk TP_placeIn 7 = k_TP_placeIn_7 := rfl
theorem e_TP_takeNumber_0 : blk TP_takeNumber 0 = k_TP_takeNumber_0 := rfl
theorem e_TP_takeNumber_1 : blk TP_takeNumber 1 = k_TP_takeNumber_1 := rfl
theorem e_TP_takeNumber_2 : blk TP_takeNumber 2 = k_TP_takeNumber_2 := rfl
theorem e_TP_takeNumber_3 : blk TP_takeNumber 3 = k_TP_takeNumber_3 := rfl
theorem e_TP_takeNumber_4 : blk TP_takeNumber 4 = k_TP_takeNumber_4 := rfl
theorem e_TP_takeNumber_5 : blk TP_takeNumber 5 = k_TP_takeNumber_5 := rfl
theorem e_TP_takeNumber_6 : blk TP_takeNumber 6 = k_TP_takeNumber_6 := rfl
theorem e_TP_takeNumber_7 : blk TP_takeNumber 7 = k_TP_takeNumber_7 := rfl
theorem e_TP_takeNumber_8 : blk TP_takeNumber 8 = k_TP_takeNumber_8 := rfl
theorem e_TP_takeNumber_9 : blk TP_takeNumber 9 = k_TP_takeNumber_9 := rfl
theorem e_TP_takeNumber_10 : blk TP_takeNumber 10 = k_TP_takeNumber_10 := rfl
theorem e_TP_takeSignedNumber_0 : blk TP_takeSignedNumber 0 = k_TP_takeSignedNumber_0 := rfl
theorem e_TP_takeSignedNumber_1 : blk TP_takeSignedNumber 1 = k_TP_takeSignedNumber_1 := rfl
theorem e_TP_takeSignedNumber_2 : blk TP_takeSignedNumber 2 = k_TP_takeSignedNumber_2 := rfl
theorem e_TP_takeSignedNumber_3 : blk TP_takeSignedNumber 3 = k_TP_takeSignedNumber_3 := rfl
theorem e_TP_takeSignedNumber_4 : blk TP_takeSignedNumber 4 = k_TP_takeSignedNumber_4 := rfl
theorem e_TP_takeSignedNumber_5 : blk TP_takeSignedNumber 5 = k_TP_takeSignedNumber_5 := rfl
theorem e_TP_takeSignedNumber_6 : blk TP_takeSignedNumber 6 = k_TP_takeSignedNumber_6 := rfl
theorem e_TP_takeSignedNumber_7 : blk TP_takeSignedNumber 7 = k_TP_takeSignedNumber_7 := rfl
theorem e_TP_takeSignedNumber_8 : blk TP_takeSignedNumber 8 = k_TP_takeSignedNumber_8 := rfl
theorem e_TP_wordEnd_0 : blk TP_wordEnd 0 = k_TP_wordEnd_0 := rfl
theorem e_TP_wordEnd_1 : blk TP_wordEnd 1 = k_TP_wordEnd_1 := rfl
theorem e_TP_wordEnd_2 : blk TP_wordEnd 2 = k_TP_wordEnd_2 := rfl
theorem e_TP_isLetter_0 : blk TP_isLetter 0 = k_TP_isLetter_0 := rfl
theorem e_TP_isLetter_1 : blk TP_isLetter 1 = k_TP_isLetter_1 := rfl
theorem e_TP_isLetter_2 : blk TP_isLetter 2 = k_TP_isLetter_2 := rfl
theorem e_TP_isDigit_0 : blk TP_isDigit 0 = k_TP_isDigit_0 := rfl
theorem e_TP_isDigit_1 : blk TP_isDigit 1 = k_TP_isDigit_1 := rfl
theorem e_TP_isDigit_2 : blk TP_isDigit 2 = k_TP_isDigit_2 := rfl
theorem e_TP_isBlank_0 : blk TP_isBlank 0 = k_TP_isBlank_0 := rfl
theorem e_TP_isBlank_1 : blk TP_isBlank 1 = k_TP_isBlank_1 := rfl
theorem e_TP_isBlank_2 : blk TP_isBlank 2 = k_TP_isBlank_2 := rfl
theorem e_TP_isBlank_3 : blk TP_isBlank 3 = k_TP_isBlank_3 := rfl
theorem e_TR_init_0 : blk TR_init 0 = k_TR_init_0 := rfl
theorem e_TR_forget_0 : blk TR_forget 0 = k_TR_forget_0 := rfl
theorem e_TR_firstUnfit_0 : blk TR_firstUnfit 0 = k_TR_firstUnfit_0 := rfl
theorem e_TR_firstUnfit_1 : blk TR_firstUnfit 1 = k_TR_firstUnfit_1 := rfl
theorem e_TR_firstUnfit_2 : blk TR_firstUnfit 2 = k_TR_firstUnfit_2 := rfl
theorem e_TR_firstUnfit_3 : blk TR_firstUnfit 3 = k_TR_firstUnfit_3 := rfl
theorem e_TR_told_0 : blk TR_told 0 = k_TR_told_0 := rfl
theorem e_TR_told_1 : blk TR_told 1 = k_TR_told_1 := rfl
theorem e_TR_told_2 : blk TR_told 2 = k_TR_told_2 := rfl
theorem e_TR_told_3 : blk TR_told 3 = k_TR_told_3 := rfl
theorem e_TR_told_4 : blk TR_told 4 = k_TR_told_4 := rfl
theorem e_TR_told_5 : blk TR_told 5 = k_TR_told_5 := rfl
theorem e_TR_told_6 : blk TR_told 6 = k_TR_told_6 := rfl
theorem e_TR_told_7 : blk TR_told 7 = k_TR_told_7 := rfl
theorem e_TR_crookedSeats_0 : blk TR_crookedSeats 0 = k_TR_crookedSeats_0 := rfl
theorem e_TR_crookedSeats_1 : blk TR_crookedSeats 1 = k_TR_crookedSeats_1 := rfl
theorem e_TR_crookedSeats_2 : blk TR_crookedSeats 2 = k_TR_crookedSeats_2 := rfl
theorem e_TR_crookedSeats_3 : blk TR_crookedSeats 3 = k_TR_crookedSeats_3 := rfl
theorem e_TR_crookedSeats_4 : blk TR_crookedSeats 4 = k_TR_crookedSeats_4 := rfl
theorem e_TR_crookedSeats_5 : blk TR_crookedSeats 5 = k_TR_crookedSeats_5 := rfl
theorem e_TR_crookedSeats_6 : blk TR_crookedSeats 6 = k_TR_crookedSeats_6 := rfl
theorem e_TR_gapAsTold_0 : blk TR_gapAsTold 0 = k_TR_gapAsTold_0 := rfl
theorem e_TR_gapAsTold_1 : blk TR_gapAsTold 1 = k_TR_gapAsTold_1 := rfl
theorem e_TR_gapAsTold_2 : blk TR_gapAsTold 2 = k_TR_gapAsTold_2 := rfl
theorem e_TR_canBeCrooked_0 : blk TR_canBeCrooked 0 = k_TR_canBeCrooked_0 := rfl
theorem e_TR_canBeCrooked_1 : blk TR_canBeCrooked 1 = k_TR_canBeCrooked_1 := rfl
theorem e_TR_canBeCrooked_2 : blk TR_canBeCrooked 2 = k_TR_canBeCrooked_2 := rfl
theorem e_TR_canBeCrooked_3 : blk TR_canBeCrooked 3 = k_TR_canBeCrooked_3 := rfl
theorem e_TR_canBeCrooked_4 : blk TR_canBeCrooked 4 = k_TR_canBeCrooked_4 := rfl
theorem e_TR_canBeCrooked_5 : blk TR_canBeCrooked 5 = k_TR_canBeCrooked_5 := rfl
theorem e_TR_canBeCrooked_6 : blk TR_canBeCrooked 6 = k_TR_canBeCrooked_6 := rfl
theorem e_TR_canBeCrooked_7 : blk TR_canBeCrooked 7 = k_TR_canBeCrooked_7 := rfl
theorem e_TR_allFitWith_0 : blk TR_allFitWith 0 = k_TR_allFitWith_0 := rfl
theorem e_TR_allFitWith_1 : blk TR_allFitWith 1 = k_TR_allFitWith_1 := rfl
theorem e_TR_allFitWith_2 : blk TR_allFitWith 2 = k_TR_allFitWith_2 := rfl
theorem e_TR_allFitWith_3 : blk TR_allFitWith 3 = k_TR_allFitWith_3 := rfl
theorem e_TR_countRows_0 : blk TR_countRows 0 = k_TR_countRows_0 := rfl
theorem e_TR_countRows_1 : blk TR_countRows 1 = k_TR_countRows_1 := rfl
theorem e_TR_countRows_2 : blk TR_countRows 2 = k_TR_countRows_2 := rfl
theorem e_TR_setBounds_0 : blk TR_setBounds 0 = k_TR_setBounds_0 := rfl
theorem e_TR_setBounds_1 : blk TR_setBounds 1 = k_TR_setBounds_1 := rfl
theorem e_TR_setBounds_2 : blk TR_setBounds 2 = k_TR_setBounds_2 := rfl
theorem e_TR_rowsFrom_0 : blk TR_rowsFrom 0 = k_TR_rowsFrom_0 := rfl
theorem e_TR_rowsFrom_1 : blk TR_rowsFrom 1 = k_TR_rowsFrom_1 := rfl
theorem e_TR_rowsFrom_2 : blk TR_rowsFrom 2 = k_TR_rowsFrom_2 := rfl
theorem e_TR_rowsFrom_3 : blk TR_rowsFrom 3 = k_TR_rowsFrom_3 := rfl
theorem e_TR_rowsFrom_4 : blk TR_rowsFrom 4 = k_TR_rowsFrom_4 := rfl
theorem e_TR_rowsFrom_5 : blk TR_rowsFrom 5 = k_TR_rowsFrom_5 := rfl
theorem e_TR_rowsFrom_6 : blk TR_rowsFrom 6 = k_TR_rowsFrom_6 := rfl
theorem e_TR_verdictFrom_0 : blk TR_verdictFrom 0 = k_TR_verdictFrom_0 := rfl
theorem e_TR_verdictFrom_1 : blk TR_verdictFrom 1 = k_TR_verdictFrom_1 := rfl
theorem e_TR_verdictFrom_2 : blk TR_verdictFrom 2 = k_TR_verdictFrom_2 := rfl
theorem e_TR_verdictFrom_3 : blk TR_verdictFrom 3 = k_TR_verdictFrom_3 := rfl
theorem e_TR_verdictFrom_4 : blk TR_verdictFrom 4 = k_TR_verdictFrom_4 := rfl
theorem e_TR_verdictFrom_5 : blk TR_verdictFrom 5 = k_TR_verdictFrom_5 := rfl
theorem e_TR_verdictFrom_6 : blk TR_verdictFrom 6 = k_TR_verdictFrom_6 := rfl
theorem e_TR_allRowsFrom_0 : blk TR_allRowsFrom 0 = k_TR_allRowsFrom_0 := rfl
theorem e_TR_allRowsFrom_1 : blk TR_allRowsFrom 1 = k_TR_allRowsFrom_1 := rfl
theorem e_TR_allRowsFrom_2 : blk TR_allRowsFrom 2 = k_TR_allRowsFrom_2 := rfl
theorem e_TR_rowsOfLast_0 : blk TR_rowsOfLast 0 = k_TR_rowsOfLast_0 := rfl
theorem e_TR_rowsOfLast_1 : blk TR_rowsOfLast 1 = k_TR_rowsOfLast_1 := rfl
theorem e_TR_rowsOfLast_2 : blk TR_rowsOfLast 2 = k_TR_rowsOfLast_2 := rfl
theorem e_TR_rowsOfLast_3 : blk TR_rowsOfLast 3 = k_TR_rowsOfLast_3 := rfl
theorem e_TR_rowsOfLast_4 : blk TR_rowsOfLast 4 = k_TR_rowsOfLast_4 := rfl
theorem e_TR_rowsOfLast_5 : blk TR_rowsOfLast 5 = k_TR_rowsOfLast_5 := rfl
theorem e_TR_rowsOfLast_6 : blk TR_rowsOfLast 6 = k_TR_rowsOfLast_6 := rfl
theorem e_TR_tryMore_0 : blk TR_tryMore 0 = k_TR_tryMore_0 := rfl
theorem e_TR_tryMore_1 : blk TR_tryMore 1 = k_TR_tryMore_1 := rfl
theorem e_TR_tryMore_2 : blk TR_tryMore 2 = k_TR_tryMore_2 := rfl
theorem e_TR_noteStrengths_0 : blk TR_noteStrengths 0 = k_TR_noteStrengths_0 := rfl
theorem e_TR_noteStrengths_1 : blk TR_noteStrengths 1 = k_TR_noteStrengths_1 := rfl
theorem e_EO_init_0 : blk EO_init 0 = k_EO_init_0 := rfl
theorem e_EO_feed_0 : blk EO_feed 0 = k_EO_feed_0 := rfl
theorem e_EO_feed_1 : blk EO_feed 1 = k_EO_feed_1 := rfl
theorem e_EO_end_0 : blk EO_end 0 = k_EO_end_0 := rfl
theorem e_EO_end_1 : blk EO_end 1 = k_EO_end_1 := rfl
theorem e_EO_end_2 : blk EO_end 2 = k_EO_end_2 := rfl
theorem e_EO_end_3 : blk EO_end 3 = k_EO_end_3 := rfl
theorem e_EO_text_0 : blk EO_text 0 = k_EO_text_0 := rfl
theorem e_EO_text_1 : blk EO_text 1 = k_EO_text_1 := rfl
theorem e_EO_fault_0 : blk EO_fault 0 = k_EO_fault_0 := rfl
theorem e_EO_fault_1 : blk EO_fault 1 = k_EO_fault_1 := rfl
theorem e_EO_fault_2 : blk EO_fault 2 = k_EO_fault_2 := rfl
theorem e_EO_fault_3 : blk EO_fault 3 = k_EO_fault_3 := rfl
theorem e_EO_boat_0 : blk EO_boat 0 = k_EO_boat_0 := rfl
theorem e_EO_boat_1 : blk EO_boat 1 = k_EO_boat_1 := rfl
theorem e_EO_boat_2 : blk EO_boat 2 = k_EO_boat_2 := rfl
theorem e_EO_boat_3 : blk EO_boat 3 = k_EO_boat_3 := rfl
theorem e_EO_boat_4 : blk EO_boat 4 = k_EO_boat_4 := rfl
theorem e_EO_boat_5 : blk EO_boat 5 = k_EO_boat_5 := rfl
theorem e_EO_boat_6 : blk EO_boat 6 = k_EO_boat_6 := rfl
theorem e_EO_boat_7 : blk EO_boat 7 = k_EO_boat_7 := rfl
theorem e_EO_boat_8 : blk EO_boat 8 = k_EO_boat_8 := rfl
theorem e_EO_boat_9 : blk EO_boat 9 = k_EO_boat_9 := rfl
theorem e_EO_boat_10 : blk EO_boat 10 = k_EO_boat_10 := rfl
theorem e_EO_boat_11 : blk EO_boat 11 = k_EO_boat_11 := rfl
theorem e_EO_boat_12 : blk EO_boat 12 = k_EO_boat_12 := rfl
theorem e_EO_letter_0 : blk EO_letter 0 = k_EO_letter_0 := rfl
theorem e_EO_letter_1 : blk EO_letter 1 = k_EO_letter_1 := rfl
theorem e_EO_letter_2 : blk EO_letter 2 = k_EO_letter_2 := rfl
theorem e_EO_seat_0 : blk EO_seat 0 = k_EO_seat_0 := rfl
theorem e_EO_seat_1 : blk EO_seat 1 = k_EO_seat_1 := rfl
theorem e_EO_seat_2 : blk EO_seat 2 = k_EO_seat_2 := rfl
theorem e_EO_seat_3 : blk EO_seat 3 = k_EO_seat_3 := rfl
theorem e_EO_seat_4 : blk EO_seat 4 = k_EO_seat_4 := rfl
theorem e_EO_seat_5 : blk EO_seat 5 = k_EO_seat_5 := rfl
theorem e_EO_seat_6 : blk EO_seat 6 = k_EO_seat_6 := rfl
theorem e_EO_seat_7 : blk EO_seat 7 = k_EO_seat_7 := rfl
theorem e_EO_seat_8 : blk EO_seat 8 = k_EO_seat_8 := rfl
theorem e_EO_seat_9 : blk EO_seat 9 = k_EO_seat_9 := rfl
theorem e_EO_seat_10 : blk EO_seat 10 = k_EO_seat_10 := rfl
theorem e_EO_rower_0 : blk EO_rower 0 = k_EO_rower_0 := rfl
theorem e_EO_rower_1 : blk EO_rower 1 = k_EO_rower_1 := rfl
theorem e_EO_rower_2 : blk EO_rower 2 = k_EO_rower_2 := rfl
theorem e_EO_rower_3 : blk EO_rower 3 = k_EO_rower_3 := rfl
theorem e_EO_rower_4 : blk EO_rower 4 = k_EO_rower_4 := rfl
theorem e_EO_rower_5 : blk EO_rower 5 = k_EO_rower_5 := rfl
theorem e_EO_rower_6 : blk EO_rower 6 = k_EO_rower_6 := rfl
theorem e_EO_want_0 : blk EO_want 0 = k_EO_want_0 := rfl
theorem e_EO_want_1 : blk EO_want 1 = k_EO_want_1 := rfl
theorem e_EO_want_2 : blk EO_want 2 = k_EO_want_2 := rfl
theorem e_EO_swing_0 : blk EO_swing 0 = k_EO_swing_0 := rfl
theorem e_EO_swing_1 : blk EO_swing 1 = k_EO_swing_1 := rfl
theorem e_EO_swing_2 : blk EO_swing 2 = k_EO_swing_2 := rfl
theorem e_EO_off_0 : blk EO_off 0 = k_EO_off_0 := rfl
theorem e_EO_good_0 : blk EO_good 0 = k_EO_good_0 := rfl
theorem e_EO_good_1 : blk EO_good 1 = k_EO_good_1 := rfl
theorem e_EO_good_2 : blk EO_good 2 = k_EO_good_2 := rfl
theorem e_EO_lawful_0 : blk EO_lawful 0 = k_EO_lawful_0 := rfl
theorem e_EO_lawful_1 : blk EO_lawful 1 = k_EO_lawful_1 := rfl
theorem e_EO_lawful_2 : blk EO_lawful 2 = k_EO_lawful_2 := rfl
theorem e_EO_heading_0 : blk EO_heading 0 = k_EO_heading_0 := rfl
theorem e_EO_turn_0 : blk EO_turn 0 = k_EO_turn_0 := rfl
theorem e_EO_turn_1 : blk EO_turn 1 = k_EO_turn_1 := rfl
theorem e_EO_turn_2 : blk EO_turn 2 = k_EO_turn_2 := rfl
theorem e_EO_turn_3 : blk EO_turn 3 = k_EO_turn_3 := rfl
theorem e_EO_swap_0 : blk EO_swap 0 = k_EO_swap_0 := rfl
theorem e_EO_swap_1 : blk EO_swap 1 = k_EO_swap_1 := rfl
theorem e_EO_swap_2 : blk EO_swap 2 = k_EO_swap_2 := rfl
theorem e_EO_swap_3 : blk EO_swap 3 = k_EO_swap_3 := rfl
theorem e_EO_stroke_0 : blk EO_stroke 0 = k_EO_stroke_0 := rfl
theorem e_EO_stroke_1 : blk EO_stroke 1 = k_EO_stroke_1 := rfl
theorem e_EO_row_0 : blk EO_row 0 = k_EO_row_0 := rfl
theorem e_EO_row_1 : blk EO_row 1 = k_EO_row_1 := rfl
theorem e_EO_undo_0 : blk EO_undo 0 = k_EO_undo_0 := rfl
theorem e_EO_undo_1 : blk EO_undo 1 = k_EO_undo_1 := rfl
theorem e_EO_undo_2 : blk EO_undo 2 = k_EO_undo_2 := rfl
theorem e_EO_undo_3 : blk EO_undo 3 = k_EO_undo_3 := rfl
theorem e_EO_seed_0 : blk EO_seed 0 = k_EO_seed_0 := rfl
theorem e_EO_seed_1 : blk EO_seed 1 = k_EO_seed_1 := rfl
theorem e_EO_ways_0 : blk EO_ways 0 = k_EO_ways_0 := rfl
theorem e_EO_made_0 : blk EO_made 0 = k_EO_made_0 := rfl
theorem e_EO_doubled_0 : blk EO_doubled 0 = k_EO_doubled_0 := rfl
theorem e_EO_still_0 : blk EO_still 0 = k_EO_still_0 := rfl
theorem e_EO_nearest_0 : blk EO_nearest 0 = k_EO_nearest_0 := rfl
theorem e_EO_nearest_1 : blk EO_nearest 1 = k_EO_nearest_1 := rfl
theorem e_EO_nearest_2 : blk EO_nearest 2 = k_EO_nearest_2 := rfl
theorem e_EO_nearest_3 : blk EO_nearest 3 = k_EO_nearest_3 := rfl
theorem e_EO_nearest_4 : blk EO_nearest 4 = k_EO_nearest_4 := rfl
theorem e_EO_nearest_5 : blk EO_nearest 5 = k_EO_nearest_5 := rfl
theorem e_EO_seated_0 : blk EO_seated 0 = k_EO_seated_0 := rfl
theorem e_EO_seated_1 : blk EO_seated 1 = k_EO_seated_1 := rfl
theorem e_EO_seated_2 : blk EO_seated 2 = k_EO_seated_2 := rfl
theorem e_EO_seated_3 : blk EO_seated 3 = k_EO_seated_3 := rfl
theorem e_EO_seated_4 : blk EO_seated 4 = k_EO_seated_4 := rfl
theorem e_EO_seated_5 : blk EO_seated 5 = k_EO_seated_5 := rfl
theorem e_EO_seated_6 : blk EO_seated 6 = k_EO_seated_6 := rfl
theorem e_EO_seated_7 : blk EO_seated 7 = k_EO_seated_7 := rfl
theorem e_EO_seated_8 : blk EO_seated 8 = k_EO_seated_8 := rfl
theorem e_EO_changes_0 : blk EO_changes 0 = k_EO_changes_0 := rfl
theorem e_EO_race_0 : blk EO_race 0 = k_EO_race_0 := rfl
theorem e_EO_race_1 : blk EO_race 1 = k_EO_race_1 := rfl
theorem e_EO_race_2 : blk EO_race 2 = k_EO_race_2 := rfl
theorem e_EO_race_3 : blk EO_race 3 = k_EO_race_3 := rfl
theorem e_EO_stillest_0 : blk EO_stillest 0 = k_EO_stillest_0 := rfl
theorem e_EO_stillest_1 : blk EO_stillest 1 = k_EO_stillest_1 := rfl
theorem e_EO_stillest_2 : blk EO_stillest 2 = k_EO_stillest_2 := rfl
theorem e_EO_stillest_3 : blk EO_stillest 3 = k_EO_stillest_3 := rfl
theorem e_EO_stillest_4 : blk EO_stillest 4 = k_EO_stillest_4 := rfl
theorem e_EO_under_0 : blk EO_under 0 = k_EO_under_0 := rfl
theorem e_EO_under_1 : blk EO_under 1 = k_EO_under_1 := rfl
theorem e_EO_under_2 : blk EO_under 2 = k_EO_under_2 := rfl
theorem e_EO_under_3 : blk EO_under 3 = k_EO_under_3 := rfl
theorem e_EO_under_4 : blk EO_under 4 = k_EO_under_4 := rfl
theorem e_EO_under_5 : blk EO_under 5 = k_EO_under_5 := rfl
theorem e_EO_under_6 : blk EO_under 6 = k_EO_under_6 := rfl
theorem e_EO_fits_0 : blk EO_fits 0 = k_EO_fits_0 := rfl
theorem e_EO_strengths_0 : blk EO_strengths 0 = k_EO_strengths_0 := rfl
theorem e_EO_crooked_0 : blk EO_crooked 0 = k_EO_crooked_0 := rfl
theorem e_EO_heirs_0 : blk EO_heirs 0 = k_EO_heirs_0 := rfl
theorem e_EO_heirs_1 : blk EO_heirs 1 = k_EO_heirs_1 := rfl
theorem e_EO_heirs_2 : blk EO_heirs 2 = k_EO_heirs_2 := rfl
theorem e_EO_heirs_3 : blk EO_heirs 3 = k_EO_heirs_3 := rfl
theorem e_EO_heirs_4 : blk EO_heirs 4 = k_EO_heirs_4 := rfl
theorem e_EO_apart_0 : blk EO_apart 0 = k_EO_apart_0 := rfl
theorem e_EO_ask_0 : blk EO_ask 0 = k_EO_ask_0 := rfl
theorem e_EO_ask_1 : blk EO_ask 1 = k_EO_ask_1 := rfl
theorem e_EO_ask_2 : blk EO_ask 2 = k_EO_ask_2 := rfl
theorem e_EO_image_0 : blk EO_image 0 = k_EO_image_0 := rfl
theorem e_EO_octet_0 : blk EO_octet 0 = k_EO_octet_0 := rfl
theorem e_EO_octet_1 : blk EO_octet 1 = k_EO_octet_1 := rfl
theorem e_EO_octet_2 : blk EO_octet 2 = k_EO_octet_2 := rfl
theorem e_EO_on_0 : blk EO_on 0 = k_EO_on_0 := rfl
theorem e_EO_on_1 : blk EO_on 1 = k_EO_on_1 := rfl
theorem e_EO_on_2 : blk EO_on 2 = k_EO_on_2 := rfl
theorem e_EO_on_3 : blk EO_on 3 = k_EO_on_3 := rfl
theorem e_EO_status_0 : blk EO_status 0 = k_EO_status_0 := rfl
theorem e_EO_status_1 : blk EO_status 1 = k_EO_status_1 := rfl
theorem e_EO_status_2 : blk EO_status 2 = k_EO_status_2 := rfl
theorem e_EO_refuse_0 : blk EO_refuse 0 = k_EO_refuse_0 := rfl
theorem e_EO_refuse_1 : blk EO_refuse 1 = k_EO_refuse_1 := rfl
theorem e_EO_canGoBy_0 : blk EO_canGoBy 0 = k_EO_canGoBy_0 := rfl
theorem e_EO_canGoBy_1 : blk EO_canGoBy 1 = k_EO_canGoBy_1 := rfl
theorem e_EO_canGoBy_2 : blk EO_canGoBy 2 = k_EO_canGoBy_2 := rfl
theorem e_EO_keepFault_0 : blk EO_keepFault 0 = k_EO_keepFault_0 := rfl
theorem e_MO_init_0 : blk MO_init 0 = k_MO_init_0 := rfl
theorem e_MO_isIn_0 : blk MO_isIn 0 = k_MO_isIn_0 := rfl
theorem e_MO_isIn_1 : blk MO_isIn 1 = k_MO_isIn_1 := rfl
theorem e_MO_isIn_2 : blk MO_isIn 2 = k_MO_isIn_2 := rfl
theorem e_MO_feed_0 : blk MO_feed 0 = k_MO_feed_0 := rfl
theorem e_MO_feed_1 : blk MO_feed 1 = k_MO_feed_1 := rfl
theorem e_MO_feed_2 : blk MO_feed 2 = k_MO_feed_2 := rfl
theorem e_MO_feed_3 : blk MO_feed 3 = k_MO_feed_3 := rfl
theorem e_MO_feed_4 : blk MO_feed 4 = k_MO_feed_4 := rfl
theorem e_MO_feed_5 : blk MO_feed 5 = k_MO_feed_5 := rfl
theorem e_MO_feed_6 : blk MO_feed 6 = k_MO_feed_6 := rfl
theorem e_MO_feed_7 : blk MO_feed 7 = k_MO_feed_7 := rfl
theorem e_MO_feed_8 : blk MO_feed 8 = k_MO_feed_8 := rfl
theorem e_MO_end_0 : blk MO_end 0 = k_MO_end_0 := rfl
theorem e_MO_end_1 : blk MO_end 1 = k_MO_end_1 := rfl
theorem e_MO_end_2 : blk MO_end 2 = k_MO_end_2 := rfl
theorem e_MO_fail_0 : blk MO_fail 0 = k_MO_fail_0 := rfl
theorem e_MO_fail_1 : blk MO_fail 1 = k_MO_fail_1 := rfl
theorem e_MO_isLetter_0 : blk MO_isLetter 0 = k_MO_isLetter_0 := rfl
theorem e_MO_isLetter_1 : blk MO_isLetter 1 = k_MO_isLetter_1 := rfl
theorem e_MO_isLetter_2 : blk MO_isLetter 2 = k_MO_isLetter_2 := rfl
theorem e_MO_isDigit_0 : blk MO_isDigit 0 = k_MO_isDigit_0 := rfl
theorem e_MO_isDigit_1 : blk MO_isDigit 1 = k_MO_isDigit_1 := rfl
theorem e_MO_isDigit_2 : blk MO_isDigit 2 = k_MO_isDigit_2 := rfl
theorem e_MO_look_0 : blk MO_look 0 = k_MO_look_0 := rfl
theorem e_MO_look_1 : blk MO_look 1 = k_MO_look_1 := rfl
theorem e_MO_look_2 : blk MO_look 2 = k_MO_look_2 := rfl
theorem e_MO_look_3 : blk MO_look 3 = k_MO_look_3 := rfl
theorem e_MO_look_4 : blk MO_look 4 = k_MO_look_4 := rfl
theorem e_MO_isHere_0 : blk MO_isHere 0 = k_MO_isHere_0 := rfl
theorem e_MO_isHere_1 : blk MO_isHere 1 = k_MO_isHere_1 := rfl
theorem e_MO_isHere_2 : blk MO_isHere 2 = k_MO_isHere_2 := rfl
theorem e_MO_isHere_3 : blk MO_isHere 3 = k_MO_isHere_3 := rfl
theorem e_MO_isHere_4 : blk MO_isHere 4 = k_MO_isHere_4 := rfl
theorem e_MO_isHere_5 : blk MO_isHere 5 = k_MO_isHere_5 := rfl
theorem e_MO_isHere_6 : blk MO_isHere 6 = k_MO_isHere_6 := rfl
theorem e_MO_isHere_7 : blk MO_isHere 7 = k_MO_isHere_7 := rfl
theorem e_MO_isHere_8 : blk MO_isHere 8 = k_MO_isHere_8 := rfl
theorem e_MO_takes_0 : blk MO_takes 0 = k_MO_takes_0 := rfl
theorem e_MO_takes_1 : blk MO_takes 1 = k_MO_takes_1 := rfl
theorem e_MO_asks_0 : blk MO_asks 0 = k_MO_asks_0 := rfl
theorem e_MO_asks_1 : blk MO_asks 1 = k_MO_asks_1 := rfl
theorem e_MO_takesSign_0 : blk MO_takesSign 0 = k_MO_takesSign_0 := rfl
theorem e_MO_takesSign_1 : blk MO_takesSign 1 = k_MO_takesSign_1 := rfl
theorem e_MO_takesSign_2 : blk MO_takesSign 2 = k_MO_takesSign_2 := rfl
theorem e_MO_asksSign_0 : blk MO_asksSign 0 = k_MO_asksSign_0 := rfl
theorem e_MO_asksSign_1 : blk MO_asksSign 1 = k_MO_asksSign_1 := rfl
theorem e_MO_number_0 : blk MO_number 0 = k_MO_number_0 := rfl
theorem e_MO_number_1 : blk MO_number 1 = k_MO_number_1 := rfl
theorem e_MO_number_2 : blk MO_number 2 = k_MO_number_2 := rfl
theorem e_MO_number_3 : blk MO_number 3 = k_MO_number_3 := rfl
theorem e_MO_number_4 : blk MO_number 4 = k_MO_number_4 := rfl
theorem e_MO_number_5 : blk MO_number 5 = k_MO_number_5 := rfl
theorem e_MO_number_6 : blk MO_number 6 = k_MO_number_6 := rfl
theorem e_MO_number_7 : blk MO_number 7 = k_MO_number_7 := rfl
theorem e_MO_signed_0 : blk MO_signed 0 = k_MO_signed_0 := rfl
theorem e_MO_signed_1 : blk MO_signed 1 = k_MO_signed_1 := rfl
theorem e_MO_signed_2 : blk MO_signed 2 = k_MO_signed_2 := rfl
theorem e_MO_signed_3 : blk MO_signed 3 = k_MO_signed_3 := rfl
theorem e_MO_signed_4 : blk MO_signed 4 = k_MO_signed_4 := rfl
theorem e_MO_signed_5 : blk MO_signed 5 = k_MO_signed_5 := rfl
theorem e_MO_signed_6 : blk MO_signed 6 = k_MO_signed_6 := rfl
theorem e_MO_signed_7 : blk MO_signed 7 = k_MO_signed_7 := rfl
theorem e_MO_isOwnHere_0 : blk MO_isOwnHere 0 = k_MO_isOwnHere_0 := rfl
theorem e_MO_isOwnHere_1 : blk MO_isOwnHere 1 = k_MO_isOwnHere_1 := rfl
theorem e_MO_isOwnHere_2 : blk MO_isOwnHere 2 = k_MO_isOwnHere_2 := rfl
theorem e_MO_isOwnHere_3 : blk MO_isOwnHere 3 = k_MO_isOwnHere_3 := rfl
theorem e_MO_isOwnHere_4 : blk MO_isOwnHere 4 = k_MO_isOwnHere_4 := rfl
theorem e_MO_isOwnHere_5 : blk MO_isOwnHere 5 = k_MO_isOwnHere_5 := rfl
theorem e_MO_isOwnHere_6 : blk MO_isOwnHere 6 = k_MO_isOwnHere_6 := rfl
theorem e_MO_isOwnHere_7 : blk MO_isOwnHere 7 = k_MO_isOwnHere_7 := rfl
theorem e_MO_isOwnHere_8 : blk MO_isOwnHere 8 = k_MO_isOwnHere_8 := rfl
theorem e_MO_isOwnHere_9 : blk MO_isOwnHere 9 = k_MO_isOwnHere_9 := rfl
theorem e_MO_name_0 : blk MO_name 0 = k_MO_name_0 := rfl
theorem e_MO_name_1 : blk MO_name 1 = k_MO_name_1 := rfl
theorem e_MO_name_2 : blk MO_name 2 = k_MO_name_2 := rfl
theorem e_MO_name_3 : blk MO_name 3 = k_MO_name_3 := rfl
theorem e_MO_name_4 : blk MO_name 4 = k_MO_name_4 := rfl
theorem e_MO_name_5 : blk MO_name 5 = k_MO_name_5 := rfl
theorem e_MO_name_6 : blk MO_name 6 = k_MO_name_6 := rfl
theorem e_MO_isFull_0 : blk MO_isFull 0 = k_MO_isFull_0 := rfl
theorem e_MO_isFull_1 : blk MO_isFull 1 = k_MO_isFull_1 := rfl
theorem e_MO_isFull_2 : blk MO_isFull 2 = k_MO_isFull_2 := rfl
theorem e_MO_isFull_3 : blk MO_isFull 3 = k_MO_isFull_3 := rfl
theorem e_MO_seatAt_0 : blk MO_seatAt 0 = k_MO_seatAt_0 := rfl
theorem e_MO_seatAt_1 : blk MO_seatAt 1 = k_MO_seatAt_1 := rfl
theorem e_MO_seatAt_2 : blk MO_seatAt 2 = k_MO_seatAt_2 := rfl
theorem e_MO_seatAt_3 : blk MO_seatAt 3 = k_MO_seatAt_3 := rfl
theorem e_MO_seatTold_0 : blk MO_seatTold 0 = k_MO_seatTold_0 := rfl
theorem e_MO_seatTold_1 : blk MO_seatTold 1 = k_MO_seatTold_1 := rfl
theorem e_MO_seatTold_2 : blk MO_seatTold 2 = k_MO_seatTold_2 := rfl
theorem e_MO_seatTold_3 : blk MO_seatTold 3 = k_MO_seatTold_3 := rfl
theorem e_MO_rowerTold_0 : blk MO_rowerTold 0 = k_MO_rowerTold_0 := rfl
theorem e_MO_rowerTold_1 : blk MO_rowerTold 1 = k_MO_rowerTold_1 := rfl
theorem e_MO_rowerTold_2 : blk MO_rowerTold 2 = k_MO_rowerTold_2 := rfl
theorem e_MO_rowerTold_3 : blk MO_rowerTold 3 = k_MO_rowerTold_3 := rfl
theorem e_MO_rowerTold_4 : blk MO_rowerTold 4 = k_MO_rowerTold_4 := rfl
theorem e_MO_rowerTold_5 : blk MO_rowerTold 5 = k_MO_rowerTold_5 := rfl
theorem e_MO_fixTold_0 : blk MO_fixTold 0 = k_MO_fixTold_0 := rfl
theorem e_MO_fixTold_1 : blk MO_fixTold 1 = k_MO_fixTold_1 := rfl
theorem e_MO_fixTold_2 : blk MO_fixTold 2 = k_MO_fixTold_2 := rfl
theorem e_MO_fixTold_3 : blk MO_fixTold 3 = k_MO_fixTold_3 := rfl
theorem e_MO_fixTold_4 : blk MO_fixTold 4 = k_MO_fixTold_4 := rfl
theorem e_MO_fixTold_5 : blk MO_fixTold 5 = k_MO_fixTold_5 := rfl
theorem e_MO_wantTold_0 : blk MO_wantTold 0 = k_MO_wantTold_0 := rfl
theorem e_MO_wantTold_1 : blk MO_wantTold 1 = k_MO_wantTold_1 := rfl
theorem e_MO_sidesTold_0 : blk MO_sidesTold 0 = k_MO_sidesTold_0 := rfl
theorem e_MO_sidesTold_1 : blk MO_sidesTold 1 = k_MO_sidesTold_1 := rfl
theorem e_MO_sidesTold_2 : blk MO_sidesTold 2 = k_MO_sidesTold_2 := rfl
theorem e_MO_sidesTold_3 : blk MO_sidesTold 3 = k_MO_sidesTold_3 := rfl
theorem e_MO_sidesTold_4 : blk MO_sidesTold 4 = k_MO_sidesTold_4 := rfl
theorem e_MO_sidesTold_5 : blk MO_sidesTold 5 = k_MO_sidesTold_5 := rfl
theorem e_MO_sidesTold_6 : blk MO_sidesTold 6 = k_MO_sidesTold_6 := rfl
theorem e_MO_sidesTold_7 : blk MO_sidesTold 7 = k_MO_sidesTold_7 := rfl
theorem e_MO_sidesTold_8 : blk MO_sidesTold 8 = k_MO_sidesTold_8 := rfl
theorem e_MO_sidesTold_9 : blk MO_sidesTold 9 = k_MO_sidesTold_9 := rfl
theorem e_MO_sidesTold_10 : blk MO_sidesTold 10 = k_MO_sidesTold_10 := rfl
theorem e_MO_sidesTold_11 : blk MO_sidesTold 11 = k_MO_sidesTold_11 := rfl
theorem e_MO_sidesTold_12 : blk MO_sidesTold 12 = k_MO_sidesTold_12 := rfl
theorem e_MO_sidesTold_13 : blk MO_sidesTold 13 = k_MO_sidesTold_13 := rfl
theorem e_MO_runTold_0 : blk MO_runTold 0 = k_MO_runTold_0 := rfl
theorem e_MO_runTold_1 : blk MO_runTold 1 = k_MO_runTold_1 := rfl
theorem e_MO_runTold_2 : blk MO_runTold 2 = k_MO_runTold_2 := rfl
theorem e_MO_payTold_0 : blk MO_payTold 0 = k_MO_payTold_0 := rfl
theorem e_MO_payTold_1 : blk MO_payTold 1 = k_MO_payTold_1 := rfl
theorem e_MO_payTold_2 : blk MO_payTold 2 = k_MO_payTold_2 := rfl
theorem e_MO_statementTold_0 : blk MO_statementTold 0 = k_MO_statementTold_0 := rfl
theorem e_MO_statementTold_1 : blk MO_statementTold 1 = k_MO_statementTold_1 := rfl
theorem e_MO_statementTold_2 : blk MO_statementTold 2 = k_MO_statementTold_2 := rfl
theorem e_MO_statementTold_3 : blk MO_statementTold 3 = k_MO_statementTold_3 := rfl
theorem e_MO_statementTold_4 : blk MO_statementTold 4 = k_MO_statementTold_4 := rfl
theorem e_MO_statementTold_5 : blk MO_statementTold 5 = k_MO_statementTold_5 := rfl
theorem e_MO_statementTold_6 : blk MO_statementTold 6 = k_MO_statementTold_6 := rfl
theorem e_MO_statementTold_7 : blk MO_statementTold 7 = k_MO_statementTold_7 := rfl
theorem e_MO_statementTold_8 : blk MO_statementTold 8 = k_MO_statementTold_8 := rfl
theorem e_MO_statementTold_9 : blk MO_statementTold 9 = k_MO_statementTold_9 := rfl
theorem e_MO_text_0 : blk MO_text 0 = k_MO_text_0 := rfl
theorem e_MO_text_1 : blk MO_text 1 = k_MO_text_1 := rfl
theorem e_MO_text_2 : blk MO_text 2 = k_MO_text_2 := rfl
theorem e_MO_text_3 : blk MO_text 3 = k_MO_text_3 := rfl
theorem e_MO_text_4 : blk MO_text 4 = k_MO_text_4 := rfl
theorem e_MO_text_5 : blk MO_text 5 = k_MO_text_5 := rfl
theorem e_MO_text_6 : blk MO_text 6 = k_MO_text_6 := rfl
theorem e_MO_stands_0 : blk MO_stands 0 = k_MO_stands_0 := rfl
theorem e_MO_stands_1 : blk MO_stands 1 = k_MO_stands_1 := rfl
theorem e_MO_stands_2 : blk MO_stands 2 = k_MO_stands_2 := rfl
theorem e_MO_stands_3 : blk MO_stands 3 = k_MO_stands_3 := rfl
theorem e_MO_stands_4 : blk MO_stands 4 = k_MO_stands_4 := rfl
theorem e_MO_stands_5 : blk MO_stands 5 = k_MO_stands_5 := rfl
theorem e_MO_stands_6 : blk MO_stands 6 = k_MO_stands_6 := rfl
theorem e_MO_stands_7 : blk MO_stands 7 = k_MO_stands_7 := rfl
theorem e_MO_stands_8 : blk MO_stands 8 = k_MO_stands_8 := rfl
theorem e_MO_stands_9 : blk MO_stands 9 = k_MO_stands_9 := rfl
theorem e_MO_stands_10 : blk MO_stands 10 = k_MO_stands_10 := rfl
theorem e_MO_stands_11 : blk MO_stands 11 = k_MO_stands_11 := rfl
theorem e_MO_stands_12 : blk MO_stands 12 = k_MO_stands_12 := rfl
theorem e_MO_stands_13 : blk MO_stands 13 = k_MO_stands_13 := rfl
theorem e_MO_stands_14 : blk MO_stands 14 = k_MO_stands_14 := rfl
theorem e_MO_stands_15 : blk MO_stands 15 = k_MO_stands_15 := rfl
theorem e_MO_stands_16 : blk MO_stands 16 = k_MO_stands_16 := rfl
theorem e_MO_stands_17 : blk MO_stands 17 = k_MO_stands_17 := rfl
theorem e_MO_stands_18 : blk MO_stands 18 = k_MO_stands_18 := rfl
theorem e_MO_stands_19 : blk MO_stands 19 = k_MO_stands_19 := rfl
theorem e_MO_fault_0 : blk MO_fault 0 = k_MO_fault_0 := rfl
theorem e_MO_fault_1 : blk MO_fault 1 = k_MO_fault_1 := rfl
theorem e_MO_fault_2 : blk MO_fault 2 = k_MO_fault_2 := rfl
theorem e_MO_fault_3 : blk MO_fault 3 = k_MO_fault_3 := rfl
theorem e_MO_seats_0 : blk MO_seats 0 = k_MO_seats_0 := rfl
theorem e_MO_rowers_0 : blk MO_rowers 0 = k_MO_rowers_0 := rfl
theorem e_MO_runs_0 : blk MO_runs 0 = k_MO_runs_0 := rfl
theorem e_MO_each_0 : blk MO_each 0 = k_MO_each_0 := rfl
theorem e_MO_each_1 : blk MO_each 1 = k_MO_each_1 := rfl
theorem e_MO_each_2 : blk MO_each 2 = k_MO_each_2 := rfl
theorem e_MO_near_0 : blk MO_near 0 = k_MO_near_0 := rfl
theorem e_MO_isSeat_0 : blk MO_isSeat 0 = k_MO_isSeat_0 := rfl
theorem e_MO_isRower_0 : blk MO_isRower 0 = k_MO_isRower_0 := rfl
theorem e_MO_isFixed_0 : blk MO_isFixed 0 = k_MO_isFixed_0 := rfl
theorem e_MO_isFixed_1 : blk MO_isFixed 1 = k_MO_isFixed_1 := rfl
theorem e_MO_isFixed_2 : blk MO_isFixed 2 = k_MO_isFixed_2 := rfl
theorem e_MO_strengthAt_0 : blk MO_strengthAt 0 = k_MO_strengthAt_0 := rfl
theorem e_MO_strengthAt_1 : blk MO_strengthAt 1 = k_MO_strengthAt_1 := rfl
theorem e_MO_strengthAt_2 : blk MO_strengthAt 2 = k_MO_strengthAt_2 := rfl
theorem e_MO_pullOf_0 : blk MO_pullOf 0 = k_MO_pullOf_0 := rfl
theorem e_MO_pullOf_1 : blk MO_pullOf 1 = k_MO_pullOf_1 := rfl
theorem e_MO_pullOf_2 : blk MO_pullOf 2 = k_MO_pullOf_2 := rfl
theorem e_MO_raised_0 : blk MO_raised 0 = k_MO_raised_0 := rfl
theorem e_MO_raised_1 : blk MO_raised 1 = k_MO_raised_1 := rfl
theorem e_MO_raised_2 : blk MO_raised 2 = k_MO_raised_2 := rfl
theorem e_MO_swingBy_0 : blk MO_swingBy 0 = k_MO_swingBy_0 := rfl
theorem e_MO_swingBy_1 : blk MO_swingBy 1 = k_MO_swingBy_1 := rfl
theorem e_MO_swingBy_2 : blk MO_swingBy 2 = k_MO_swingBy_2 := rfl
theorem e_MO_swingBy_3 : blk MO_swingBy 3 = k_MO_swingBy_3 := rfl
theorem e_MO_swingBy_4 : blk MO_swingBy 4 = k_MO_swingBy_4 := rfl
theorem e_MO_size_0 : blk MO_size 0 = k_MO_size_0 := rfl
theorem e_MO_size_1 : blk MO_size 1 = k_MO_size_1 := rfl
theorem e_MO_size_2 : blk MO_size 2 = k_MO_size_2 := rfl
theorem e_MO_isWantedOf_0 : blk MO_isWantedOf 0 = k_MO_isWantedOf_0 := rfl
theorem e_MO_isWantedOf_1 : blk MO_isWantedOf 1 = k_MO_isWantedOf_1 := rfl
theorem e_MO_isWantedOf_2 : blk MO_isWantedOf 2 = k_MO_isWantedOf_2 := rfl
theorem e_MO_offBy_0 : blk MO_offBy 0 = k_MO_offBy_0 := rfl
theorem e_MO_offBy_1 : blk MO_offBy 1 = k_MO_offBy_1 := rfl
theorem e_MO_offBy_2 : blk MO_offBy 2 = k_MO_offBy_2 := rfl
theorem e_MO_offBy_3 : blk MO_offBy 3 = k_MO_offBy_3 := rfl
theorem e_MO_isGood_0 : blk MO_isGood 0 = k_MO_isGood_0 := rfl
theorem e_MO_isGood_1 : blk MO_isGood 1 = k_MO_isGood_1 := rfl
theorem e_MO_isGood_2 : blk MO_isGood 2 = k_MO_isGood_2 := rfl
theorem e_MO_isGood_3 : blk MO_isGood 3 = k_MO_isGood_3 := rfl
theorem e_MO_bits_0 : blk MO_bits 0 = k_MO_bits_0 := rfl
theorem e_MO_bits_1 : blk MO_bits 1 = k_MO_bits_1 := rfl
theorem e_MO_bits_2 : blk MO_bits 2 = k_MO_bits_2 := rfl
theorem e_MO_isLawful_0 : blk MO_isLawful 0 = k_MO_isLawful_0 := rfl
theorem e_MO_isLawful_1 : blk MO_isLawful 1 = k_MO_isLawful_1 := rfl
theorem e_MO_isLawful_2 : blk MO_isLawful 2 = k_MO_isLawful_2 := rfl
theorem e_MO_isLawful_3 : blk MO_isLawful 3 = k_MO_isLawful_3 := rfl
theorem e_MO_isLawful_4 : blk MO_isLawful 4 = k_MO_isLawful_4 := rfl
theorem e_MO_fixedMany_0 : blk MO_fixedMany 0 = k_MO_fixedMany_0 := rfl
theorem e_MO_fixedMany_1 : blk MO_fixedMany 1 = k_MO_fixedMany_1 := rfl
theorem e_MO_fixedMany_2 : blk MO_fixedMany 2 = k_MO_fixedMany_2 := rfl
theorem e_MO_fixedMany_3 : blk MO_fixedMany 3 = k_MO_fixedMany_3 := rfl
theorem e_MO_wants_0 : blk MO_wants 0 = k_MO_wants_0 := rfl
theorem e_MO_wants_1 : blk MO_wants 1 = k_MO_wants_1 := rfl
theorem e_MO_wants_2 : blk MO_wants 2 = k_MO_wants_2 := rfl
theorem e_MO_wants_3 : blk MO_wants 3 = k_MO_wants_3 := rfl
theorem e_MO_boat_0 : blk MO_boat 0 = k_MO_boat_0 := rfl
theorem e_MO_boat_1 : blk MO_boat 1 = k_MO_boat_1 := rfl
theorem e_MO_boat_2 : blk MO_boat 2 = k_MO_boat_2 := rfl
theorem e_MO_boat_3 : blk MO_boat 3 = k_MO_boat_3 := rfl
theorem e_MO_boat_4 : blk MO_boat 4 = k_MO_boat_4 := rfl
theorem e_MO_boat_5 : blk MO_boat 5 = k_MO_boat_5 := rfl
theorem e_MO_boat_6 : blk MO_boat 6 = k_MO_boat_6 := rfl
theorem e_MO_boat_7 : blk MO_boat 7 = k_MO_boat_7 := rfl
theorem e_MO_boat_8 : blk MO_boat 8 = k_MO_boat_8 := rfl
theorem e_MO_boat_9 : blk MO_boat 9 = k_MO_boat_9 := rfl
theorem e_MO_boat_10 : blk MO_boat 10 = k_MO_boat_10 := rfl
theorem e_MO_boat_11 : blk MO_boat 11 = k_MO_boat_11 := rfl
theorem e_MO_boat_12 : blk MO_boat 12 = k_MO_boat_12 := rfl
theorem e_MO_letter_0 : blk MO_letter 0 = k_MO_letter_0 := rfl
theorem e_MO_letter_1 : blk MO_letter 1 = k_MO_letter_1 := rfl
theorem e_MO_letter_2 : blk MO_letter 2 = k_MO_letter_2 := rfl
theorem e_MO_letter_3 : blk MO_letter 3 = k_MO_letter_3 := rfl
theorem e_MO_letter_4 : blk MO_letter 4 = k_MO_letter_4 := rfl
theorem e_MO_letter_5 : blk MO_letter 5 = k_MO_letter_5 := rfl
theorem e_MO_letter_6 : blk MO_letter 6 = k_MO_letter_6 := rfl
theorem e_MO_letter_7 : blk MO_letter 7 = k_MO_letter_7 := rfl
theorem e_MO_seat_0 : blk MO_seat 0 = k_MO_seat_0 := rfl
theorem e_MO_seat_1 : blk MO_seat 1 = k_MO_seat_1 := rfl
theorem e_MO_seat_2 : blk MO_seat 2 = k_MO_seat_2 := rfl
theorem e_MO_seat_3 : blk MO_seat 3 = k_MO_seat_3 := rfl
theorem e_MO_seat_4 : blk MO_seat 4 = k_MO_seat_4 := rfl
theorem e_MO_seat_5 : blk MO_seat 5 = k_MO_seat_5 := rfl
theorem e_MO_seat_6 : blk MO_seat 6 = k_MO_seat_6 := rfl
theorem e_MO_seat_7 : blk MO_seat 7 = k_MO_seat_7 := rfl
theorem e_MO_seat_8 : blk MO_seat 8 = k_MO_seat_8 := rfl
theorem e_MO_seat_9 : blk MO_seat 9 = k_MO_seat_9 := rfl
theorem e_MO_seat_10 : blk MO_seat 10 = k_MO_seat_10 := rfl
theorem e_MO_seatOf_0 : blk MO_seatOf 0 = k_MO_seatOf_0 := rfl
theorem e_MO_seatOf_1 : blk MO_seatOf 1 = k_MO_seatOf_1 := rfl
theorem e_MO_seatOf_2 : blk MO_seatOf 2 = k_MO_seatOf_2 := rfl
theorem e_MO_seatOf_3 : blk MO_seatOf 3 = k_MO_seatOf_3 := rfl
theorem e_MO_rower_0 : blk MO_rower 0 = k_MO_rower_0 := rfl
theorem e_MO_rower_1 : blk MO_rower 1 = k_MO_rower_1 := rfl
theorem e_MO_rower_2 : blk MO_rower 2 = k_MO_rower_2 := rfl
theorem e_MO_rower_3 : blk MO_rower 3 = k_MO_rower_3 := rfl
theorem e_MO_rower_4 : blk MO_rower 4 = k_MO_rower_4 := rfl
theorem e_MO_rower_5 : blk MO_rower 5 = k_MO_rower_5 := rfl
theorem e_MO_rower_6 : blk MO_rower 6 = k_MO_rower_6 := rfl
theorem e_MO_isPower_0 : blk MO_isPower 0 = k_MO_isPower_0 := rfl
theorem e_MO_want_0 : blk MO_want 0 = k_MO_want_0 := rfl
theorem e_MO_want_1 : blk MO_want 1 = k_MO_want_1 := rfl
theorem e_MO_want_2 : blk MO_want 2 = k_MO_want_2 := rfl
theorem e_MO_swing_0 : blk MO_swing 0 = k_MO_swing_0 := rfl
theorem e_MO_swing_1 : blk MO_swing 1 = k_MO_swing_1 := rfl
theorem e_MO_swing_2 : blk MO_swing 2 = k_MO_swing_2 := rfl
theorem e_MO_off_0 : blk MO_off 0 = k_MO_off_0 := rfl
theorem e_MO_good_0 : blk MO_good 0 = k_MO_good_0 := rfl
theorem e_MO_good_1 : blk MO_good 1 = k_MO_good_1 := rfl
theorem e_MO_good_2 : blk MO_good 2 = k_MO_good_2 := rfl
theorem e_MO_lawful_0 : blk MO_lawful 0 = k_MO_lawful_0 := rfl
theorem e_MO_lawful_1 : blk MO_lawful 1 = k_MO_lawful_1 := rfl
theorem e_MO_lawful_2 : blk MO_lawful 2 = k_MO_lawful_2 := rfl
theorem e_MO_heading_0 : blk MO_heading 0 = k_MO_heading_0 := rfl
theorem e_MO_keeps_0 : blk MO_keeps 0 = k_MO_keeps_0 := rfl
theorem e_MO_keeps_1 : blk MO_keeps 1 = k_MO_keeps_1 := rfl
theorem e_MO_keeps_2 : blk MO_keeps 2 = k_MO_keeps_2 := rfl
theorem e_MO_keeps_3 : blk MO_keeps 3 = k_MO_keeps_3 := rfl
theorem e_MO_undo_0 : blk MO_undo 0 = k_MO_undo_0 := rfl
theorem e_MO_undo_1 : blk MO_undo 1 = k_MO_undo_1 := rfl
theorem e_MO_undo_2 : blk MO_undo 2 = k_MO_undo_2 := rfl
theorem e_MO_undo_3 : blk MO_undo 3 = k_MO_undo_3 := rfl
theorem e_MO_turn_0 : blk MO_turn 0 = k_MO_turn_0 := rfl
theorem e_MO_turn_1 : blk MO_turn 1 = k_MO_turn_1 := rfl
theorem e_MO_turn_2 : blk MO_turn 2 = k_MO_turn_2 := rfl
theorem e_MO_changesSeats_0 : blk MO_changesSeats 0 = k_MO_changesSeats_0 := rfl
theorem e_MO_canSwap_0 : blk MO_canSwap 0 = k_MO_canSwap_0 := rfl
theorem e_MO_canSwap_1 : blk MO_canSwap 1 = k_MO_canSwap_1 := rfl
theorem e_MO_canSwap_2 : blk MO_canSwap 2 = k_MO_canSwap_2 := rfl
theorem e_MO_canSwap_3 : blk MO_canSwap 3 = k_MO_canSwap_3 := rfl
theorem e_MO_swap_0 : blk MO_swap 0 = k_MO_swap_0 := rfl
theorem e_MO_swap_1 : blk MO_swap 1 = k_MO_swap_1 := rfl
theorem e_MO_canGo_0 : blk MO_canGo 0 = k_MO_canGo_0 := rfl
theorem e_MO_canGo_1 : blk MO_canGo 1 = k_MO_canGo_1 := rfl
theorem e_MO_canGo_2 : blk MO_canGo 2 = k_MO_canGo_2 := rfl
theorem e_MO_stroke_0 : blk MO_stroke 0 = k_MO_stroke_0 := rfl
theorem e_MO_stroke_1 : blk MO_stroke 1 = k_MO_stroke_1 := rfl
theorem e_MO_seed_0 : blk MO_seed 0 = k_MO_seed_0 := rfl
theorem e_MO_seed_1 : blk MO_seed 1 = k_MO_seed_1 := rfl
theorem e_MO_drawOf_0 : blk MO_drawOf 0 = k_MO_drawOf_0 := rfl
theorem e_MO_rows_0 : blk MO_rows 0 = k_MO_rows_0 := rfl
theorem e_MO_rows_1 : blk MO_rows 1 = k_MO_rows_1 := rfl
theorem e_MO_rows_2 : blk MO_rows 2 = k_MO_rows_2 := rfl
theorem e_MO_rows_3 : blk MO_rows 3 = k_MO_rows_3 := rfl
theorem e_MO_rows_4 : blk MO_rows 4 = k_MO_rows_4 := rfl
theorem e_MO_rows_5 : blk MO_rows 5 = k_MO_rows_5 := rfl
theorem e_MO_rows_6 : blk MO_rows 6 = k_MO_rows_6 := rfl
theorem e_MO_rows_7 : blk MO_rows 7 = k_MO_rows_7 := rfl
theorem e_MO_rows_8 : blk MO_rows 8 = k_MO_rows_8 := rfl
theorem e_MO_row_0 : blk MO_row 0 = k_MO_row_0 := rfl
theorem e_MO_row_1 : blk MO_row 1 = k_MO_row_1 := rfl
theorem e_MO_row_2 : blk MO_row 2 = k_MO_row_2 := rfl
theorem e_MO_row_3 : blk MO_row 3 = k_MO_row_3 := rfl
theorem e_MO_ways_0 : blk MO_ways 0 = k_MO_ways_0 := rfl
theorem e_MO_ways_1 : blk MO_ways 1 = k_MO_ways_1 := rfl
theorem e_MO_ways_2 : blk MO_ways 2 = k_MO_ways_2 := rfl
theorem e_MO_ways_3 : blk MO_ways 3 = k_MO_ways_3 := rfl
theorem e_MO_ways_4 : blk MO_ways 4 = k_MO_ways_4 := rfl
theorem e_MO_ways_5 : blk MO_ways 5 = k_MO_ways_5 := rfl
theorem e_MO_ways_6 : blk MO_ways 6 = k_MO_ways_6 := rfl
theorem e_MO_ways_7 : blk MO_ways 7 = k_MO_ways_7 := rfl
theorem e_MO_ways_8 : blk MO_ways 8 = k_MO_ways_8 := rfl
theorem e_MO_ways_9 : blk MO_ways 9 = k_MO_ways_9 := rfl
theorem e_MO_ways_10 : blk MO_ways 10 = k_MO_ways_10 := rfl
theorem e_MO_ways_11 : blk MO_ways 11 = k_MO_ways_11 := rfl
theorem e_MO_sumBy_0 : blk MO_sumBy 0 = k_MO_sumBy_0 := rfl
theorem e_MO_sumBy_1 : blk MO_sumBy 1 = k_MO_sumBy_1 := rfl
theorem e_MO_sumBy_2 : blk MO_sumBy 2 = k_MO_sumBy_2 := rfl
theorem e_MO_sumBy_3 : blk MO_sumBy 3 = k_MO_sumBy_3 := rfl
theorem e_MO_sumBy_4 : blk MO_sumBy 4 = k_MO_sumBy_4 := rfl
theorem e_MO_made_0 : blk MO_made 0 = k_MO_made_0 := rfl
theorem e_MO_made_1 : blk MO_made 1 = k_MO_made_1 := rfl
theorem e_MO_made_2 : blk MO_made 2 = k_MO_made_2 := rfl
theorem e_MO_made_3 : blk MO_made 3 = k_MO_made_3 := rfl
theorem e_MO_made_4 : blk MO_made 4 = k_MO_made_4 := rfl
theorem e_MO_made_5 : blk MO_made 5 = k_MO_made_5 := rfl
theorem e_MO_made_6 : blk MO_made 6 = k_MO_made_6 := rfl
theorem e_MO_made_7 : blk MO_made 7 = k_MO_made_7 := rfl
theorem e_MO_doubled_0 : blk MO_doubled 0 = k_MO_doubled_0 := rfl
theorem e_MO_doubled_1 : blk MO_doubled 1 = k_MO_doubled_1 := rfl
theorem e_MO_doubled_2 : blk MO_doubled 2 = k_MO_doubled_2 := rfl
theorem e_MO_doubled_3 : blk MO_doubled 3 = k_MO_doubled_3 := rfl
theorem e_MO_doubled_4 : blk MO_doubled 4 = k_MO_doubled_4 := rfl
theorem e_MO_doubled_5 : blk MO_doubled 5 = k_MO_doubled_5 := rfl
theorem e_MO_doubled_6 : blk MO_doubled 6 = k_MO_doubled_6 := rfl
theorem e_MO_still_0 : blk MO_still 0 = k_MO_still_0 := rfl
theorem e_MO_still_1 : blk MO_still 1 = k_MO_still_1 := rfl
theorem e_MO_still_2 : blk MO_still 2 = k_MO_still_2 := rfl
theorem e_MO_still_3 : blk MO_still 3 = k_MO_still_3 := rfl
theorem e_MO_still_4 : blk MO_still 4 = k_MO_still_4 := rfl
theorem e_MO_isNearest_0 : blk MO_isNearest 0 = k_MO_isNearest_0 := rfl
theorem e_MO_isNearest_1 : blk MO_isNearest 1 = k_MO_isNearest_1 := rfl
theorem e_MO_isNearest_2 : blk MO_isNearest 2 = k_MO_isNearest_2 := rfl
theorem e_MO_isNearest_3 : blk MO_isNearest 3 = k_MO_isNearest_3 := rfl
theorem e_MO_isNearest_4 : blk MO_isNearest 4 = k_MO_isNearest_4 := rfl
theorem e_MO_isNearest_5 : blk MO_isNearest 5 = k_MO_isNearest_5 := rfl
theorem e_MO_isNearest_6 : blk MO_isNearest 6 = k_MO_isNearest_6 := rfl
theorem e_MO_isNearest_7 : blk MO_isNearest 7 = k_MO_isNearest_7 := rfl
theorem e_MO_nearest_0 : blk MO_nearest 0 = k_MO_nearest_0 := rfl
theorem e_MO_nearest_1 : blk MO_nearest 1 = k_MO_nearest_1 := rfl
theorem e_MO_nearest_2 : blk MO_nearest 2 = k_MO_nearest_2 := rfl
theorem e_MO_nearest_3 : blk MO_nearest 3 = k_MO_nearest_3 := rfl
theorem e_MO_nearest_4 : blk MO_nearest 4 = k_MO_nearest_4 := rfl
theorem e_MO_nearest_5 : blk MO_nearest 5 = k_MO_nearest_5 := rfl
theorem e_MO_nearest_6 : blk MO_nearest 6 = k_MO_nearest_6 := rfl
theorem e_MO_nearest_7 : blk MO_nearest 7 = k_MO_nearest_7 := rfl
theorem e_MO_nearest_8 : blk MO_nearest 8 = k_MO_nearest_8 := rfl
theorem e_MO_putsAside_0 : blk MO_putsAside 0 = k_MO_putsAside_0 := rfl
theorem e_MO_putsAside_1 : blk MO_putsAside 1 = k_MO_putsAside_1 := rfl
theorem e_MO_putsAside_2 : blk MO_putsAside 2 = k_MO_putsAside_2 := rfl
theorem e_MO_takesBack_0 : blk MO_takesBack 0 = k_MO_takesBack_0 := rfl
theorem e_MO_takesBack_1 : blk MO_takesBack 1 = k_MO_takesBack_1 := rfl
theorem e_MO_takesBack_2 : blk MO_takesBack 2 = k_MO_takesBack_2 := rfl
theorem e_MO_sitBy_0 : blk MO_sitBy 0 = k_MO_sitBy_0 := rfl
theorem e_MO_sitBy_1 : blk MO_sitBy 1 = k_MO_sitBy_1 := rfl
theorem e_MO_sitBy_2 : blk MO_sitBy 2 = k_MO_sitBy_2 := rfl
theorem e_MO_sitBy_3 : blk MO_sitBy 3 = k_MO_sitBy_3 := rfl
theorem e_MO_sitBy_4 : blk MO_sitBy 4 = k_MO_sitBy_4 := rfl
theorem e_MO_seated_0 : blk MO_seated 0 = k_MO_seated_0 := rfl
theorem e_MO_seated_1 : blk MO_seated 1 = k_MO_seated_1 := rfl
theorem e_MO_seated_2 : blk MO_seated 2 = k_MO_seated_2 := rfl
theorem e_MO_seated_3 : blk MO_seated 3 = k_MO_seated_3 := rfl
theorem e_MO_seated_4 : blk MO_seated 4 = k_MO_seated_4 := rfl
theorem e_MO_seated_5 : blk MO_seated 5 = k_MO_seated_5 := rfl
theorem e_MO_seated_6 : blk MO_seated 6 = k_MO_seated_6 := rfl
theorem e_MO_seated_7 : blk MO_seated 7 = k_MO_seated_7 := rfl
theorem e_MO_seated_8 : blk MO_seated 8 = k_MO_seated_8 := rfl
theorem e_MO_seated_9 : blk MO_seated 9 = k_MO_seated_9 := rfl
theorem e_MO_seated_10 : blk MO_seated 10 = k_MO_seated_10 := rfl
theorem e_MO_seated_11 : blk MO_seated 11 = k_MO_seated_11 := rfl
theorem e_MO_seated_12 : blk MO_seated 12 = k_MO_seated_12 := rfl
theorem e_MO_seated_13 : blk MO_seated 13 = k_MO_seated_13 := rfl
theorem e_MO_actMany_0 : blk MO_actMany 0 = k_MO_actMany_0 := rfl
theorem e_MO_acts_0 : blk MO_acts 0 = k_MO_acts_0 := rfl
theorem e_MO_acts_1 : blk MO_acts 1 = k_MO_acts_1 := rfl
theorem e_MO_acts_2 : blk MO_acts 2 = k_MO_acts_2 := rfl
theorem e_MO_acts_3 : blk MO_acts 3 = k_MO_acts_3 := rfl
theorem e_MO_acts_4 : blk MO_acts 4 = k_MO_acts_4 := rfl
theorem e_MO_isRight_0 : blk MO_isRight 0 = k_MO_isRight_0 := rfl
theorem e_MO_isRight_1 : blk MO_isRight 1 = k_MO_isRight_1 := rfl
theorem e_MO_isRight_2 : blk MO_isRight 2 = k_MO_isRight_2 := rfl
theorem e_MO_isOneOff_0 : blk MO_isOneOff 0 = k_MO_isOneOff_0 := rfl
theorem e_MO_isOneOff_1 : blk MO_isOneOff 1 = k_MO_isOneOff_1 := rfl
theorem e_MO_isOneOff_2 : blk MO_isOneOff 2 = k_MO_isOneOff_2 := rfl
theorem e_MO_isOneOff_3 : blk MO_isOneOff 3 = k_MO_isOneOff_3 := rfl
theorem e_MO_isOneOff_4 : blk MO_isOneOff 4 = k_MO_isOneOff_4 := rfl
theorem e_MO_isTwoOff_0 : blk MO_isTwoOff 0 = k_MO_isTwoOff_0 := rfl
theorem e_MO_isTwoOff_1 : blk MO_isTwoOff 1 = k_MO_isTwoOff_1 := rfl
theorem e_MO_isTwoOff_2 : blk MO_isTwoOff 2 = k_MO_isTwoOff_2 := rfl
theorem e_MO_isTwoOff_3 : blk MO_isTwoOff 3 = k_MO_isTwoOff_3 := rfl
theorem e_MO_isTwoOff_4 : blk MO_isTwoOff 4 = k_MO_isTwoOff_4 := rfl
theorem e_MO_isThreeOff_0 : blk MO_isThreeOff 0 = k_MO_isThreeOff_0 := rfl
theorem e_MO_isThreeOff_1 : blk MO_isThreeOff 1 = k_MO_isThreeOff_1 := rfl
theorem e_MO_isThreeOff_2 : blk MO_isThreeOff 2 = k_MO_isThreeOff_2 := rfl
theorem e_MO_isThreeOff_3 : blk MO_isThreeOff 3 = k_MO_isThreeOff_3 := rfl
theorem e_MO_isThreeOff_4 : blk MO_isThreeOff 4 = k_MO_isThreeOff_4 := rfl
theorem e_MO_changes_0 : blk MO_changes 0 = k_MO_changes_0 := rfl
theorem e_MO_changes_1 : blk MO_changes 1 = k_MO_changes_1 := rfl
theorem e_MO_changes_2 : blk MO_changes 2 = k_MO_changes_2 := rfl
theorem e_MO_changes_3 : blk MO_changes 3 = k_MO_changes_3 := rfl
theorem e_MO_changes_4 : blk MO_changes 4 = k_MO_changes_4 := rfl
theorem e_MO_changes_5 : blk MO_changes 5 = k_MO_changes_5 := rfl
theorem e_MO_greater_0 : blk MO_greater 0 = k_MO_greater_0 := rfl
theorem e_MO_greater_1 : blk MO_greater 1 = k_MO_greater_1 := rfl
theorem e_MO_greater_2 : blk MO_greater 2 = k_MO_greater_2 := rfl
theorem e_MO_greatest_0 : blk MO_greatest 0 = k_MO_greatest_0 := rfl
theorem e_MO_greatest_1 : blk MO_greatest 1 = k_MO_greatest_1 := rfl
theorem e_MO_greatest_2 : blk MO_greatest 2 = k_MO_greatest_2 := rfl
theorem e_MO_race_0 : blk MO_race 0 = k_MO_race_0 := rfl
theorem e_MO_race_1 : blk MO_race 1 = k_MO_race_1 := rfl
theorem e_MO_race_2 : blk MO_race 2 = k_MO_race_2 := rfl
theorem e_MO_stillest_0 : blk MO_stillest 0 = k_MO_stillest_0 := rfl
theorem e_MO_stillest_1 : blk MO_stillest 1 = k_MO_stillest_1 := rfl
theorem e_MO_stillest_2 : blk MO_stillest 2 = k_MO_stillest_2 := rfl
theorem e_MO_stillest_3 : blk MO_stillest 3 = k_MO_stillest_3 := rfl
theorem e_MO_stillest_4 : blk MO_stillest 4 = k_MO_stillest_4 := rfl
theorem e_MO_stillest_5 : blk MO_stillest 5 = k_MO_stillest_5 := rfl
theorem e_MO_stillest_6 : blk MO_stillest 6 = k_MO_stillest_6 := rfl
theorem e_MO_stillest_7 : blk MO_stillest 7 = k_MO_stillest_7 := rfl
theorem e_MO_stillest_8 : blk MO_stillest 8 = k_MO_stillest_8 := rfl
theorem e_MO_stillest_9 : blk MO_stillest 9 = k_MO_stillest_9 := rfl
theorem e_MO_stillest_10 : blk MO_stillest 10 = k_MO_stillest_10 := rfl
theorem e_MO_underBy_0 : blk MO_underBy 0 = k_MO_underBy_0 := rfl
theorem e_MO_underBy_1 : blk MO_underBy 1 = k_MO_underBy_1 := rfl
theorem e_MO_underBy_2 : blk MO_underBy 2 = k_MO_underBy_2 := rfl
theorem e_MO_underBy_3 : blk MO_underBy 3 = k_MO_underBy_3 := rfl
theorem e_MO_underBy_4 : blk MO_underBy 4 = k_MO_underBy_4 := rfl
theorem e_MO_underBy_5 : blk MO_underBy 5 = k_MO_underBy_5 := rfl
theorem e_MO_underBy_6 : blk MO_underBy 6 = k_MO_underBy_6 := rfl
theorem e_MO_underBy_7 : blk MO_underBy 7 = k_MO_underBy_7 := rfl
theorem e_MO_under_0 : blk MO_under 0 = k_MO_under_0 := rfl
theorem e_MO_under_1 : blk MO_under 1 = k_MO_under_1 := rfl
theorem e_MO_under_2 : blk MO_under 2 = k_MO_under_2 := rfl
theorem e_MO_under_3 : blk MO_under 3 = k_MO_under_3 := rfl
theorem e_MO_under_4 : blk MO_under 4 = k_MO_under_4 := rfl
theorem e_MO_under_5 : blk MO_under 5 = k_MO_under_5 := rfl
theorem e_MO_under_6 : blk MO_under 6 = k_MO_under_6 := rfl
theorem e_MO_under_7 : blk MO_under 7 = k_MO_under_7 := rfl
theorem e_MO_under_8 : blk MO_under 8 = k_MO_under_8 := rfl
theorem e_MO_under_9 : blk MO_under 9 = k_MO_under_9 := rfl
theorem e_MO_under_10 : blk MO_under 10 = k_MO_under_10 := rfl
theorem e_MO_triesTold_0 : blk MO_triesTold 0 = k_MO_triesTold_0 := rfl
theorem e_MO_triesTold_1 : blk MO_triesTold 1 = k_MO_triesTold_1 := rfl
theorem e_MO_triesTold_2 : blk MO_triesTold 2 = k_MO_triesTold_2 := rfl
theorem e_MO_triesTold_3 : blk MO_triesTold 3 = k_MO_triesTold_3 := rfl
theorem e_MO_triesTold_4 : blk MO_triesTold 4 = k_MO_triesTold_4 := rfl
theorem e_MO_isFit_0 : blk MO_isFit 0 = k_MO_isFit_0 := rfl
theorem e_MO_isFit_1 : blk MO_isFit 1 = k_MO_isFit_1 := rfl
theorem e_MO_isFit_2 : blk MO_isFit 2 = k_MO_isFit_2 := rfl
theorem e_MO_isFit_3 : blk MO_isFit 3 = k_MO_isFit_3 := rfl
theorem e_MO_isFit_4 : blk MO_isFit 4 = k_MO_isFit_4 := rfl
theorem e_MO_isFit_5 : blk MO_isFit 5 = k_MO_isFit_5 := rfl
theorem e_MO_isFit_6 : blk MO_isFit 6 = k_MO_isFit_6 := rfl
theorem e_MO_isFit_7 : blk MO_isFit 7 = k_MO_isFit_7 := rfl
theorem e_MO_firstUnfit_0 : blk MO_firstUnfit 0 = k_MO_firstUnfit_0 := rfl
theorem e_MO_firstUnfit_1 : blk MO_firstUnfit 1 = k_MO_firstUnfit_1 := rfl
theorem e_MO_firstUnfit_2 : blk MO_firstUnfit 2 = k_MO_firstUnfit_2 := rfl
theorem e_MO_firstUnfit_3 : blk MO_firstUnfit 3 = k_MO_firstUnfit_3 := rfl
theorem e_MO_fits_0 : blk MO_fits 0 = k_MO_fits_0 := rfl
theorem e_MO_fittingRows_0 : blk MO_fittingRows 0 = k_MO_fittingRows_0 := rfl
theorem e_MO_fittingRows_1 : blk MO_fittingRows 1 = k_MO_fittingRows_1 := rfl
theorem e_MO_fittingRows_2 : blk MO_fittingRows 2 = k_MO_fittingRows_2 := rfl
theorem e_MO_fittingRows_3 : blk MO_fittingRows 3 = k_MO_fittingRows_3 := rfl
theorem e_MO_fittingRows_4 : blk MO_fittingRows 4 = k_MO_fittingRows_4 := rfl
theorem e_MO_fittingRows_5 : blk MO_fittingRows 5 = k_MO_fittingRows_5 := rfl
theorem e_MO_fittingRows_6 : blk MO_fittingRows 6 = k_MO_fittingRows_6 := rfl
theorem e_MO_fittingRows_7 : blk MO_fittingRows 7 = k_MO_fittingRows_7 := rfl
theorem e_MO_fittingRows_8 : blk MO_fittingRows 8 = k_MO_fittingRows_8 := rfl
theorem e_MO_fittingRows_9 : blk MO_fittingRows 9 = k_MO_fittingRows_9 := rfl
theorem e_MO_fittingRows_10 : blk MO_fittingRows 10 = k_MO_fittingRows_10 := rfl
theorem e_MO_fittingRows_11 : blk MO_fittingRows 11 = k_MO_fittingRows_11 := rfl
theorem e_MO_fittingRows_12 : blk MO_fittingRows 12 = k_MO_fittingRows_12 := rfl
theorem e_MO_fittingRows_13 : blk MO_fittingRows 13 = k_MO_fittingRows_13 := rfl
theorem e_MO_fittingRows_14 : blk MO_fittingRows 14 = k_MO_fittingRows_14 := rfl
theorem e_MO_strengths_0 : blk MO_strengths 0 = k_MO_strengths_0 := rfl
theorem e_MO_strengths_1 : blk MO_strengths 1 = k_MO_strengths_1 := rfl
theorem e_MO_strengths_2 : blk MO_strengths 2 = k_MO_strengths_2 := rfl
theorem e_MO_strengths_3 : blk MO_strengths 3 = k_MO_strengths_3 := rfl
theorem e_MO_strengths_4 : blk MO_strengths 4 = k_MO_strengths_4 := rfl
theorem e_MO_strengths_5 : blk MO_strengths 5 = k_MO_strengths_5 := rfl
theorem e_MO_strengths_6 : blk MO_strengths 6 = k_MO_strengths_6 := rfl
theorem e_MO_crooked_0 : blk MO_crooked 0 = k_MO_crooked_0 := rfl
theorem e_MO_crooked_1 : blk MO_crooked 1 = k_MO_crooked_1 := rfl
theorem e_MO_crooked_2 : blk MO_crooked 2 = k_MO_crooked_2 := rfl
theorem e_MO_crooked_3 : blk MO_crooked 3 = k_MO_crooked_3 := rfl
theorem e_MO_crooked_4 : blk MO_crooked 4 = k_MO_crooked_4 := rfl
theorem e_MO_crooked_5 : blk MO_crooked 5 = k_MO_crooked_5 := rfl
theorem e_MO_crooked_6 : blk MO_crooked 6 = k_MO_crooked_6 := rfl
theorem e_MO_payments_0 : blk MO_payments 0 = k_MO_payments_0 := rfl
theorem e_MO_apartBy_0 : blk MO_apartBy 0 = k_MO_apartBy_0 := rfl
theorem e_MO_apartBy_1 : blk MO_apartBy 1 = k_MO_apartBy_1 := rfl
theorem e_MO_apartBy_2 : blk MO_apartBy 2 = k_MO_apartBy_2 := rfl
theorem e_MO_apartBy_3 : blk MO_apartBy 3 = k_MO_apartBy_3 := rfl
theorem e_MO_apartBy_4 : blk MO_apartBy 4 = k_MO_apartBy_4 := rfl
theorem e_MO_apartBy_5 : blk MO_apartBy 5 = k_MO_apartBy_5 := rfl
theorem e_MO_apartBy_6 : blk MO_apartBy 6 = k_MO_apartBy_6 := rfl
theorem e_MO_heirs_0 : blk MO_heirs 0 = k_MO_heirs_0 := rfl
theorem e_MO_heirs_1 : blk MO_heirs 1 = k_MO_heirs_1 := rfl
theorem e_MO_heirs_2 : blk MO_heirs 2 = k_MO_heirs_2 := rfl
theorem e_MO_heirs_3 : blk MO_heirs 3 = k_MO_heirs_3 := rfl
theorem e_MO_heirs_4 : blk MO_heirs 4 = k_MO_heirs_4 := rfl
theorem e_MO_heirs_5 : blk MO_heirs 5 = k_MO_heirs_5 := rfl
theorem e_MO_heirs_6 : blk MO_heirs 6 = k_MO_heirs_6 := rfl
theorem e_MO_heirs_7 : blk MO_heirs 7 = k_MO_heirs_7 := rfl
theorem e_MO_heirs_8 : blk MO_heirs 8 = k_MO_heirs_8 := rfl
theorem e_MO_heirs_9 : blk MO_heirs 9 = k_MO_heirs_9 := rfl
theorem e_MO_apart_0 : blk MO_apart 0 = k_MO_apart_0 := rfl
theorem e_MO_apart_1 : blk MO_apart 1 = k_MO_apart_1 := rfl
theorem e_MO_apart_2 : blk MO_apart 2 = k_MO_apart_2 := rfl
theorem e_MO_qCode_0 : blk MO_qCode 0 = k_MO_qCode_0 := rfl
theorem e_MO_qOpens_0 : blk MO_qOpens 0 = k_MO_qOpens_0 := rfl
theorem e_MO_qOpens_1 : blk MO_qOpens 1 = k_MO_qOpens_1 := rfl
theorem e_MO_qOpens_2 : blk MO_qOpens 2 = k_MO_qOpens_2 := rfl
theorem e_MO_qIsOn_0 : blk MO_qIsOn 0 = k_MO_qIsOn_0 := rfl
theorem e_MO_qIsOn_1 : blk MO_qIsOn 1 = k_MO_qIsOn_1 := rfl
theorem e_MO_qIsOn_2 : blk MO_qIsOn 2 = k_MO_qIsOn_2 := rfl
theorem e_MO_qDrops_0 : blk MO_qDrops 0 = k_MO_qDrops_0 := rfl
theorem e_MO_qIsBracket_0 : blk MO_qIsBracket 0 = k_MO_qIsBracket_0 := rfl
theorem e_MO_qIsBracket_1 : blk MO_qIsBracket 1 = k_MO_qIsBracket_1 := rfl
theorem e_MO_qIsBracket_2 : blk MO_qIsBracket 2 = k_MO_qIsBracket_2 := rfl
theorem e_MO_qBracket_0 : blk MO_qBracket 0 = k_MO_qBracket_0 := rfl
theorem e_MO_qBracket_1 : blk MO_qBracket 1 = k_MO_qBracket_1 := rfl
theorem e_MO_qBracket_2 : blk MO_qBracket 2 = k_MO_qBracket_2 := rfl
theorem e_MO_qBracket_3 : blk MO_qBracket 3 = k_MO_qBracket_3 := rfl
theorem e_MO_qBracket_4 : blk MO_qBracket 4 = k_MO_qBracket_4 := rfl
theorem e_MO_qDropsToBracket_0 : blk MO_qDropsToBracket 0 = k_MO_qDropsToBracket_0 := rfl
theorem e_MO_qDropsToBracket_1 : blk MO_qDropsToBracket 1 = k_MO_qDropsToBracket_1 := rfl
theorem e_MO_qWordHere_0 : blk MO_qWordHere 0 = k_MO_qWordHere_0 := rfl
theorem e_MO_qWordHere_1 : blk MO_qWordHere 1 = k_MO_qWordHere_1 := rfl
theorem e_MO_qWordHere_2 : blk MO_qWordHere 2 = k_MO_qWordHere_2 := rfl
theorem e_MO_qWordHere_3 : blk MO_qWordHere 3 = k_MO_qWordHere_3 := rfl
theorem e_MO_qWordHere_4 : blk MO_qWordHere 4 = k_MO_qWordHere_4 := rfl
theorem e_MO_qWordHere_5 : blk MO_qWordHere 5 = k_MO_qWordHere_5 := rfl
theorem e_MO_qWordOf_0 : blk MO_qWordOf 0 = k_MO_qWordOf_0 := rfl
theorem e_MO_qWordOf_1 : blk MO_qWordOf 1 = k_MO_qWordOf_1 := rfl
theorem e_MO_qWordOf_2 : blk MO_qWordOf 2 = k_MO_qWordOf_2 := rfl
theorem e_MO_qAsksWord_0 : blk MO_qAsksWord 0 = k_MO_qAsksWord_0 := rfl
theorem e_MO_qAsksWord_1 : blk MO_qAsksWord 1 = k_MO_qAsksWord_1 := rfl
theorem e_MO_qAsksWord_2 : blk MO_qAsksWord 2 = k_MO_qAsksWord_2 := rfl
theorem e_MO_qAsksWord_3 : blk MO_qAsksWord 3 = k_MO_qAsksWord_3 := rfl
theorem e_MO_qAsksWord_4 : blk MO_qAsksWord 4 = k_MO_qAsksWord_4 := rfl
theorem e_MO_qAsksWord_5 : blk MO_qAsksWord 5 = k_MO_qAsksWord_5 := rfl
theorem e_MO_qAsksWord_6 : blk MO_qAsksWord 6 = k_MO_qAsksWord_6 := rfl
theorem e_MO_qEndsPart_0 : blk MO_qEndsPart 0 = k_MO_qEndsPart_0 := rfl
theorem e_MO_qEndsPart_1 : blk MO_qEndsPart 1 = k_MO_qEndsPart_1 := rfl
theorem e_MO_qPartTold_0 : blk MO_qPartTold 0 = k_MO_qPartTold_0 := rfl
theorem e_MO_qPartTold_1 : blk MO_qPartTold 1 = k_MO_qPartTold_1 := rfl
theorem e_MO_qPartTold_2 : blk MO_qPartTold 2 = k_MO_qPartTold_2 := rfl
theorem e_MO_qPartTold_3 : blk MO_qPartTold 3 = k_MO_qPartTold_3 := rfl
theorem e_MO_qPartTold_4 : blk MO_qPartTold 4 = k_MO_qPartTold_4 := rfl
theorem e_MO_qPartTold_5 : blk MO_qPartTold 5 = k_MO_qPartTold_5 := rfl
theorem e_MO_qPartTold_6 : blk MO_qPartTold 6 = k_MO_qPartTold_6 := rfl
theorem e_MO_qPartTold_7 : blk MO_qPartTold 7 = k_MO_qPartTold_7 := rfl
theorem e_MO_qPartTold_8 : blk MO_qPartTold 8 = k_MO_qPartTold_8 := rfl
theorem e_MO_qPartTold_9 : blk MO_qPartTold 9 = k_MO_qPartTold_9 := rfl
theorem e_MO_qPartTold_10 : blk MO_qPartTold 10 = k_MO_qPartTold_10 := rfl
theorem e_MO_qPartTold_11 : blk MO_qPartTold 11 = k_MO_qPartTold_11 := rfl
theorem e_MO_qPartTold_12 : blk MO_qPartTold 12 = k_MO_qPartTold_12 := rfl
theorem e_MO_qPartTold_13 : blk MO_qPartTold 13 = k_MO_qPartTold_13 := rfl
theorem e_MO_qPartTold_14 : blk MO_qPartTold 14 = k_MO_qPartTold_14 := rfl
theorem e_MO_qPartTold_15 : blk MO_qPartTold 15 = k_MO_qPartTold_15 := rfl
theorem e_MO_qPartTold_16 : blk MO_qPartTold 16 = k_MO_qPartTold_16 := rfl
theorem e_MO_qPartTold_17 : blk MO_qPartTold 17 = k_MO_qPartTold_17 := rfl
theorem e_MO_qGoesOn_0 : blk MO_qGoesOn 0 = k_MO_qGoesOn_0 := rfl
theorem e_MO_qGoesOn_1 : blk MO_qGoesOn 1 = k_MO_qGoesOn_1 := rfl
theorem e_MO_qGoesOn_2 : blk MO_qGoesOn 2 = k_MO_qGoesOn_2 := rfl
theorem e_MO_qGoesOn_3 : blk MO_qGoesOn 3 = k_MO_qGoesOn_3 := rfl
theorem e_MO_qGoesOn_4 : blk MO_qGoesOn 4 = k_MO_qGoesOn_4 := rfl
theorem e_MO_qGoesOn_5 : blk MO_qGoesOn 5 = k_MO_qGoesOn_5 := rfl
theorem e_MO_qGoesOn_6 : blk MO_qGoesOn 6 = k_MO_qGoesOn_6 := rfl
theorem e_MO_qGoesOn_7 : blk MO_qGoesOn 7 = k_MO_qGoesOn_7 := rfl
theorem e_MO_qGoesOn_8 : blk MO_qGoesOn 8 = k_MO_qGoesOn_8 := rfl
theorem e_MO_qGoesOn_9 : blk MO_qGoesOn 9 = k_MO_qGoesOn_9 := rfl
theorem e_MO_qGoesOn_10 : blk MO_qGoesOn 10 = k_MO_qGoesOn_10 := rfl
theorem e_MO_qGoesOn_11 : blk MO_qGoesOn 11 = k_MO_qGoesOn_11 := rfl
theorem e_MO_qGoesOn_12 : blk MO_qGoesOn 12 = k_MO_qGoesOn_12 := rfl
theorem e_MO_qGoesOn_13 : blk MO_qGoesOn 13 = k_MO_qGoesOn_13 := rfl
theorem e_MO_qGoesOn_14 : blk MO_qGoesOn 14 = k_MO_qGoesOn_14 := rfl
theorem e_MO_qGoesOn_15 : blk MO_qGoesOn 15 = k_MO_qGoesOn_15 := rfl
theorem e_MO_qGoesOn_16 : blk MO_qGoesOn 16 = k_MO_qGoesOn_16 := rfl
theorem e_MO_qGoesOn_17 : blk MO_qGoesOn 17 = k_MO_qGoesOn_17 := rfl
theorem e_MO_qGoesOn_18 : blk MO_qGoesOn 18 = k_MO_qGoesOn_18 := rfl
theorem e_MO_qGoesOn_19 : blk MO_qGoesOn 19 = k_MO_qGoesOn_19 := rfl
theorem e_MO_qGoesOn_20 : blk MO_qGoesOn 20 = k_MO_qGoesOn_20 := rfl
theorem e_MO_qGoesOn_21 : blk MO_qGoesOn 21 = k_MO_qGoesOn_21 := rfl
theorem e_MO_qGoesOn_22 : blk MO_qGoesOn 22 = k_MO_qGoesOn_22 := rfl
theorem e_MO_qGoesOn_23 : blk MO_qGoesOn 23 = k_MO_qGoesOn_23 := rfl
theorem e_MO_qSums_0 : blk MO_qSums 0 = k_MO_qSums_0 := rfl
theorem e_MO_qSums_1 : blk MO_qSums 1 = k_MO_qSums_1 := rfl
theorem e_MO_qSums_2 : blk MO_qSums 2 = k_MO_qSums_2 := rfl
theorem e_MO_qSums_3 : blk MO_qSums 3 = k_MO_qSums_3 := rfl
theorem e_MO_qSums_4 : blk MO_qSums 4 = k_MO_qSums_4 := rfl
theorem e_MO_qSums_5 : blk MO_qSums 5 = k_MO_qSums_5 := rfl
theorem e_MO_qFact_0 : blk MO_qFact 0 = k_MO_qFact_0 := rfl
theorem e_MO_qFact_1 : blk MO_qFact 1 = k_MO_qFact_1 := rfl
theorem e_MO_qFact_2 : blk MO_qFact 2 = k_MO_qFact_2 := rfl
theorem e_MO_qFact_3 : blk MO_qFact 3 = k_MO_qFact_3 := rfl
theorem e_MO_qFact_4 : blk MO_qFact 4 = k_MO_qFact_4 := rfl
theorem e_MO_qFact_5 : blk MO_qFact 5 = k_MO_qFact_5 := rfl
theorem e_MO_qFact_6 : blk MO_qFact 6 = k_MO_qFact_6 := rfl
theorem e_MO_qHasSquare_0 : blk MO_qHasSquare 0 = k_MO_qHasSquare_0 := rfl
theorem e_MO_qHasSquare_1 : blk MO_qHasSquare 1 = k_MO_qHasSquare_1 := rfl
theorem e_MO_qHasSquare_2 : blk MO_qHasSquare 2 = k_MO_qHasSquare_2 := rfl
theorem e_MO_qHasSquare_3 : blk MO_qHasSquare 3 = k_MO_qHasSquare_3 := rfl
theorem e_MO_qDropsNots_0 : blk MO_qDropsNots 0 = k_MO_qDropsNots_0 := rfl
theorem e_MO_qDropsNots_1 : blk MO_qDropsNots 1 = k_MO_qDropsNots_1 := rfl
theorem e_MO_qTest_0 : blk MO_qTest 0 = k_MO_qTest_0 := rfl
theorem e_MO_qTest_1 : blk MO_qTest 1 = k_MO_qTest_1 := rfl
theorem e_MO_qTest_2 : blk MO_qTest 2 = k_MO_qTest_2 := rfl
theorem e_MO_qTest_3 : blk MO_qTest 3 = k_MO_qTest_3 := rfl
theorem e_MO_qTest_4 : blk MO_qTest 4 = k_MO_qTest_4 := rfl
theorem e_MO_qTest_5 : blk MO_qTest 5 = k_MO_qTest_5 := rfl
theorem e_MO_qTest_6 : blk MO_qTest 6 = k_MO_qTest_6 := rfl
theorem e_MO_qTest_7 : blk MO_qTest 7 = k_MO_qTest_7 := rfl
theorem e_MO_qGoesOnTest_0 : blk MO_qGoesOnTest 0 = k_MO_qGoesOnTest_0 := rfl
theorem e_MO_qGoesOnTest_1 : blk MO_qGoesOnTest 1 = k_MO_qGoesOnTest_1 := rfl
theorem e_MO_qGoesOnTest_2 : blk MO_qGoesOnTest 2 = k_MO_qGoesOnTest_2 := rfl
theorem e_MO_qGoesOnTest_3 : blk MO_qGoesOnTest 3 = k_MO_qGoesOnTest_3 := rfl
theorem e_MO_qGoesOnTest_4 : blk MO_qGoesOnTest 4 = k_MO_qGoesOnTest_4 := rfl
theorem e_MO_qGoesOnTest_5 : blk MO_qGoesOnTest 5 = k_MO_qGoesOnTest_5 := rfl
theorem e_MO_qGoesOnTest_6 : blk MO_qGoesOnTest 6 = k_MO_qGoesOnTest_6 := rfl
theorem e_MO_qGoesOnTest_7 : blk MO_qGoesOnTest 7 = k_MO_qGoesOnTest_7 := rfl
theorem e_MO_qGoesOnTest_8 : blk MO_qGoesOnTest 8 = k_MO_qGoesOnTest_8 := rfl
theorem e_MO_qGoesOnTest_9 : blk MO_qGoesOnTest 9 = k_MO_qGoesOnTest_9 := rfl
theorem e_MO_qGoesOnTest_10 : blk MO_qGoesOnTest 10 = k_MO_qGoesOnTest_10 := rfl
theorem e_MO_qGoesOnTest_11 : blk MO_qGoesOnTest 11 = k_MO_qGoesOnTest_11 := rfl
theorem e_MO_qClip_0 : blk MO_qClip 0 = k_MO_qClip_0 := rfl
theorem e_MO_qClip_1 : blk MO_qClip 1 = k_MO_qClip_1 := rfl
theorem e_MO_qClip_2 : blk MO_qClip 2 = k_MO_qClip_2 := rfl
theorem e_MO_qClip_3 : blk MO_qClip 3 = k_MO_qClip_3 := rfl
theorem e_MO_qFloor_0 : blk MO_qFloor 0 = k_MO_qFloor_0 := rfl
theorem e_MO_qFloor_1 : blk MO_qFloor 1 = k_MO_qFloor_1 := rfl
theorem e_MO_qFloor_2 : blk MO_qFloor 2 = k_MO_qFloor_2 := rfl
theorem e_MO_qFloor_3 : blk MO_qFloor 3 = k_MO_qFloor_3 := rfl
theorem e_MO_qFloor_4 : blk MO_qFloor 4 = k_MO_qFloor_4 := rfl
theorem e_MO_qFloor_5 : blk MO_qFloor 5 = k_MO_qFloor_5 := rfl
theorem e_MO_qFloor_6 : blk MO_qFloor 6 = k_MO_qFloor_6 := rfl
theorem e_MO_qFloor_7 : blk MO_qFloor 7 = k_MO_qFloor_7 := rfl
theorem e_MO_qPuts_0 : blk MO_qPuts 0 = k_MO_qPuts_0 := rfl
theorem e_MO_qJoins_0 : blk MO_qJoins 0 = k_MO_qJoins_0 := rfl
theorem e_MO_qJoins_1 : blk MO_qJoins 1 = k_MO_qJoins_1 := rfl
theorem e_MO_qJoins_2 : blk MO_qJoins 2 = k_MO_qJoins_2 := rfl
theorem e_MO_qJoins_3 : blk MO_qJoins 3 = k_MO_qJoins_3 := rfl
theorem e_MO_qJoins_4 : blk MO_qJoins 4 = k_MO_qJoins_4 := rfl
theorem e_MO_qJoins_5 : blk MO_qJoins 5 = k_MO_qJoins_5 := rfl
theorem e_MO_qJoins_6 : blk MO_qJoins 6 = k_MO_qJoins_6 := rfl
theorem e_MO_qJoins_7 : blk MO_qJoins 7 = k_MO_qJoins_7 := rfl
theorem e_MO_qJoins_8 : blk MO_qJoins 8 = k_MO_qJoins_8 := rfl
theorem e_MO_qJoins_9 : blk MO_qJoins 9 = k_MO_qJoins_9 := rfl
theorem e_MO_qJoins_10 : blk MO_qJoins 10 = k_MO_qJoins_10 := rfl
theorem e_MO_qJoins_11 : blk MO_qJoins 11 = k_MO_qJoins_11 := rfl
theorem e_MO_qJoins_12 : blk MO_qJoins 12 = k_MO_qJoins_12 := rfl
theorem e_MO_qJoins_13 : blk MO_qJoins 13 = k_MO_qJoins_13 := rfl
theorem e_MO_qJoins_14 : blk MO_qJoins 14 = k_MO_qJoins_14 := rfl
theorem e_MO_qJoins_15 : blk MO_qJoins 15 = k_MO_qJoins_15 := rfl
theorem e_MO_qJoins_16 : blk MO_qJoins 16 = k_MO_qJoins_16 := rfl
theorem e_MO_qJoins_17 : blk MO_qJoins 17 = k_MO_qJoins_17 := rfl
theorem e_MO_qJoins_18 : blk MO_qJoins 18 = k_MO_qJoins_18 := rfl
theorem e_MO_qJoins_19 : blk MO_qJoins 19 = k_MO_qJoins_19 := rfl
theorem e_MO_qJoins_20 : blk MO_qJoins 20 = k_MO_qJoins_20 := rfl
theorem e_MO_qJoins_21 : blk MO_qJoins 21 = k_MO_qJoins_21 := rfl
theorem e_MO_qJoins_22 : blk MO_qJoins 22 = k_MO_qJoins_22 := rfl
theorem e_MO_qJoins_23 : blk MO_qJoins 23 = k_MO_qJoins_23 := rfl
theorem e_MO_qJoins_24 : blk MO_qJoins 24 = k_MO_qJoins_24 := rfl
theorem e_MO_qPartOf_0 : blk MO_qPartOf 0 = k_MO_qPartOf_0 := rfl
theorem e_MO_qPartOf_1 : blk MO_qPartOf 1 = k_MO_qPartOf_1 := rfl
theorem e_MO_qPartOf_2 : blk MO_qPartOf 2 = k_MO_qPartOf_2 := rfl
theorem e_MO_qPartOf_3 : blk MO_qPartOf 3 = k_MO_qPartOf_3 := rfl
theorem e_MO_qOf_0 : blk MO_qOf 0 = k_MO_qOf_0 := rfl
theorem e_MO_qOf_1 : blk MO_qOf 1 = k_MO_qOf_1 := rfl
theorem e_MO_qOf_2 : blk MO_qOf 2 = k_MO_qOf_2 := rfl
theorem e_MO_qOf_3 : blk MO_qOf 3 = k_MO_qOf_3 := rfl
theorem e_MO_qOf_4 : blk MO_qOf 4 = k_MO_qOf_4 := rfl
theorem e_MO_qOf_5 : blk MO_qOf 5 = k_MO_qOf_5 := rfl
theorem e_MO_qOf_6 : blk MO_qOf 6 = k_MO_qOf_6 := rfl
theorem e_MO_qTold_0 : blk MO_qTold 0 = k_MO_qTold_0 := rfl
theorem e_MO_qTold_1 : blk MO_qTold 1 = k_MO_qTold_1 := rfl
theorem e_MO_qTold_2 : blk MO_qTold 2 = k_MO_qTold_2 := rfl
theorem e_MO_qTold_3 : blk MO_qTold 3 = k_MO_qTold_3 := rfl
theorem e_MO_qTold_4 : blk MO_qTold 4 = k_MO_qTold_4 := rfl
theorem e_MO_qTold_5 : blk MO_qTold 5 = k_MO_qTold_5 := rfl
theorem e_MO_qTold_6 : blk MO_qTold 6 = k_MO_qTold_6 := rfl
theorem e_MO_qTold_7 : blk MO_qTold 7 = k_MO_qTold_7 := rfl
theorem e_MO_qTold_8 : blk MO_qTold 8 = k_MO_qTold_8 := rfl
theorem e_MO_qKind_0 : blk MO_qKind 0 = k_MO_qKind_0 := rfl
theorem e_MO_qKind_1 : blk MO_qKind 1 = k_MO_qKind_1 := rfl
theorem e_MO_qKind_2 : blk MO_qKind 2 = k_MO_qKind_2 := rfl
theorem e_MO_qKind_3 : blk MO_qKind 3 = k_MO_qKind_3 := rfl
theorem e_MO_qKind_4 : blk MO_qKind 4 = k_MO_qKind_4 := rfl
theorem e_MO_qKind_5 : blk MO_qKind 5 = k_MO_qKind_5 := rfl
theorem e_MO_qKind_6 : blk MO_qKind 6 = k_MO_qKind_6 := rfl
theorem e_MO_qKind_7 : blk MO_qKind 7 = k_MO_qKind_7 := rfl
theorem e_MO_qTakes_0 : blk MO_qTakes 0 = k_MO_qTakes_0 := rfl
theorem e_MO_qTakes_1 : blk MO_qTakes 1 = k_MO_qTakes_1 := rfl
theorem e_MO_qTakes_2 : blk MO_qTakes 2 = k_MO_qTakes_2 := rfl
theorem e_MO_qTakes_3 : blk MO_qTakes 3 = k_MO_qTakes_3 := rfl
theorem e_MO_qTakes_4 : blk MO_qTakes 4 = k_MO_qTakes_4 := rfl
theorem e_MO_qTakes_5 : blk MO_qTakes 5 = k_MO_qTakes_5 := rfl
theorem e_MO_qTakes_6 : blk MO_qTakes 6 = k_MO_qTakes_6 := rfl
theorem e_MO_qTakes_7 : blk MO_qTakes 7 = k_MO_qTakes_7 := rfl
theorem e_MO_qTakes_8 : blk MO_qTakes 8 = k_MO_qTakes_8 := rfl
theorem e_MO_qTakes_9 : blk MO_qTakes 9 = k_MO_qTakes_9 := rfl
theorem e_MO_qTakes_10 : blk MO_qTakes 10 = k_MO_qTakes_10 := rfl
theorem e_MO_ask_0 : blk MO_ask 0 = k_MO_ask_0 := rfl
theorem e_MO_ask_1 : blk MO_ask 1 = k_MO_ask_1 := rfl
theorem e_MO_ask_2 : blk MO_ask 2 = k_MO_ask_2 := rfl
theorem e_MO_ask_3 : blk MO_ask 3 = k_MO_ask_3 := rfl
theorem e_MO_ask_4 : blk MO_ask 4 = k_MO_ask_4 := rfl
theorem e_MO_ask_5 : blk MO_ask 5 = k_MO_ask_5 := rfl
theorem e_MO_ask_6 : blk MO_ask 6 = k_MO_ask_6 := rfl
theorem e_MO_ask_7 : blk MO_ask 7 = k_MO_ask_7 := rfl
theorem e_MO_ask_8 : blk MO_ask 8 = k_MO_ask_8 := rfl
theorem e_MO_ask_9 : blk MO_ask 9 = k_MO_ask_9 := rfl
theorem e_MO_ask_10 : blk MO_ask 10 = k_MO_ask_10 := rfl
theorem e_MO_qOffAt_0 : blk MO_qOffAt 0 = k_MO_qOffAt_0 := rfl
theorem e_MO_qIsGoodAt_0 : blk MO_qIsGoodAt 0 = k_MO_qIsGoodAt_0 := rfl
theorem e_MO_qIsGoodAt_1 : blk MO_qIsGoodAt 1 = k_MO_qIsGoodAt_1 := rfl
theorem e_MO_qIsGoodAt_2 : blk MO_qIsGoodAt 2 = k_MO_qIsGoodAt_2 := rfl
theorem e_MO_checked_0 : blk MO_checked 0 = k_MO_checked_0 := rfl
theorem e_MO_checked_1 : blk MO_checked 1 = k_MO_checked_1 := rfl
theorem e_MO_checked_2 : blk MO_checked 2 = k_MO_checked_2 := rfl
theorem e_MO_image_0 : blk MO_image 0 = k_MO_image_0 := rfl
theorem e_MO_image_1 : blk MO_image 1 = k_MO_image_1 := rfl
theorem e_MO_image_2 : blk MO_image 2 = k_MO_image_2 := rfl
theorem e_MO_image_3 : blk MO_image 3 = k_MO_image_3 := rfl
theorem e_MO_image_4 : blk MO_image 4 = k_MO_image_4 := rfl
theorem e_MO_octet_0 : blk MO_octet 0 = k_MO_octet_0 := rfl
theorem e_MO_octet_1 : blk MO_octet 1 = k_MO_octet_1 := rfl
theorem e_MO_octet_2 : blk MO_octet 2 = k_MO_octet_2 := rfl
theorem e_MO_isImage_0 : blk MO_isImage 0 = k_MO_isImage_0 := rfl
theorem e_MO_isImage_1 : blk MO_isImage 1 = k_MO_isImage_1 := rfl
theorem e_MO_isImage_2 : blk MO_isImage 2 = k_MO_isImage_2 := rfl
theorem e_MO_isImage_3 : blk MO_isImage 3 = k_MO_isImage_3 := rfl
theorem e_MO_isImage_4 : blk MO_isImage 4 = k_MO_isImage_4 := rfl
theorem e_MO_isImage_5 : blk MO_isImage 5 = k_MO_isImage_5 := rfl
theorem e_MO_isImage_6 : blk MO_isImage 6 = k_MO_isImage_6 := rfl
theorem e_MO_isImage_7 : blk MO_isImage 7 = k_MO_isImage_7 := rfl
theorem e_MO_isImage_8 : blk MO_isImage 8 = k_MO_isImage_8 := rfl
theorem e_MO_isImage_9 : blk MO_isImage 9 = k_MO_isImage_9 := rfl
theorem e_MO_isImage_10 : blk MO_isImage 10 = k_MO_isImage_10 := rfl
theorem e_MO_isImage_11 : blk MO_isImage 11 = k_MO_isImage_11 := rfl
theorem e_MO_isImage_12 : blk MO_isImage 12 = k_MO_isImage_12 := rfl
theorem e_MO_on_0 : blk MO_on 0 = k_MO_on_0 := rfl
theorem e_MO_on_1 : blk MO_on 1 = k_MO_on_1 := rfl
theorem e_MO_on_2 : blk MO_on 2 = k_MO_on_2 := rfl
theorem e_MO_on_3 : blk MO_on 3 = k_MO_on_3 := rfl
theorem e_MO_on_4 : blk MO_on 4 = k_MO_on_4 := rfl
theorem e_MO_on_5 : blk MO_on 5 = k_MO_on_5 := rfl
theorem e_MO_status_0 : blk MO_status 0 = k_MO_status_0 := rfl
theorem e_MO_status_1 : blk MO_status 1 = k_MO_status_1 := rfl
theorem e_MO_status_2 : blk MO_status 2 = k_MO_status_2 := rfl
theorem e_LW_law_0 : blk LW_law 0 = k_LW_law_0 := rfl
theorem e_LW_law_1 : blk LW_law 1 = k_LW_law_1 := rfl
theorem e_LW_law_2 : blk LW_law 2 = k_LW_law_2 := rfl
theorem e_LW_law_3 : blk LW_law 3 = k_LW_law_3 := rfl
theorem e_LW_law_4 : blk LW_law 4 = k_LW_law_4 := rfl
theorem e_LW_law_5 : blk LW_law 5 = k_LW_law_5 := rfl
theorem e_LW_law_6 : blk LW_law 6 = k_LW_law_6 := rfl
theorem e_LW_law_7 : blk LW_law 7 = k_LW_law_7 := rfl
theorem e_LW_law_8 : blk LW_law 8 = k_LW_law_8 := rfl
theorem e_LW_law_9 : blk LW_law 9 = k_LW_law_9 := rfl
theorem e_LW_law_10 : blk LW_law 10 = k_LW_law_10 := rfl
theorem e_LW_law_11 : blk LW_law 11 = k_LW_law_11 := rfl
theorem e_LW_law_12 : blk LW_law 12 = k_LW_law_12 := rfl
theorem e_LW_law_13 : blk LW_law 13 = k_LW_law_13 := rfl
theorem e_LW_law_14 : blk LW_law 14 = k_LW_law_14 := rfl
theorem e_LW_law_15 : blk LW_law 15 = k_LW_law_15 := rfl
theorem e_LW_law_16 : blk LW_law 16 = k_LW_law_16 := rfl
theorem e_LW_law_17 : blk LW_law 17 = k_LW_law_17 := rfl
theorem e_LW_law_18 : blk LW_law 18 = k_LW_law_18 := rfl
theorem e_LW_law_19 : blk LW_law 19 = k_LW_law_19 := rfl
theorem e_LW_law_20 : blk LW_law 20 = k_LW_law_20 := rfl
theorem e_LW_law_21 : blk LW_law 21 = k_LW_law_21 := rfl
theorem e_LW_law_22 : blk LW_law 22 = k_LW_law_22 := rfl
theorem e_LW_law_23 : blk LW_law 23 = k_LW_law_23 := rfl
theorem e_LW_law_24 : blk LW_law 24 = k_LW_law_24 := rfl
theorem e_LW_law_25 : blk LW_law 25 = k_LW_law_25 := rfl
theorem e_LW_law_26 : blk LW_law 26 = k_LW_law_26 := rfl
theorem e_LW_law_27 : blk LW_law 27 = k_LW_law_27 := rfl
theorem e_LW_law_28 : blk LW_law 28 = k_LW_law_28 := rfl
theorem e_LW_law_29 : blk LW_law 29 = k_LW_law_29 := rfl
theorem e_LW_law_30 : blk LW_law 30 = k_LW_law_30 := rfl
theorem e_LW_law_31 : blk LW_law 31 = k_LW_law_31 := rfl
theorem e_LW_law_32 : blk LW_law 32 = k_LW_law_32 := rfl
theorem e_LW_law_33 : blk LW_law 33 = k_LW_law_33 := rfl
theorem e_LW_law_34 : blk LW_law 34 = k_LW_law_34 := rfl
theorem e_LW_law_35 : blk LW_law 35 = k_LW_law_35 := rfl
theorem e_LW_law_36 : blk LW_law 36 = k_LW_law_36 := rfl
theorem e_LW_law_37 : blk LW_law 37 = k_LW_law_37 := rfl
theorem e_LW_law_38 : blk LW_law 38 = k_LW_law_38 := rfl
theorem e_LW_law_39 : blk LW_law 39 = k_LW_law_39 := rfl
theorem e_LW_law_40 : blk LW_law 40 = k_LW_law_40 := rfl
theorem e_LW_law_41 : blk LW_law 41 = k_LW_law_41 := rfl
theorem e_LW_law_42 : blk LW_law 42 = k_LW_law_42 := rfl
theorem e_LW_law_43 : blk LW_law 43 = k_LW_law_43 := rfl
theorem e_LW_law_44 : blk LW_law 44 = k_LW_law_44 := rfl
theorem e_LW_law_45 : blk LW_law 45 = k_LW_law_45 := rfl
theorem e_LW_law_46 : blk LW_law 46 = k_LW_law_46 := rfl
theorem e_LW_law_47 : blk LW_law 47 = k_LW_law_47 := rfl

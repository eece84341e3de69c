/-! FUNCTIONS FOR METHODS, 3: constants and fields, by wip/whole/funs.py -/
theorem jc_b_m20 : (Int8.ofInt (-20)).toInt32 = (-20 : Int32) := by decide
theorem jc_b_m16 : (Int8.ofInt (-16)).toInt32 = (-16 : Int32) := by decide
theorem jc_b_m15 : (Int8.ofInt (-15)).toInt32 = (-15 : Int32) := by decide
theorem jc_b_m14 : (Int8.ofInt (-14)).toInt32 = (-14 : Int32) := by decide
theorem jc_b_m13 : (Int8.ofInt (-13)).toInt32 = (-13 : Int32) := by decide
theorem jc_b_m12 : (Int8.ofInt (-12)).toInt32 = (-12 : Int32) := by decide
theorem jc_b_m11 : (Int8.ofInt (-11)).toInt32 = (-11 : Int32) := by decide
theorem jc_b_m2 : (Int8.ofInt (-2)).toInt32 = (-2 : Int32) := by decide
theorem jc_b_6 : (Int8.ofInt (6)).toInt32 = (6 : Int32) := by decide
theorem jc_b_7 : (Int8.ofInt (7)).toInt32 = (7 : Int32) := by decide
theorem jc_b_8 : (Int8.ofInt (8)).toInt32 = (8 : Int32) := by decide
theorem jc_b_9 : (Int8.ofInt (9)).toInt32 = (9 : Int32) := by decide
theorem jc_b_10 : (Int8.ofInt (10)).toInt32 = (10 : Int32) := by decide
theorem jc_b_11 : (Int8.ofInt (11)).toInt32 = (11 : Int32) := by decide
theorem jc_b_12 : (Int8.ofInt (12)).toInt32 = (12 : Int32) := by decide
theorem jc_b_13 : (Int8.ofInt (13)).toInt32 = (13 : Int32) := by decide
theorem jc_b_14 : (Int8.ofInt (14)).toInt32 = (14 : Int32) := by decide
theorem jc_b_15 : (Int8.ofInt (15)).toInt32 = (15 : Int32) := by decide
theorem jc_b_16 : (Int8.ofInt (16)).toInt32 = (16 : Int32) := by decide
theorem jc_b_17 : (Int8.ofInt (17)).toInt32 = (17 : Int32) := by decide
theorem jc_b_18 : (Int8.ofInt (18)).toInt32 = (18 : Int32) := by decide
theorem jc_b_19 : (Int8.ofInt (19)).toInt32 = (19 : Int32) := by decide
theorem jc_b_20 : (Int8.ofInt (20)).toInt32 = (20 : Int32) := by decide
theorem jc_b_21 : (Int8.ofInt (21)).toInt32 = (21 : Int32) := by decide
theorem jc_b_23 : (Int8.ofInt (23)).toInt32 = (23 : Int32) := by decide
theorem jc_b_24 : (Int8.ofInt (24)).toInt32 = (24 : Int32) := by decide
theorem jc_b_26 : (Int8.ofInt (26)).toInt32 = (26 : Int32) := by decide
theorem jc_b_27 : (Int8.ofInt (27)).toInt32 = (27 : Int32) := by decide
theorem jc_b_30 : (Int8.ofInt (30)).toInt32 = (30 : Int32) := by decide
theorem jc_b_31 : (Int8.ofInt (31)).toInt32 = (31 : Int32) := by decide
theorem jc_b_32 : (Int8.ofInt (32)).toInt32 = (32 : Int32) := by decide
theorem jc_b_40 : (Int8.ofInt (40)).toInt32 = (40 : Int32) := by decide
theorem jc_b_41 : (Int8.ofInt (41)).toInt32 = (41 : Int32) := by decide
theorem jc_b_42 : (Int8.ofInt (42)).toInt32 = (42 : Int32) := by decide
theorem jc_b_43 : (Int8.ofInt (43)).toInt32 = (43 : Int32) := by decide
theorem jc_b_44 : (Int8.ofInt (44)).toInt32 = (44 : Int32) := by decide
theorem jc_b_45 : (Int8.ofInt (45)).toInt32 = (45 : Int32) := by decide
theorem jc_b_47 : (Int8.ofInt (47)).toInt32 = (47 : Int32) := by decide
theorem jc_b_48 : (Int8.ofInt (48)).toInt32 = (48 : Int32) := by decide
theorem jc_b_54 : (Int8.ofInt (54)).toInt32 = (54 : Int32) := by decide
theorem jc_b_57 : (Int8.ofInt (57)).toInt32 = (57 : Int32) := by decide
theorem jc_b_59 : (Int8.ofInt (59)).toInt32 = (59 : Int32) := by decide
theorem jc_b_60 : (Int8.ofInt (60)).toInt32 = (60 : Int32) := by decide
theorem jc_b_63 : (Int8.ofInt (63)).toInt32 = (63 : Int32) := by decide
theorem jc_b_64 : (Int8.ofInt (64)).toInt32 = (64 : Int32) := by decide
theorem jc_b_80 : (Int8.ofInt (80)).toInt32 = (80 : Int32) := by decide
theorem jc_b_91 : (Int8.ofInt (91)).toInt32 = (91 : Int32) := by decide
theorem jc_b_93 : (Int8.ofInt (93)).toInt32 = (93 : Int32) := by decide
theorem jc_b_96 : (Int8.ofInt (96)).toInt32 = (96 : Int32) := by decide
theorem jc_b_97 : (Int8.ofInt (97)).toInt32 = (97 : Int32) := by decide
theorem jc_b_99 : (Int8.ofInt (99)).toInt32 = (99 : Int32) := by decide
theorem jc_b_100 : (Int8.ofInt (100)).toInt32 = (100 : Int32) := by decide
theorem jc_b_108 : (Int8.ofInt (108)).toInt32 = (108 : Int32) := by decide
theorem jc_b_117 : (Int8.ofInt (117)).toInt32 = (117 : Int32) := by decide
theorem jc_b_122 : (Int8.ofInt (122)).toInt32 = (122 : Int32) := by decide
theorem jc_b_123 : (Int8.ofInt (123)).toInt32 = (123 : Int32) := by decide
theorem jc_i_m8 : Int32.ofInt (-8) = (-8 : Int32) := by decide
theorem jc_i_m1 : Int32.ofInt (-1) = (-1 : Int32) := by decide
theorem jc_i_0 : Int32.ofInt (0) = (0 : Int32) := by decide
theorem jc_i_1 : Int32.ofInt (1) = (1 : Int32) := by decide
theorem jc_i_2 : Int32.ofInt (2) = (2 : Int32) := by decide
theorem jc_i_3 : Int32.ofInt (3) = (3 : Int32) := by decide
theorem jc_i_4 : Int32.ofInt (4) = (4 : Int32) := by decide
theorem jc_i_5 : Int32.ofInt (5) = (5 : Int32) := by decide
theorem jc_i_6 : Int32.ofInt (6) = (6 : Int32) := by decide
theorem jc_s_133 : (Int16.ofInt (133)).toInt32 = (133 : Int32) := by decide
theorem jc_s_134 : (Int16.ofInt (134)).toInt32 = (134 : Int32) := by decide
theorem jc_s_150 : (Int16.ofInt (150)).toInt32 = (150 : Int32) := by decide
theorem jc_s_160 : (Int16.ofInt (160)).toInt32 = (160 : Int32) := by decide
theorem jc_s_200 : (Int16.ofInt (200)).toInt32 = (200 : Int32) := by decide
theorem jc_s_216 : (Int16.ofInt (216)).toInt32 = (216 : Int32) := by decide
theorem jc_s_255 : (Int16.ofInt (255)).toInt32 = (255 : Int32) := by decide
theorem jc_s_288 : (Int16.ofInt (288)).toInt32 = (288 : Int32) := by decide
theorem jc_s_450 : (Int16.ofInt (450)).toInt32 = (450 : Int32) := by decide
theorem jc_s_511 : (Int16.ofInt (511)).toInt32 = (511 : Int32) := by decide
theorem jc_s_600 : (Int16.ofInt (600)).toInt32 = (600 : Int32) := by decide
theorem jc_s_999 : (Int16.ofInt (999)).toInt32 = (999 : Int32) := by decide
theorem jc_s_1000 : (Int16.ofInt (1000)).toInt32 = (1000 : Int32) := by decide
theorem jc_s_2279 : (Int16.ofInt (2279)).toInt32 = (2279 : Int32) := by decide
theorem jc_s_12345 : (Int16.ofInt (12345)).toInt32 = (12345 : Int32) := by decide
theorem jc_s_32767 : (Int16.ofInt (32767)).toInt32 = (32767 : Int32) := by decide
theorem jc_t_m15 : ((-15 : Int32)).toInt = (-15 : Int) := by decide
theorem jc_t_m14 : ((-14 : Int32)).toInt = (-14 : Int) := by decide
theorem jc_t_m13 : ((-13 : Int32)).toInt = (-13 : Int) := by decide
theorem jc_t_m12 : ((-12 : Int32)).toInt = (-12 : Int) := by decide
theorem jc_t_m11 : ((-11 : Int32)).toInt = (-11 : Int) := by decide
theorem jc_t_0 : ((0 : Int32)).toInt = (0 : Int) := by decide
theorem jc_t_1 : ((1 : Int32)).toInt = (1 : Int) := by decide
theorem jc_t_2 : ((2 : Int32)).toInt = (2 : Int) := by decide
theorem jc_t_3 : ((3 : Int32)).toInt = (3 : Int) := by decide
theorem jc_t_4 : ((4 : Int32)).toInt = (4 : Int) := by decide
theorem jc_t_5 : ((5 : Int32)).toInt = (5 : Int) := by decide
theorem jc_t_6 : ((6 : Int32)).toInt = (6 : Int) := by decide
theorem jc_t_7 : ((7 : Int32)).toInt = (7 : Int) := by decide
theorem jc_t_8 : ((8 : Int32)).toInt = (8 : Int) := by decide
theorem jc_t_9 : ((9 : Int32)).toInt = (9 : Int) := by decide
theorem jc_t_10 : ((10 : Int32)).toInt = (10 : Int) := by decide
theorem jc_t_11 : ((11 : Int32)).toInt = (11 : Int) := by decide
theorem jc_t_12 : ((12 : Int32)).toInt = (12 : Int) := by decide
theorem jc_t_13 : ((13 : Int32)).toInt = (13 : Int) := by decide
theorem jc_t_14 : ((14 : Int32)).toInt = (14 : Int) := by decide
theorem jc_t_15 : ((15 : Int32)).toInt = (15 : Int) := by decide
theorem jc_t_16 : ((16 : Int32)).toInt = (16 : Int) := by decide
theorem jc_t_17 : ((17 : Int32)).toInt = (17 : Int) := by decide
theorem jc_t_18 : ((18 : Int32)).toInt = (18 : Int) := by decide
theorem jc_t_19 : ((19 : Int32)).toInt = (19 : Int) := by decide
theorem jc_t_20 : ((20 : Int32)).toInt = (20 : Int) := by decide
theorem jc_t_21 : ((21 : Int32)).toInt = (21 : Int) := by decide
theorem jc_t_22 : ((22 : Int32)).toInt = (22 : Int) := by decide
theorem jc_t_23 : ((23 : Int32)).toInt = (23 : Int) := by decide
theorem jc_t_24 : ((24 : Int32)).toInt = (24 : Int) := by decide
theorem jc_t_25 : ((25 : Int32)).toInt = (25 : Int) := by decide
theorem jc_t_26 : ((26 : Int32)).toInt = (26 : Int) := by decide
theorem jc_t_27 : ((27 : Int32)).toInt = (27 : Int) := by decide
theorem jc_t_28 : ((28 : Int32)).toInt = (28 : Int) := by decide
theorem jc_t_29 : ((29 : Int32)).toInt = (29 : Int) := by decide
theorem jc_t_30 : ((30 : Int32)).toInt = (30 : Int) := by decide
theorem jc_t_31 : ((31 : Int32)).toInt = (31 : Int) := by decide
theorem jc_t_32 : ((32 : Int32)).toInt = (32 : Int) := by decide
theorem jc_t_33 : ((33 : Int32)).toInt = (33 : Int) := by decide
theorem jc_t_34 : ((34 : Int32)).toInt = (34 : Int) := by decide
theorem jc_t_35 : ((35 : Int32)).toInt = (35 : Int) := by decide
theorem jc_t_36 : ((36 : Int32)).toInt = (36 : Int) := by decide
theorem jc_t_37 : ((37 : Int32)).toInt = (37 : Int) := by decide
theorem jc_t_38 : ((38 : Int32)).toInt = (38 : Int) := by decide
set_option maxRecDepth 100000 in
theorem jg_0_9_2 : jc_f 0 9 0 0 2 = true := by decide +kernel
set_option maxRecDepth 100000 in
theorem jg_0_9_6 : jc_f 0 9 0 0 6 = true := by decide +kernel
set_option maxRecDepth 100000 in
theorem jg_0_15_2 : jc_f 0 15 0 1 2 = true := by decide +kernel
set_option maxRecDepth 100000 in
theorem jg_0_15_6 : jc_f 0 15 0 1 6 = true := by decide +kernel
set_option maxRecDepth 100000 in
theorem jg_0_21_1 : jc_f 0 21 0 2 1 = true := by decide +kernel
set_option maxRecDepth 100000 in
theorem jg_0_21_3 : jc_f 0 21 0 2 3 = true := by decide +kernel
set_option maxRecDepth 100000 in
theorem jg_0_39_1 : jc_f 0 39 8 0 1 = true := by decide +kernel
set_option maxRecDepth 100000 in
theorem jg_0_56_1 : jc_f 0 56 7 2 1 = true := by decide +kernel
set_option maxRecDepth 100000 in
theorem jg_0_65_2 : jc_f 0 65 6 1 2 = true := by decide +kernel
set_option maxRecDepth 100000 in
theorem jg_0_69_1 : jc_f 0 69 8 1 1 = true := by decide +kernel
set_option maxRecDepth 100000 in
theorem jg_1_7_2 : jc_f 1 7 1 0 2 = true := by decide +kernel
set_option maxRecDepth 100000 in
theorem jg_1_7_6 : jc_f 1 7 1 0 6 = true := by decide +kernel
set_option maxRecDepth 100000 in
theorem jg_1_13_1 : jc_f 1 13 1 1 1 = true := by decide +kernel
set_option maxRecDepth 100000 in
theorem jg_1_13_3 : jc_f 1 13 1 1 3 = true := by decide +kernel
set_option maxRecDepth 100000 in
theorem jg_1_17_1 : jc_f 1 17 1 2 1 = true := by decide +kernel
set_option maxRecDepth 100000 in
theorem jg_1_17_3 : jc_f 1 17 1 2 3 = true := by decide +kernel
set_option maxRecDepth 100000 in
theorem jg_1_20_1 : jc_f 1 20 1 3 1 = true := by decide +kernel
set_option maxRecDepth 100000 in
theorem jg_1_20_3 : jc_f 1 20 1 3 3 = true := by decide +kernel
set_option maxRecDepth 100000 in
theorem jg_1_44_2 : jc_f 1 44 6 1 2 = true := by decide +kernel
set_option maxRecDepth 100000 in
theorem jg_1_48_1 : jc_f 1 48 8 1 1 = true := by decide +kernel
set_option maxRecDepth 100000 in
theorem jg_1_53_1 : jc_f 1 53 8 0 1 = true := by decide +kernel
set_option maxRecDepth 100000 in
theorem jg_2_13_2 : jc_f 2 13 2 0 2 = true := by decide +kernel
set_option maxRecDepth 100000 in
theorem jg_2_13_6 : jc_f 2 13 2 0 6 = true := by decide +kernel
set_option maxRecDepth 100000 in
theorem jg_2_18_1 : jc_f 2 18 2 1 1 = true := by decide +kernel
set_option maxRecDepth 100000 in
theorem jg_2_18_3 : jc_f 2 18 2 1 3 = true := by decide +kernel
set_option maxRecDepth 100000 in
theorem jg_3_13_2 : jc_f 3 13 3 1 2 = true := by decide +kernel
set_option maxRecDepth 100000 in
theorem jg_3_13_6 : jc_f 3 13 3 1 6 = true := by decide +kernel
set_option maxRecDepth 100000 in
theorem jg_3_18_2 : jc_f 3 18 3 0 2 = true := by decide +kernel
set_option maxRecDepth 100000 in
theorem jg_3_18_6 : jc_f 3 18 3 0 6 = true := by decide +kernel
set_option maxRecDepth 100000 in
theorem jg_3_22_1 : jc_f 3 22 3 2 1 = true := by decide +kernel
set_option maxRecDepth 100000 in
theorem jg_3_22_3 : jc_f 3 22 3 2 3 = true := by decide +kernel
set_option maxRecDepth 100000 in
theorem jg_3_26_1 : jc_f 3 26 3 3 1 = true := by decide +kernel
set_option maxRecDepth 100000 in
theorem jg_3_26_3 : jc_f 3 26 3 3 3 = true := by decide +kernel
set_option maxRecDepth 100000 in
theorem jg_3_35_1 : jc_f 3 35 3 4 1 = true := by decide +kernel
set_option maxRecDepth 100000 in
theorem jg_3_35_3 : jc_f 3 35 3 4 3 = true := by decide +kernel
set_option maxRecDepth 100000 in
theorem jg_3_38_1 : jc_f 3 38 3 5 1 = true := by decide +kernel
set_option maxRecDepth 100000 in
theorem jg_3_38_3 : jc_f 3 38 3 5 3 = true := by decide +kernel
set_option maxRecDepth 100000 in
theorem jg_3_41_1 : jc_f 3 41 3 6 1 = true := by decide +kernel
set_option maxRecDepth 100000 in
theorem jg_3_41_3 : jc_f 3 41 3 6 3 = true := by decide +kernel
set_option maxRecDepth 100000 in
theorem jg_3_44_3 : jc_f 3 44 3 7 3 = true := by decide +kernel
set_option maxRecDepth 100000 in
theorem jg_4_9_2 : jc_f 4 9 4 0 2 = true := by decide +kernel
set_option maxRecDepth 100000 in
theorem jg_4_9_6 : jc_f 4 9 4 0 6 = true := by decide +kernel
set_option maxRecDepth 100000 in
theorem jg_4_15_2 : jc_f 4 15 4 1 2 = true := by decide +kernel
set_option maxRecDepth 100000 in
theorem jg_4_15_6 : jc_f 4 15 4 1 6 = true := by decide +kernel
set_option maxRecDepth 100000 in
theorem jg_4_21_1 : jc_f 4 21 4 2 1 = true := by decide +kernel
set_option maxRecDepth 100000 in
theorem jg_4_21_3 : jc_f 4 21 4 2 3 = true := by decide +kernel
set_option maxRecDepth 100000 in
theorem jg_5_11_2 : jc_f 5 11 5 0 2 = true := by decide +kernel
set_option maxRecDepth 100000 in
theorem jg_5_11_6 : jc_f 5 11 5 0 6 = true := by decide +kernel
set_option maxRecDepth 100000 in
theorem jg_5_15_1 : jc_f 5 15 5 1 1 = true := by decide +kernel
set_option maxRecDepth 100000 in
theorem jg_5_15_3 : jc_f 5 15 5 1 3 = true := by decide +kernel
set_option maxRecDepth 100000 in
theorem jg_5_49_1 : jc_f 5 49 8 0 1 = true := by decide +kernel
set_option maxRecDepth 100000 in
theorem jg_5_58_1 : jc_f 5 58 8 1 1 = true := by decide +kernel
set_option maxRecDepth 100000 in
theorem jg_5_77_1 : jc_f 5 77 5 2 1 = true := by decide +kernel
set_option maxRecDepth 100000 in
theorem jg_5_77_3 : jc_f 5 77 5 2 3 = true := by decide +kernel
set_option maxRecDepth 100000 in
theorem jg_5_80_1 : jc_f 5 80 5 3 1 = true := by decide +kernel
set_option maxRecDepth 100000 in
theorem jg_5_80_3 : jc_f 5 80 5 3 3 = true := by decide +kernel
set_option maxRecDepth 100000 in
theorem jg_5_83_1 : jc_f 5 83 5 4 1 = true := by decide +kernel
set_option maxRecDepth 100000 in
theorem jg_5_83_3 : jc_f 5 83 5 4 3 = true := by decide +kernel
set_option maxRecDepth 100000 in
theorem jg_6_11_2 : jc_f 6 11 6 0 2 = true := by decide +kernel
set_option maxRecDepth 100000 in
theorem jg_6_11_6 : jc_f 6 11 6 0 6 = true := by decide +kernel
set_option maxRecDepth 100000 in
theorem jg_6_15_2 : jc_f 6 15 6 7 2 = true := by decide +kernel
set_option maxRecDepth 100000 in
theorem jg_6_15_6 : jc_f 6 15 6 7 6 = true := by decide +kernel
set_option maxRecDepth 100000 in
theorem jg_6_18_2 : jc_f 6 18 6 8 2 = true := by decide +kernel
set_option maxRecDepth 100000 in
theorem jg_6_18_6 : jc_f 6 18 6 8 6 = true := by decide +kernel
set_option maxRecDepth 100000 in
theorem jg_6_23_2 : jc_f 6 23 6 9 2 = true := by decide +kernel
set_option maxRecDepth 100000 in
theorem jg_6_23_6 : jc_f 6 23 6 9 6 = true := by decide +kernel
set_option maxRecDepth 100000 in
theorem jg_6_26_2 : jc_f 6 26 6 1 2 = true := by decide +kernel
set_option maxRecDepth 100000 in
theorem jg_6_26_5 : jc_f 6 26 6 1 5 = true := by decide +kernel
set_option maxRecDepth 100000 in
theorem jg_6_30_2 : jc_f 6 30 6 2 2 = true := by decide +kernel
set_option maxRecDepth 100000 in
theorem jg_6_30_5 : jc_f 6 30 6 2 5 = true := by decide +kernel
set_option maxRecDepth 100000 in
theorem jg_6_34_1 : jc_f 6 34 8 1 1 = true := by decide +kernel
set_option maxRecDepth 100000 in
theorem jg_6_40_2 : jc_f 6 40 8 10 2 = true := by decide +kernel
set_option maxRecDepth 100000 in
theorem jg_6_43_1 : jc_f 6 43 6 3 1 = true := by decide +kernel
set_option maxRecDepth 100000 in
theorem jg_6_43_4 : jc_f 6 43 6 3 4 = true := by decide +kernel
set_option maxRecDepth 100000 in
theorem jg_6_47_1 : jc_f 6 47 6 4 1 = true := by decide +kernel
set_option maxRecDepth 100000 in
theorem jg_6_47_4 : jc_f 6 47 6 4 4 = true := by decide +kernel
set_option maxRecDepth 100000 in
theorem jg_6_59_1 : jc_f 6 59 6 5 1 = true := by decide +kernel
set_option maxRecDepth 100000 in
theorem jg_6_59_3 : jc_f 6 59 6 5 3 = true := by decide +kernel
set_option maxRecDepth 100000 in
theorem jg_6_62_1 : jc_f 6 62 6 6 1 = true := by decide +kernel
set_option maxRecDepth 100000 in
theorem jg_6_62_3 : jc_f 6 62 6 6 3 = true := by decide +kernel
set_option maxRecDepth 100000 in
theorem jg_6_65_2 : jc_f 6 65 8 6 2 = true := by decide +kernel
set_option maxRecDepth 100000 in
theorem jg_6_72_1 : jc_f 6 72 8 0 1 = true := by decide +kernel
set_option maxRecDepth 100000 in
theorem jg_6_75_2 : jc_f 6 75 8 7 2 = true := by decide +kernel
set_option maxRecDepth 100000 in
theorem jg_6_99_2 : jc_f 6 99 8 9 2 = true := by decide +kernel
set_option maxRecDepth 100000 in
theorem jg_6_119_2 : jc_f 6 119 8 8 2 = true := by decide +kernel
set_option maxRecDepth 100000 in
theorem jg_6_122_1 : jc_f 6 122 8 4 1 = true := by decide +kernel
set_option maxRecDepth 100000 in
theorem jg_6_125_2 : jc_f 6 125 8 15 2 = true := by decide +kernel
set_option maxRecDepth 100000 in
theorem jg_6_128_2 : jc_f 6 128 8 14 2 = true := by decide +kernel
set_option maxRecDepth 100000 in
theorem jg_6_141_2 : jc_f 6 141 8 16 2 = true := by decide +kernel
set_option maxRecDepth 100000 in
theorem jg_7_9_2 : jc_f 7 9 7 0 2 = true := by decide +kernel
set_option maxRecDepth 100000 in
theorem jg_7_9_6 : jc_f 7 9 7 0 6 = true := by decide +kernel
set_option maxRecDepth 100000 in
theorem jg_7_15_3 : jc_f 7 15 7 3 3 = true := by decide +kernel
set_option maxRecDepth 100000 in
theorem jg_7_19_1 : jc_f 7 19 7 1 1 = true := by decide +kernel
set_option maxRecDepth 100000 in
theorem jg_7_19_3 : jc_f 7 19 7 1 3 = true := by decide +kernel
set_option maxRecDepth 100000 in
theorem jg_7_28_1 : jc_f 7 28 7 4 1 = true := by decide +kernel
set_option maxRecDepth 100000 in
theorem jg_7_28_3 : jc_f 7 28 7 4 3 = true := by decide +kernel
set_option maxRecDepth 100000 in
theorem jg_7_31_1 : jc_f 7 31 7 5 1 = true := by decide +kernel
set_option maxRecDepth 100000 in
theorem jg_7_31_3 : jc_f 7 31 7 5 3 = true := by decide +kernel
set_option maxRecDepth 100000 in
theorem jg_7_34_1 : jc_f 7 34 7 6 1 = true := by decide +kernel
set_option maxRecDepth 100000 in
theorem jg_7_34_3 : jc_f 7 34 7 6 3 = true := by decide +kernel
set_option maxRecDepth 100000 in
theorem jg_7_37_1 : jc_f 7 37 7 2 1 = true := by decide +kernel
set_option maxRecDepth 100000 in
theorem jg_7_37_3 : jc_f 7 37 7 2 3 = true := by decide +kernel
set_option maxRecDepth 100000 in
theorem jg_8_9_2 : jc_f 8 9 8 6 2 = true := by decide +kernel
set_option maxRecDepth 100000 in
theorem jg_8_9_6 : jc_f 8 9 8 6 6 = true := by decide +kernel
set_option maxRecDepth 100000 in
theorem jg_8_15_2 : jc_f 8 15 8 7 2 = true := by decide +kernel
set_option maxRecDepth 100000 in
theorem jg_8_15_6 : jc_f 8 15 8 7 6 = true := by decide +kernel
set_option maxRecDepth 100000 in
theorem jg_8_18_2 : jc_f 8 18 8 8 2 = true := by decide +kernel
set_option maxRecDepth 100000 in
theorem jg_8_18_6 : jc_f 8 18 8 8 6 = true := by decide +kernel
set_option maxRecDepth 100000 in
theorem jg_8_21_2 : jc_f 8 21 8 9 2 = true := by decide +kernel
set_option maxRecDepth 100000 in
theorem jg_8_21_6 : jc_f 8 21 8 9 6 = true := by decide +kernel
set_option maxRecDepth 100000 in
theorem jg_8_24_2 : jc_f 8 24 8 10 2 = true := by decide +kernel
set_option maxRecDepth 100000 in
theorem jg_8_24_6 : jc_f 8 24 8 10 6 = true := by decide +kernel
set_option maxRecDepth 100000 in
theorem jg_8_27_2 : jc_f 8 27 8 11 2 = true := by decide +kernel
set_option maxRecDepth 100000 in
theorem jg_8_27_6 : jc_f 8 27 8 11 6 = true := by decide +kernel
set_option maxRecDepth 100000 in
theorem jg_8_30_2 : jc_f 8 30 8 12 2 = true := by decide +kernel
set_option maxRecDepth 100000 in
theorem jg_8_30_6 : jc_f 8 30 8 12 6 = true := by decide +kernel
set_option maxRecDepth 100000 in
theorem jg_8_33_2 : jc_f 8 33 8 13 2 = true := by decide +kernel
set_option maxRecDepth 100000 in
theorem jg_8_33_6 : jc_f 8 33 8 13 6 = true := by decide +kernel
set_option maxRecDepth 100000 in
theorem jg_8_36_2 : jc_f 8 36 8 14 2 = true := by decide +kernel
set_option maxRecDepth 100000 in
theorem jg_8_36_6 : jc_f 8 36 8 14 6 = true := by decide +kernel
set_option maxRecDepth 100000 in
theorem jg_8_39_2 : jc_f 8 39 8 15 2 = true := by decide +kernel
set_option maxRecDepth 100000 in
theorem jg_8_39_6 : jc_f 8 39 8 15 6 = true := by decide +kernel
set_option maxRecDepth 100000 in
theorem jg_8_42_2 : jc_f 8 42 8 16 2 = true := by decide +kernel
set_option maxRecDepth 100000 in
theorem jg_8_42_6 : jc_f 8 42 8 16 6 = true := by decide +kernel
set_option maxRecDepth 100000 in
theorem jg_8_45_2 : jc_f 8 45 8 17 2 = true := by decide +kernel
set_option maxRecDepth 100000 in
theorem jg_8_45_6 : jc_f 8 45 8 17 6 = true := by decide +kernel
set_option maxRecDepth 100000 in
theorem jg_8_48_1 : jc_f 8 48 8 0 1 = true := by decide +kernel
set_option maxRecDepth 100000 in
theorem jg_8_48_3 : jc_f 8 48 8 0 3 = true := by decide +kernel
set_option maxRecDepth 100000 in
theorem jg_8_52_1 : jc_f 8 52 8 1 1 = true := by decide +kernel
set_option maxRecDepth 100000 in
theorem jg_8_52_3 : jc_f 8 52 8 1 3 = true := by decide +kernel
set_option maxRecDepth 100000 in
theorem jg_8_55_1 : jc_f 8 55 8 2 1 = true := by decide +kernel
set_option maxRecDepth 100000 in
theorem jg_8_55_3 : jc_f 8 55 8 2 3 = true := by decide +kernel
set_option maxRecDepth 100000 in
theorem jg_8_58_1 : jc_f 8 58 8 3 1 = true := by decide +kernel
set_option maxRecDepth 100000 in
theorem jg_8_58_3 : jc_f 8 58 8 3 3 = true := by decide +kernel
set_option maxRecDepth 100000 in
theorem jg_8_61_1 : jc_f 8 61 8 4 1 = true := by decide +kernel
set_option maxRecDepth 100000 in
theorem jg_8_61_3 : jc_f 8 61 8 4 3 = true := by decide +kernel
set_option maxRecDepth 100000 in
theorem jg_8_64_1 : jc_f 8 64 8 5 1 = true := by decide +kernel
set_option maxRecDepth 100000 in
theorem jg_8_64_3 : jc_f 8 64 8 5 3 = true := by decide +kernel
set_option maxRecDepth 100000 in
theorem jg_9_9_2 : jc_f 9 9 9 1 2 = true := by decide +kernel
set_option maxRecDepth 100000 in
theorem jg_9_9_6 : jc_f 9 9 9 1 6 = true := by decide +kernel
set_option maxRecDepth 100000 in
theorem jg_9_15_2 : jc_f 9 15 9 2 2 = true := by decide +kernel
set_option maxRecDepth 100000 in
theorem jg_9_15_6 : jc_f 9 15 9 2 6 = true := by decide +kernel
set_option maxRecDepth 100000 in
theorem jg_9_19_2 : jc_f 9 19 9 0 2 = true := by decide +kernel
set_option maxRecDepth 100000 in
theorem jg_9_19_6 : jc_f 9 19 9 0 6 = true := by decide +kernel
set_option maxRecDepth 100000 in
theorem jg_9_23_2 : jc_f 9 23 6 1 2 = true := by decide +kernel
set_option maxRecDepth 100000 in
theorem jg_9_29_1 : jc_f 9 29 8 0 1 = true := by decide +kernel
set_option maxRecDepth 100000 in
theorem jg_9_35_1 : jc_f 9 35 9 3 1 = true := by decide +kernel
set_option maxRecDepth 100000 in
theorem jg_9_35_3 : jc_f 9 35 9 3 3 = true := by decide +kernel
set_option maxRecDepth 100000 in
theorem jg_9_42_1 : jc_f 9 42 9 4 1 = true := by decide +kernel
set_option maxRecDepth 100000 in
theorem jg_9_42_3 : jc_f 9 42 9 4 3 = true := by decide +kernel
set_option maxRecDepth 100000 in
theorem jg_9_52_1 : jc_f 9 52 9 5 1 = true := by decide +kernel
set_option maxRecDepth 100000 in
theorem jg_9_52_3 : jc_f 9 52 9 5 3 = true := by decide +kernel
set_option maxRecDepth 100000 in
theorem jg_9_55_3 : jc_f 9 55 9 6 3 = true := by decide +kernel
set_option maxRecDepth 100000 in
theorem jg_9_58_3 : jc_f 9 58 9 7 3 = true := by decide +kernel
set_option maxRecDepth 100000 in
theorem jg_10_10_2 : jc_f 10 10 10 0 2 = true := by decide +kernel
set_option maxRecDepth 100000 in
theorem jg_10_10_6 : jc_f 10 10 10 0 6 = true := by decide +kernel
set_option maxRecDepth 100000 in
theorem jg_10_19_2 : jc_f 10 19 10 1 2 = true := by decide +kernel
set_option maxRecDepth 100000 in
theorem jg_10_19_6 : jc_f 10 19 10 1 6 = true := by decide +kernel
set_option maxRecDepth 100000 in
theorem jg_10_34_2 : jc_f 10 34 10 2 2 = true := by decide +kernel
set_option maxRecDepth 100000 in
theorem jg_10_34_6 : jc_f 10 34 10 2 6 = true := by decide +kernel
set_option maxRecDepth 100000 in
theorem jg_10_38_2 : jc_f 10 38 10 3 2 = true := by decide +kernel
set_option maxRecDepth 100000 in
theorem jg_10_38_6 : jc_f 10 38 10 3 6 = true := by decide +kernel
set_option maxRecDepth 100000 in
theorem jg_10_46_2 : jc_f 10 46 10 4 2 = true := by decide +kernel
set_option maxRecDepth 100000 in
theorem jg_10_46_6 : jc_f 10 46 10 4 6 = true := by decide +kernel
set_option maxRecDepth 100000 in
theorem jg_10_53_2 : jc_f 10 53 10 5 2 = true := by decide +kernel
set_option maxRecDepth 100000 in
theorem jg_10_53_6 : jc_f 10 53 10 5 6 = true := by decide +kernel
set_option maxRecDepth 100000 in
theorem jg_10_60_2 : jc_f 10 60 10 6 2 = true := by decide +kernel
set_option maxRecDepth 100000 in
theorem jg_10_60_6 : jc_f 10 60 10 6 6 = true := by decide +kernel
set_option maxRecDepth 100000 in
theorem jg_10_67_2 : jc_f 10 67 10 7 2 = true := by decide +kernel
set_option maxRecDepth 100000 in
theorem jg_10_67_6 : jc_f 10 67 10 7 6 = true := by decide +kernel
set_option maxRecDepth 100000 in
theorem jg_10_71_2 : jc_f 10 71 10 8 2 = true := by decide +kernel
set_option maxRecDepth 100000 in
theorem jg_10_71_6 : jc_f 10 71 10 8 6 = true := by decide +kernel
set_option maxRecDepth 100000 in
theorem jg_10_77_2 : jc_f 10 77 10 9 2 = true := by decide +kernel
set_option maxRecDepth 100000 in
theorem jg_10_77_6 : jc_f 10 77 10 9 6 = true := by decide +kernel
set_option maxRecDepth 100000 in
theorem jg_10_80_2 : jc_f 10 80 10 10 2 = true := by decide +kernel
set_option maxRecDepth 100000 in
theorem jg_10_80_5 : jc_f 10 80 10 10 5 = true := by decide +kernel
set_option maxRecDepth 100000 in
theorem jg_10_84_2 : jc_f 10 84 10 11 2 = true := by decide +kernel
set_option maxRecDepth 100000 in
theorem jg_10_84_5 : jc_f 10 84 10 11 5 = true := by decide +kernel
set_option maxRecDepth 100000 in
theorem jg_10_91_2 : jc_f 10 91 10 12 2 = true := by decide +kernel
set_option maxRecDepth 100000 in
theorem jg_10_91_5 : jc_f 10 91 10 12 5 = true := by decide +kernel
set_option maxRecDepth 100000 in
theorem jg_10_95_2 : jc_f 10 95 10 13 2 = true := by decide +kernel
set_option maxRecDepth 100000 in
theorem jg_10_95_5 : jc_f 10 95 10 13 5 = true := by decide +kernel
set_option maxRecDepth 100000 in
theorem jg_10_98_1 : jc_f 10 98 7 1 1 = true := by decide +kernel
set_option maxRecDepth 100000 in
theorem jg_10_117_1 : jc_f 10 117 7 2 1 = true := by decide +kernel
set_option maxRecDepth 100000 in
theorem jg_10_120_2 : jc_f 10 120 6 1 2 = true := by decide +kernel
set_option maxRecDepth 100000 in
theorem jg_10_120_5 : jc_f 10 120 6 1 5 = true := by decide +kernel
set_option maxRecDepth 100000 in
theorem jg_10_123_2 : jc_f 10 123 6 2 2 = true := by decide +kernel
set_option maxRecDepth 100000 in
theorem jg_10_123_5 : jc_f 10 123 6 2 5 = true := by decide +kernel
set_option maxRecDepth 100000 in
theorem jg_10_135_1 : jc_f 10 135 2 1 1 = true := by decide +kernel
set_option maxRecDepth 100000 in
theorem jg_10_135_3 : jc_f 10 135 2 1 3 = true := by decide +kernel
set_option maxRecDepth 100000 in
theorem jg_10_138_1 : jc_f 10 138 10 14 1 = true := by decide +kernel
set_option maxRecDepth 100000 in
theorem jg_10_138_3 : jc_f 10 138 10 14 3 = true := by decide +kernel
set_option maxRecDepth 100000 in
theorem jg_10_141_1 : jc_f 10 141 10 15 1 = true := by decide +kernel
set_option maxRecDepth 100000 in
theorem jg_10_141_3 : jc_f 10 141 10 15 3 = true := by decide +kernel
set_option maxRecDepth 100000 in
theorem jg_10_144_1 : jc_f 10 144 8 0 1 = true := by decide +kernel
set_option maxRecDepth 100000 in
theorem jg_10_157_1 : jc_f 10 157 5 4 1 = true := by decide +kernel
set_option maxRecDepth 100000 in
theorem jg_10_160_1 : jc_f 10 160 5 3 1 = true := by decide +kernel
set_option maxRecDepth 100000 in
theorem jg_10_164_1 : jc_f 10 164 0 2 1 = true := by decide +kernel
set_option maxRecDepth 100000 in
theorem jg_10_165_1 : jc_f 10 165 7 3 1 = true := by decide +kernel
set_option maxRecDepth 100000 in
theorem jg_10_175_1 : jc_f 10 175 8 1 1 = true := by decide +kernel
set_option maxRecDepth 100000 in
theorem jg_10_178_1 : jc_f 10 178 8 4 1 = true := by decide +kernel
set_option maxRecDepth 100000 in
theorem jg_10_181_1 : jc_f 10 181 8 5 1 = true := by decide +kernel
set_option maxRecDepth 100000 in
theorem jg_10_203_2 : jc_f 10 203 8 6 2 = true := by decide +kernel
set_option maxRecDepth 100000 in
theorem jg_10_227_2 : jc_f 10 227 8 7 2 = true := by decide +kernel
set_option maxRecDepth 100000 in
theorem jg_10_230_2 : jc_f 10 230 8 8 2 = true := by decide +kernel
set_option maxRecDepth 100000 in
theorem jg_10_233_2 : jc_f 10 233 8 9 2 = true := by decide +kernel
set_option maxRecDepth 100000 in
theorem jg_10_245_2 : jc_f 10 245 8 14 2 = true := by decide +kernel
set_option maxRecDepth 100000 in
theorem jg_10_248_2 : jc_f 10 248 8 15 2 = true := by decide +kernel
set_option maxRecDepth 100000 in
theorem jg_10_251_2 : jc_f 10 251 8 16 2 = true := by decide +kernel
set_option maxRecDepth 100000 in
theorem jg_10_278_1 : jc_f 10 278 3 6 1 = true := by decide +kernel
set_option maxRecDepth 100000 in
theorem jg_10_281_1 : jc_f 10 281 3 7 1 = true := by decide +kernel
set_option maxRecDepth 100000 in
theorem jg_10_290_1 : jc_f 10 290 9 5 1 = true := by decide +kernel
set_option maxRecDepth 100000 in
theorem jg_10_293_1 : jc_f 10 293 9 6 1 = true := by decide +kernel
set_option maxRecDepth 100000 in
theorem jg_10_296_1 : jc_f 10 296 9 7 1 = true := by decide +kernel
set_option maxRecDepth 100000 in
theorem jg_10_324_2 : jc_f 10 324 8 17 2 = true := by decide +kernel
set_option maxRecDepth 100000 in
theorem jg_10_361_1 : jc_f 10 361 1 2 1 = true := by decide +kernel
set_option maxRecDepth 100000 in
theorem jg_10_364_1 : jc_f 10 364 1 3 1 = true := by decide +kernel
set_option maxRecDepth 100000 in
theorem jg_10_378_1 : jc_f 10 378 10 16 1 = true := by decide +kernel
set_option maxRecDepth 100000 in
theorem jg_10_378_3 : jc_f 10 378 10 16 3 = true := by decide +kernel
set_option maxRecDepth 100000 in
theorem jg_10_381_1 : jc_f 10 381 10 17 1 = true := by decide +kernel
set_option maxRecDepth 100000 in
theorem jg_10_381_3 : jc_f 10 381 10 17 3 = true := by decide +kernel
set_option maxRecDepth 100000 in
theorem jg_10_399_2 : jc_f 10 399 6 0 2 = true := by decide +kernel
set_option maxRecDepth 100000 in
theorem jg_11_9_1 : jc_f 11 9 11 3 1 = true := by decide +kernel
set_option maxRecDepth 100000 in
theorem jg_11_9_3 : jc_f 11 9 11 3 3 = true := by decide +kernel
set_option maxRecDepth 100000 in
theorem jg_11_13_2 : jc_f 11 13 11 9 2 = true := by decide +kernel
set_option maxRecDepth 100000 in
theorem jg_11_13_6 : jc_f 11 13 11 9 6 = true := by decide +kernel
set_option maxRecDepth 100000 in
theorem jg_11_17_2 : jc_f 11 17 11 10 2 = true := by decide +kernel
set_option maxRecDepth 100000 in
theorem jg_11_17_6 : jc_f 11 17 11 10 6 = true := by decide +kernel
set_option maxRecDepth 100000 in
theorem jg_11_20_2 : jc_f 11 20 11 11 2 = true := by decide +kernel
set_option maxRecDepth 100000 in
theorem jg_11_20_6 : jc_f 11 20 11 11 6 = true := by decide +kernel
set_option maxRecDepth 100000 in
theorem jg_11_23_2 : jc_f 11 23 11 12 2 = true := by decide +kernel
set_option maxRecDepth 100000 in
theorem jg_11_23_6 : jc_f 11 23 11 12 6 = true := by decide +kernel
set_option maxRecDepth 100000 in
theorem jg_11_26_2 : jc_f 11 26 11 13 2 = true := by decide +kernel
set_option maxRecDepth 100000 in
theorem jg_11_26_6 : jc_f 11 26 11 13 6 = true := by decide +kernel
set_option maxRecDepth 100000 in
theorem jg_11_29_2 : jc_f 11 29 11 14 2 = true := by decide +kernel
set_option maxRecDepth 100000 in
theorem jg_11_29_6 : jc_f 11 29 11 14 6 = true := by decide +kernel
set_option maxRecDepth 100000 in
theorem jg_11_32_2 : jc_f 11 32 11 15 2 = true := by decide +kernel
set_option maxRecDepth 100000 in
theorem jg_11_32_6 : jc_f 11 32 11 15 6 = true := by decide +kernel
set_option maxRecDepth 100000 in
theorem jg_11_35_2 : jc_f 11 35 11 16 2 = true := by decide +kernel
set_option maxRecDepth 100000 in
theorem jg_11_35_6 : jc_f 11 35 11 16 6 = true := by decide +kernel
set_option maxRecDepth 100000 in
theorem jg_11_38_2 : jc_f 11 38 11 17 2 = true := by decide +kernel
set_option maxRecDepth 100000 in
theorem jg_11_38_6 : jc_f 11 38 11 17 6 = true := by decide +kernel
set_option maxRecDepth 100000 in
theorem jg_11_41_2 : jc_f 11 41 11 18 2 = true := by decide +kernel
set_option maxRecDepth 100000 in
theorem jg_11_41_6 : jc_f 11 41 11 18 6 = true := by decide +kernel
set_option maxRecDepth 100000 in
theorem jg_11_46_2 : jc_f 11 46 11 19 2 = true := by decide +kernel
set_option maxRecDepth 100000 in
theorem jg_11_46_6 : jc_f 11 46 11 19 6 = true := by decide +kernel
set_option maxRecDepth 100000 in
theorem jg_11_49_2 : jc_f 11 49 11 20 2 = true := by decide +kernel
set_option maxRecDepth 100000 in
theorem jg_11_49_6 : jc_f 11 49 11 20 6 = true := by decide +kernel
set_option maxRecDepth 100000 in
theorem jg_11_52_2 : jc_f 11 52 11 21 2 = true := by decide +kernel
set_option maxRecDepth 100000 in
theorem jg_11_52_6 : jc_f 11 52 11 21 6 = true := by decide +kernel
set_option maxRecDepth 100000 in
theorem jg_11_55_2 : jc_f 11 55 11 22 2 = true := by decide +kernel
set_option maxRecDepth 100000 in
theorem jg_11_55_6 : jc_f 11 55 11 22 6 = true := by decide +kernel
set_option maxRecDepth 100000 in
theorem jg_11_58_2 : jc_f 11 58 11 23 2 = true := by decide +kernel
set_option maxRecDepth 100000 in
theorem jg_11_58_6 : jc_f 11 58 11 23 6 = true := by decide +kernel
set_option maxRecDepth 100000 in
theorem jg_11_61_2 : jc_f 11 61 11 24 2 = true := by decide +kernel
set_option maxRecDepth 100000 in
theorem jg_11_61_6 : jc_f 11 61 11 24 6 = true := by decide +kernel
set_option maxRecDepth 100000 in
theorem jg_11_64_2 : jc_f 11 64 11 27 2 = true := by decide +kernel
set_option maxRecDepth 100000 in
theorem jg_11_64_6 : jc_f 11 64 11 27 6 = true := by decide +kernel
set_option maxRecDepth 100000 in
theorem jg_11_67_2 : jc_f 11 67 11 28 2 = true := by decide +kernel
set_option maxRecDepth 100000 in
theorem jg_11_67_6 : jc_f 11 67 11 28 6 = true := by decide +kernel
set_option maxRecDepth 100000 in
theorem jg_11_70_2 : jc_f 11 70 11 29 2 = true := by decide +kernel
set_option maxRecDepth 100000 in
theorem jg_11_70_6 : jc_f 11 70 11 29 6 = true := by decide +kernel
set_option maxRecDepth 100000 in
theorem jg_11_73_2 : jc_f 11 73 11 30 2 = true := by decide +kernel
set_option maxRecDepth 100000 in
theorem jg_11_73_6 : jc_f 11 73 11 30 6 = true := by decide +kernel
set_option maxRecDepth 100000 in
theorem jg_11_76_2 : jc_f 11 76 11 31 2 = true := by decide +kernel
set_option maxRecDepth 100000 in
theorem jg_11_76_6 : jc_f 11 76 11 31 6 = true := by decide +kernel
set_option maxRecDepth 100000 in
theorem jg_11_79_2 : jc_f 11 79 11 32 2 = true := by decide +kernel
set_option maxRecDepth 100000 in
theorem jg_11_79_6 : jc_f 11 79 11 32 6 = true := by decide +kernel
set_option maxRecDepth 100000 in
theorem jg_11_82_2 : jc_f 11 82 11 33 2 = true := by decide +kernel
set_option maxRecDepth 100000 in
theorem jg_11_82_6 : jc_f 11 82 11 33 6 = true := by decide +kernel
set_option maxRecDepth 100000 in
theorem jg_11_85_2 : jc_f 11 85 11 35 2 = true := by decide +kernel
set_option maxRecDepth 100000 in
theorem jg_11_85_6 : jc_f 11 85 11 35 6 = true := by decide +kernel
set_option maxRecDepth 100000 in
theorem jg_11_88_2 : jc_f 11 88 11 36 2 = true := by decide +kernel
set_option maxRecDepth 100000 in
theorem jg_11_88_6 : jc_f 11 88 11 36 6 = true := by decide +kernel
set_option maxRecDepth 100000 in
theorem jg_11_91_2 : jc_f 11 91 11 37 2 = true := by decide +kernel
set_option maxRecDepth 100000 in
theorem jg_11_91_6 : jc_f 11 91 11 37 6 = true := by decide +kernel
set_option maxRecDepth 100000 in
theorem jg_11_94_2 : jc_f 11 94 11 38 2 = true := by decide +kernel
set_option maxRecDepth 100000 in
theorem jg_11_94_6 : jc_f 11 94 11 38 6 = true := by decide +kernel
set_option maxRecDepth 100000 in
theorem jg_11_97_2 : jc_f 11 97 11 47 2 = true := by decide +kernel
set_option maxRecDepth 100000 in
theorem jg_11_97_6 : jc_f 11 97 11 47 6 = true := by decide +kernel
set_option maxRecDepth 100000 in
theorem jg_11_100_2 : jc_f 11 100 11 48 2 = true := by decide +kernel
set_option maxRecDepth 100000 in
theorem jg_11_100_6 : jc_f 11 100 11 48 6 = true := by decide +kernel
set_option maxRecDepth 100000 in
theorem jg_11_103_2 : jc_f 11 103 11 49 2 = true := by decide +kernel
set_option maxRecDepth 100000 in
theorem jg_11_103_6 : jc_f 11 103 11 49 6 = true := by decide +kernel
set_option maxRecDepth 100000 in
theorem jg_11_109_1 : jc_f 11 109 11 0 1 = true := by decide +kernel
set_option maxRecDepth 100000 in
theorem jg_11_109_3 : jc_f 11 109 11 0 3 = true := by decide +kernel
set_option maxRecDepth 100000 in
theorem jg_11_112_1 : jc_f 11 112 11 1 1 = true := by decide +kernel
set_option maxRecDepth 100000 in
theorem jg_11_112_3 : jc_f 11 112 11 1 3 = true := by decide +kernel
set_option maxRecDepth 100000 in
theorem jg_11_115_1 : jc_f 11 115 11 2 1 = true := by decide +kernel
set_option maxRecDepth 100000 in
theorem jg_11_115_3 : jc_f 11 115 11 2 3 = true := by decide +kernel
set_option maxRecDepth 100000 in
theorem jg_11_118_1 : jc_f 11 118 11 4 1 = true := by decide +kernel
set_option maxRecDepth 100000 in
theorem jg_11_118_3 : jc_f 11 118 11 4 3 = true := by decide +kernel
set_option maxRecDepth 100000 in
theorem jg_11_125_1 : jc_f 11 125 11 5 1 = true := by decide +kernel
set_option maxRecDepth 100000 in
theorem jg_11_125_3 : jc_f 11 125 11 5 3 = true := by decide +kernel
set_option maxRecDepth 100000 in
theorem jg_11_128_1 : jc_f 11 128 11 6 1 = true := by decide +kernel
set_option maxRecDepth 100000 in
theorem jg_11_128_3 : jc_f 11 128 11 6 3 = true := by decide +kernel
set_option maxRecDepth 100000 in
theorem jg_11_165_1 : jc_f 11 165 11 7 1 = true := by decide +kernel
set_option maxRecDepth 100000 in
theorem jg_11_165_3 : jc_f 11 165 11 7 3 = true := by decide +kernel
set_option maxRecDepth 100000 in
theorem jg_11_168_1 : jc_f 11 168 11 8 1 = true := by decide +kernel
set_option maxRecDepth 100000 in
theorem jg_11_168_3 : jc_f 11 168 11 8 3 = true := by decide +kernel
set_option maxRecDepth 100000 in
theorem jg_11_202_1 : jc_f 11 202 11 25 1 = true := by decide +kernel
set_option maxRecDepth 100000 in
theorem jg_11_202_3 : jc_f 11 202 11 25 3 = true := by decide +kernel
set_option maxRecDepth 100000 in
theorem jg_11_205_1 : jc_f 11 205 11 39 1 = true := by decide +kernel
set_option maxRecDepth 100000 in
theorem jg_11_205_3 : jc_f 11 205 11 39 3 = true := by decide +kernel
set_option maxRecDepth 100000 in
theorem jg_11_208_1 : jc_f 11 208 11 40 1 = true := by decide +kernel
set_option maxRecDepth 100000 in
theorem jg_11_208_3 : jc_f 11 208 11 40 3 = true := by decide +kernel
set_option maxRecDepth 100000 in
theorem jg_11_211_1 : jc_f 11 211 11 41 1 = true := by decide +kernel
set_option maxRecDepth 100000 in
theorem jg_11_211_3 : jc_f 11 211 11 41 3 = true := by decide +kernel
set_option maxRecDepth 100000 in
theorem jg_11_214_1 : jc_f 11 214 11 42 1 = true := by decide +kernel
set_option maxRecDepth 100000 in
theorem jg_11_214_3 : jc_f 11 214 11 42 3 = true := by decide +kernel
set_option maxRecDepth 100000 in
theorem jg_11_217_1 : jc_f 11 217 11 26 1 = true := by decide +kernel
set_option maxRecDepth 100000 in
theorem jg_11_217_3 : jc_f 11 217 11 26 3 = true := by decide +kernel
set_option maxRecDepth 100000 in
theorem jg_11_258_1 : jc_f 11 258 11 34 1 = true := by decide +kernel
set_option maxRecDepth 100000 in
theorem jg_11_258_3 : jc_f 11 258 11 34 3 = true := by decide +kernel
set_option maxRecDepth 100000 in
theorem jg_11_268_1 : jc_f 11 268 11 44 1 = true := by decide +kernel
set_option maxRecDepth 100000 in
theorem jg_11_268_4 : jc_f 11 268 11 44 4 = true := by decide +kernel
set_option maxRecDepth 100000 in
theorem jg_11_322_1 : jc_f 11 322 11 45 1 = true := by decide +kernel
set_option maxRecDepth 100000 in
theorem jg_11_322_3 : jc_f 11 322 11 45 3 = true := by decide +kernel
set_option maxRecDepth 100000 in
theorem jg_11_332_1 : jc_f 11 332 11 46 1 = true := by decide +kernel
set_option maxRecDepth 100000 in
theorem jg_11_332_3 : jc_f 11 332 11 46 3 = true := by decide +kernel
set_option maxRecDepth 100000 in
theorem jg_11_403_1 : jc_f 11 403 11 50 1 = true := by decide +kernel
set_option maxRecDepth 100000 in
theorem jg_11_403_3 : jc_f 11 403 11 50 3 = true := by decide +kernel
set_option maxRecDepth 100000 in
theorem jg_11_406_1 : jc_f 11 406 11 51 1 = true := by decide +kernel
set_option maxRecDepth 100000 in
theorem jg_11_406_3 : jc_f 11 406 11 51 3 = true := by decide +kernel
set_option maxRecDepth 100000 in
theorem jg_11_409_1 : jc_f 11 409 11 52 1 = true := by decide +kernel
set_option maxRecDepth 100000 in
theorem jg_11_409_3 : jc_f 11 409 11 52 3 = true := by decide +kernel
set_option maxRecDepth 100000 in
theorem jg_11_423_1 : jc_f 11 423 11 43 1 = true := by decide +kernel
set_option maxRecDepth 100000 in
theorem jg_11_423_3 : jc_f 11 423 11 43 3 = true := by decide +kernel

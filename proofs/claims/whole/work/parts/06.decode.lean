set_option maxRecDepth 100000 in
theorem jd_0 : jk_0.all (fun q => decide (decode prog_2_method_1_code q.1 = .ok (q.2.1, q.2.2))) = true := by decide +kernel
set_option maxRecDepth 100000 in
theorem jd_1 : jk_1.all (fun q => decide (decode prog_2_method_2_code q.1 = .ok (q.2.1, q.2.2))) = true := by decide +kernel
set_option maxRecDepth 100000 in
theorem jd_2 : jk_2.all (fun q => decide (decode prog_2_method_4_code q.1 = .ok (q.2.1, q.2.2))) = true := by decide +kernel
set_option maxRecDepth 100000 in
theorem jd_3 : jk_3.all (fun q => decide (decode prog_2_method_5_code q.1 = .ok (q.2.1, q.2.2))) = true := by decide +kernel
set_option maxRecDepth 100000 in
theorem jd_4 : jk_4.all (fun q => decide (decode prog_2_method_3_code q.1 = .ok (q.2.1, q.2.2))) = true := by decide +kernel
set_option maxRecDepth 100000 in
theorem jd_5 : jk_5.all (fun q => decide (decode prog_2_method_7_code q.1 = .ok (q.2.1, q.2.2))) = true := by decide +kernel
set_option maxRecDepth 100000 in
theorem jd_6 : jk_6.all (fun q => decide (decode prog_2_method_6_code q.1 = .ok (q.2.1, q.2.2))) = true := by decide +kernel
set_option maxRecDepth 100000 in
theorem jd_7 : jk_7.all (fun q => decide (decode prog_2_method_8_code q.1 = .ok (q.2.1, q.2.2))) = true := by decide +kernel
set_option maxRecDepth 100000 in
theorem jd_8 : jk_8.all (fun q => decide (decode prog_2_method_9_code q.1 = .ok (q.2.1, q.2.2))) = true := by decide +kernel
set_option maxRecDepth 100000 in
theorem jd_9 : jk_9.all (fun q => decide (decode prog_2_method_10_code q.1 = .ok (q.2.1, q.2.2))) = true := by decide +kernel
set_option maxRecDepth 100000 in
theorem jd_10 : jk_10.all (fun q => decide (decode prog_2_method_11_code q.1 = .ok (q.2.1, q.2.2))) = true := by decide +kernel
set_option maxRecDepth 100000 in
theorem jd_11 : jk_11.all (fun q => decide (decode prog_3_method_1_code q.1 = .ok (q.2.1, q.2.2))) = true := by decide +kernel
set_option maxRecDepth 100000 in
theorem jd_12 : jk_12.all (fun q => decide (decode prog_3_method_2_code q.1 = .ok (q.2.1, q.2.2))) = true := by decide +kernel
set_option maxRecDepth 100000 in
theorem jd_13 : jk_13.all (fun q => decide (decode prog_3_method_3_code q.1 = .ok (q.2.1, q.2.2))) = true := by decide +kernel
set_option maxRecDepth 100000 in
theorem jd_14 : jk_14.all (fun q => decide (decode prog_3_method_4_code q.1 = .ok (q.2.1, q.2.2))) = true := by decide +kernel
set_option maxRecDepth 100000 in
theorem jd_15 : jk_15.all (fun q => decide (decode prog_4_method_1_code q.1 = .ok (q.2.1, q.2.2))) = true := by decide +kernel
set_option maxRecDepth 100000 in
theorem jd_16 : jk_16.all (fun q => decide (decode prog_4_method_3_code q.1 = .ok (q.2.1, q.2.2))) = true := by decide +kernel
set_option maxRecDepth 100000 in
theorem jd_17 : jk_17.all (fun q => decide (decode prog_4_method_4_code q.1 = .ok (q.2.1, q.2.2))) = true := by decide +kernel
set_option maxRecDepth 100000 in
theorem jd_18 : jk_18.all (fun q => decide (decode prog_4_method_2_code q.1 = .ok (q.2.1, q.2.2))) = true := by decide +kernel
set_option maxRecDepth 100000 in
theorem jd_19 : jk_19.all (fun q => decide (decode prog_5_method_1_code q.1 = .ok (q.2.1, q.2.2))) = true := by decide +kernel
set_option maxRecDepth 100000 in
theorem jd_20 : jk_20.all (fun q => decide (decode prog_5_method_2_code q.1 = .ok (q.2.1, q.2.2))) = true := by decide +kernel
set_option maxRecDepth 100000 in
theorem jd_21 : jk_21.all (fun q => decide (decode prog_5_method_3_code q.1 = .ok (q.2.1, q.2.2))) = true := by decide +kernel
set_option maxRecDepth 100000 in
theorem jd_22 : jk_22.all (fun q => decide (decode prog_6_method_1_code q.1 = .ok (q.2.1, q.2.2))) = true := by decide +kernel
set_option maxRecDepth 100000 in
theorem jd_23 : jk_23.all (fun q => decide (decode prog_6_method_2_code q.1 = .ok (q.2.1, q.2.2))) = true := by decide +kernel
set_option maxRecDepth 100000 in
theorem jd_24 : jk_24.all (fun q => decide (decode prog_6_method_5_code q.1 = .ok (q.2.1, q.2.2))) = true := by decide +kernel
set_option maxRecDepth 100000 in
theorem jd_25 : jk_25.all (fun q => decide (decode prog_6_method_4_code q.1 = .ok (q.2.1, q.2.2))) = true := by decide +kernel
set_option maxRecDepth 100000 in
theorem jd_26 : jk_26.all (fun q => decide (decode prog_6_method_3_code q.1 = .ok (q.2.1, q.2.2))) = true := by decide +kernel
set_option maxRecDepth 100000 in
theorem jd_27 : jk_27.all (fun q => decide (decode prog_6_method_6_code q.1 = .ok (q.2.1, q.2.2))) = true := by decide +kernel
set_option maxRecDepth 100000 in
theorem jd_28 : jk_28.all (fun q => decide (decode prog_6_method_7_code q.1 = .ok (q.2.1, q.2.2))) = true := by decide +kernel
set_option maxRecDepth 100000 in
theorem jd_29 : jk_29.all (fun q => decide (decode prog_6_method_8_code q.1 = .ok (q.2.1, q.2.2))) = true := by decide +kernel
set_option maxRecDepth 100000 in
theorem jd_30 : jk_30.all (fun q => decide (decode prog_6_method_9_code q.1 = .ok (q.2.1, q.2.2))) = true := by decide +kernel
set_option maxRecDepth 100000 in
theorem jd_31 : jk_31.all (fun q => decide (decode prog_6_method_10_code q.1 = .ok (q.2.1, q.2.2))) = true := by decide +kernel
set_option maxRecDepth 100000 in
theorem jd_32 : jk_32.all (fun q => decide (decode prog_6_method_11_code q.1 = .ok (q.2.1, q.2.2))) = true := by decide +kernel
set_option maxRecDepth 100000 in
theorem jd_33 : jk_33.all (fun q => decide (decode prog_6_method_12_code q.1 = .ok (q.2.1, q.2.2))) = true := by decide +kernel
set_option maxRecDepth 100000 in
theorem jd_34 : jk_34.all (fun q => decide (decode prog_6_method_13_code q.1 = .ok (q.2.1, q.2.2))) = true := by decide +kernel
set_option maxRecDepth 100000 in
theorem jd_35 : jk_35.all (fun q => decide (decode prog_7_method_1_code q.1 = .ok (q.2.1, q.2.2))) = true := by decide +kernel
set_option maxRecDepth 100000 in
theorem jd_36 : jk_36.all (fun q => decide (decode prog_7_method_2_code q.1 = .ok (q.2.1, q.2.2))) = true := by decide +kernel
set_option maxRecDepth 100000 in
theorem jd_37 : jk_37.all (fun q => decide (decode prog_7_method_3_code q.1 = .ok (q.2.1, q.2.2))) = true := by decide +kernel
set_option maxRecDepth 100000 in
theorem jd_38 : jk_38.all (fun q => decide (decode prog_7_method_4_code q.1 = .ok (q.2.1, q.2.2))) = true := by decide +kernel
set_option maxRecDepth 100000 in
theorem jd_39 : jk_39.all (fun q => decide (decode prog_7_method_6_code q.1 = .ok (q.2.1, q.2.2))) = true := by decide +kernel
set_option maxRecDepth 100000 in
theorem jd_40 : jk_40.all (fun q => decide (decode prog_7_method_5_code q.1 = .ok (q.2.1, q.2.2))) = true := by decide +kernel
set_option maxRecDepth 100000 in
theorem jd_41 : jk_41.all (fun q => decide (decode prog_7_method_7_code q.1 = .ok (q.2.1, q.2.2))) = true := by decide +kernel
set_option maxRecDepth 100000 in
theorem jd_42 : jk_42.all (fun q => decide (decode prog_7_method_8_code q.1 = .ok (q.2.1, q.2.2))) = true := by decide +kernel
set_option maxRecDepth 100000 in
theorem jd_43 : jk_43.all (fun q => decide (decode prog_7_method_9_code q.1 = .ok (q.2.1, q.2.2))) = true := by decide +kernel
set_option maxRecDepth 100000 in
theorem jd_44 : jk_44.all (fun q => decide (decode prog_8_method_1_code q.1 = .ok (q.2.1, q.2.2))) = true := by decide +kernel
set_option maxRecDepth 100000 in
theorem jd_45 : jk_45.all (fun q => decide (decode prog_8_method_3_code q.1 = .ok (q.2.1, q.2.2))) = true := by decide +kernel
set_option maxRecDepth 100000 in
theorem jd_46 : jk_46.all (fun q => decide (decode prog_8_method_33_code q.1 = .ok (q.2.1, q.2.2))) = true := by decide +kernel
set_option maxRecDepth 100000 in
theorem jd_47 : jk_47.all (fun q => decide (decode prog_8_method_9_code q.1 = .ok (q.2.1, q.2.2))) = true := by decide +kernel
set_option maxRecDepth 100000 in
theorem jd_48 : jk_48.all (fun q => decide (decode prog_8_method_11_code q.1 = .ok (q.2.1, q.2.2))) = true := by decide +kernel
set_option maxRecDepth 100000 in
theorem jd_49 : jk_49.all (fun q => decide (decode prog_8_method_4_code q.1 = .ok (q.2.1, q.2.2))) = true := by decide +kernel
set_option maxRecDepth 100000 in
theorem jd_50 : jk_50.all (fun q => decide (decode prog_8_method_2_code q.1 = .ok (q.2.1, q.2.2))) = true := by decide +kernel
set_option maxRecDepth 100000 in
theorem jd_51 : jk_51.all (fun q => decide (decode prog_8_method_26_code q.1 = .ok (q.2.1, q.2.2))) = true := by decide +kernel
set_option maxRecDepth 100000 in
theorem jd_52 : jk_52.all (fun q => decide (decode prog_8_method_7_code q.1 = .ok (q.2.1, q.2.2))) = true := by decide +kernel
set_option maxRecDepth 100000 in
theorem jd_53 : jk_53.all (fun q => decide (decode prog_8_method_27_code q.1 = .ok (q.2.1, q.2.2))) = true := by decide +kernel
set_option maxRecDepth 100000 in
theorem jd_54 : jk_54.all (fun q => decide (decode prog_8_method_6_code q.1 = .ok (q.2.1, q.2.2))) = true := by decide +kernel
set_option maxRecDepth 100000 in
theorem jd_55 : jk_55.all (fun q => decide (decode prog_8_method_28_code q.1 = .ok (q.2.1, q.2.2))) = true := by decide +kernel
set_option maxRecDepth 100000 in
theorem jd_56 : jk_56.all (fun q => decide (decode prog_8_method_22_code q.1 = .ok (q.2.1, q.2.2))) = true := by decide +kernel
set_option maxRecDepth 100000 in
theorem jd_57 : jk_57.all (fun q => decide (decode prog_8_method_20_code q.1 = .ok (q.2.1, q.2.2))) = true := by decide +kernel
set_option maxRecDepth 100000 in
theorem jd_58 : jk_58.all (fun q => decide (decode prog_8_method_17_code q.1 = .ok (q.2.1, q.2.2))) = true := by decide +kernel
set_option maxRecDepth 100000 in
theorem jd_59 : jk_59.all (fun q => decide (decode prog_8_method_10_code q.1 = .ok (q.2.1, q.2.2))) = true := by decide +kernel
set_option maxRecDepth 100000 in
theorem jd_60 : jk_60.all (fun q => decide (decode prog_8_method_18_code q.1 = .ok (q.2.1, q.2.2))) = true := by decide +kernel
set_option maxRecDepth 100000 in
theorem jd_61 : jk_61.all (fun q => decide (decode prog_8_method_24_code q.1 = .ok (q.2.1, q.2.2))) = true := by decide +kernel
set_option maxRecDepth 100000 in
theorem jd_62 : jk_62.all (fun q => decide (decode prog_8_method_29_code q.1 = .ok (q.2.1, q.2.2))) = true := by decide +kernel
set_option maxRecDepth 100000 in
theorem jd_63 : jk_63.all (fun q => decide (decode prog_8_method_8_code q.1 = .ok (q.2.1, q.2.2))) = true := by decide +kernel
set_option maxRecDepth 100000 in
theorem jd_64 : jk_64.all (fun q => decide (decode prog_8_method_30_code q.1 = .ok (q.2.1, q.2.2))) = true := by decide +kernel
set_option maxRecDepth 100000 in
theorem jd_65 : jk_65.all (fun q => decide (decode prog_8_method_12_code q.1 = .ok (q.2.1, q.2.2))) = true := by decide +kernel
set_option maxRecDepth 100000 in
theorem jd_66 : jk_66.all (fun q => decide (decode prog_8_method_13_code q.1 = .ok (q.2.1, q.2.2))) = true := by decide +kernel
set_option maxRecDepth 100000 in
theorem jd_67 : jk_67.all (fun q => decide (decode prog_8_method_31_code q.1 = .ok (q.2.1, q.2.2))) = true := by decide +kernel
set_option maxRecDepth 100000 in
theorem jd_68 : jk_68.all (fun q => decide (decode prog_8_method_25_code q.1 = .ok (q.2.1, q.2.2))) = true := by decide +kernel
set_option maxRecDepth 100000 in
theorem jd_69 : jk_69.all (fun q => decide (decode prog_8_method_14_code q.1 = .ok (q.2.1, q.2.2))) = true := by decide +kernel
set_option maxRecDepth 100000 in
theorem jd_70 : jk_70.all (fun q => decide (decode prog_8_method_15_code q.1 = .ok (q.2.1, q.2.2))) = true := by decide +kernel
set_option maxRecDepth 100000 in
theorem jd_71 : jk_71.all (fun q => decide (decode prog_8_method_16_code q.1 = .ok (q.2.1, q.2.2))) = true := by decide +kernel
set_option maxRecDepth 100000 in
theorem jd_72 : jk_72.all (fun q => decide (decode prog_8_method_32_code q.1 = .ok (q.2.1, q.2.2))) = true := by decide +kernel
set_option maxRecDepth 100000 in
theorem jd_73 : jk_73.all (fun q => decide (decode prog_8_method_23_code q.1 = .ok (q.2.1, q.2.2))) = true := by decide +kernel
set_option maxRecDepth 100000 in
theorem jd_74 : jk_74.all (fun q => decide (decode prog_8_method_21_code q.1 = .ok (q.2.1, q.2.2))) = true := by decide +kernel
set_option maxRecDepth 100000 in
theorem jd_75 : jk_75.all (fun q => decide (decode prog_8_method_19_code q.1 = .ok (q.2.1, q.2.2))) = true := by decide +kernel
set_option maxRecDepth 100000 in
theorem jd_76 : jk_76.all (fun q => decide (decode prog_8_method_35_code q.1 = .ok (q.2.1, q.2.2))) = true := by decide +kernel
set_option maxRecDepth 100000 in
theorem jd_77 : jk_77.all (fun q => decide (decode prog_8_method_34_code q.1 = .ok (q.2.1, q.2.2))) = true := by decide +kernel
set_option maxRecDepth 100000 in
theorem jd_78 : jk_78.all (fun q => decide (decode prog_8_method_37_code q.1 = .ok (q.2.1, q.2.2))) = true := by decide +kernel
set_option maxRecDepth 100000 in
theorem jd_79 : jk_79.all (fun q => decide (decode prog_8_method_5_code q.1 = .ok (q.2.1, q.2.2))) = true := by decide +kernel
set_option maxRecDepth 100000 in
theorem jd_80 : jk_80.all (fun q => decide (decode prog_8_method_36_code q.1 = .ok (q.2.1, q.2.2))) = true := by decide +kernel
set_option maxRecDepth 100000 in
theorem jd_81 : jk_81.all (fun q => decide (decode prog_9_method_1_code q.1 = .ok (q.2.1, q.2.2))) = true := by decide +kernel
set_option maxRecDepth 100000 in
theorem jd_82 : jk_82.all (fun q => decide (decode prog_9_method_2_code q.1 = .ok (q.2.1, q.2.2))) = true := by decide +kernel
set_option maxRecDepth 100000 in
theorem jd_83 : jk_83.all (fun q => decide (decode prog_9_method_3_code q.1 = .ok (q.2.1, q.2.2))) = true := by decide +kernel
set_option maxRecDepth 100000 in
theorem jd_84 : jk_84.all (fun q => decide (decode prog_9_method_8_code q.1 = .ok (q.2.1, q.2.2))) = true := by decide +kernel
set_option maxRecDepth 100000 in
theorem jd_85 : jk_85.all (fun q => decide (decode prog_9_method_13_code q.1 = .ok (q.2.1, q.2.2))) = true := by decide +kernel
set_option maxRecDepth 100000 in
theorem jd_86 : jk_86.all (fun q => decide (decode prog_9_method_14_code q.1 = .ok (q.2.1, q.2.2))) = true := by decide +kernel
set_option maxRecDepth 100000 in
theorem jd_87 : jk_87.all (fun q => decide (decode prog_9_method_6_code q.1 = .ok (q.2.1, q.2.2))) = true := by decide +kernel
set_option maxRecDepth 100000 in
theorem jd_88 : jk_88.all (fun q => decide (decode prog_9_method_5_code q.1 = .ok (q.2.1, q.2.2))) = true := by decide +kernel
set_option maxRecDepth 100000 in
theorem jd_89 : jk_89.all (fun q => decide (decode prog_9_method_12_code q.1 = .ok (q.2.1, q.2.2))) = true := by decide +kernel
set_option maxRecDepth 100000 in
theorem jd_90 : jk_90.all (fun q => decide (decode prog_9_method_11_code q.1 = .ok (q.2.1, q.2.2))) = true := by decide +kernel
set_option maxRecDepth 100000 in
theorem jd_91 : jk_91.all (fun q => decide (decode prog_9_method_4_code q.1 = .ok (q.2.1, q.2.2))) = true := by decide +kernel
set_option maxRecDepth 100000 in
theorem jd_92 : jk_92.all (fun q => decide (decode prog_9_method_9_code q.1 = .ok (q.2.1, q.2.2))) = true := by decide +kernel
set_option maxRecDepth 100000 in
theorem jd_93 : jk_93.all (fun q => decide (decode prog_9_method_7_code q.1 = .ok (q.2.1, q.2.2))) = true := by decide +kernel
set_option maxRecDepth 100000 in
theorem jd_94 : jk_94.all (fun q => decide (decode prog_9_method_10_code q.1 = .ok (q.2.1, q.2.2))) = true := by decide +kernel
set_option maxRecDepth 100000 in
theorem jd_95 : jk_95.all (fun q => decide (decode prog_10_method_1_code q.1 = .ok (q.2.1, q.2.2))) = true := by decide +kernel
set_option maxRecDepth 100000 in
theorem jd_96 : jk_96.all (fun q => decide (decode prog_10_method_13_code q.1 = .ok (q.2.1, q.2.2))) = true := by decide +kernel
set_option maxRecDepth 100000 in
theorem jd_97 : jk_97.all (fun q => decide (decode prog_10_method_2_code q.1 = .ok (q.2.1, q.2.2))) = true := by decide +kernel
set_option maxRecDepth 100000 in
theorem jd_98 : jk_98.all (fun q => decide (decode prog_10_method_3_code q.1 = .ok (q.2.1, q.2.2))) = true := by decide +kernel
set_option maxRecDepth 100000 in
theorem jd_99 : jk_99.all (fun q => decide (decode prog_10_method_4_code q.1 = .ok (q.2.1, q.2.2))) = true := by decide +kernel
set_option maxRecDepth 100000 in
theorem jd_100 : jk_100.all (fun q => decide (decode prog_10_method_5_code q.1 = .ok (q.2.1, q.2.2))) = true := by decide +kernel
set_option maxRecDepth 100000 in
theorem jd_101 : jk_101.all (fun q => decide (decode prog_10_method_6_code q.1 = .ok (q.2.1, q.2.2))) = true := by decide +kernel
set_option maxRecDepth 100000 in
theorem jd_102 : jk_102.all (fun q => decide (decode prog_10_method_7_code q.1 = .ok (q.2.1, q.2.2))) = true := by decide +kernel
set_option maxRecDepth 100000 in
theorem jd_103 : jk_103.all (fun q => decide (decode prog_10_method_8_code q.1 = .ok (q.2.1, q.2.2))) = true := by decide +kernel
set_option maxRecDepth 100000 in
theorem jd_104 : jk_104.all (fun q => decide (decode prog_10_method_9_code q.1 = .ok (q.2.1, q.2.2))) = true := by decide +kernel
set_option maxRecDepth 100000 in
theorem jd_105 : jk_105.all (fun q => decide (decode prog_10_method_10_code q.1 = .ok (q.2.1, q.2.2))) = true := by decide +kernel
set_option maxRecDepth 100000 in
theorem jd_106 : jk_106.all (fun q => decide (decode prog_10_method_11_code q.1 = .ok (q.2.1, q.2.2))) = true := by decide +kernel
set_option maxRecDepth 100000 in
theorem jd_107 : jk_107.all (fun q => decide (decode prog_10_method_12_code q.1 = .ok (q.2.1, q.2.2))) = true := by decide +kernel
set_option maxRecDepth 100000 in
theorem jd_108 : jk_108.all (fun q => decide (decode prog_11_method_1_code q.1 = .ok (q.2.1, q.2.2))) = true := by decide +kernel
set_option maxRecDepth 100000 in
theorem jd_109 : jk_109.all (fun q => decide (decode prog_11_method_2_code q.1 = .ok (q.2.1, q.2.2))) = true := by decide +kernel
set_option maxRecDepth 100000 in
theorem jd_110 : jk_110.all (fun q => decide (decode prog_11_method_3_code q.1 = .ok (q.2.1, q.2.2))) = true := by decide +kernel
set_option maxRecDepth 100000 in
theorem jd_111 : jk_111.all (fun q => decide (decode prog_11_method_5_code q.1 = .ok (q.2.1, q.2.2))) = true := by decide +kernel
set_option maxRecDepth 100000 in
theorem jd_112 : jk_112.all (fun q => decide (decode prog_11_method_4_code q.1 = .ok (q.2.1, q.2.2))) = true := by decide +kernel
set_option maxRecDepth 100000 in
theorem jd_113 : jk_113.all (fun q => decide (decode prog_11_method_6_code q.1 = .ok (q.2.1, q.2.2))) = true := by decide +kernel
set_option maxRecDepth 100000 in
theorem jd_114 : jk_114.all (fun q => decide (decode prog_11_method_7_code q.1 = .ok (q.2.1, q.2.2))) = true := by decide +kernel
set_option maxRecDepth 100000 in
theorem jd_115 : jk_115.all (fun q => decide (decode prog_1_method_1_code q.1 = .ok (q.2.1, q.2.2))) = true := by decide +kernel
set_option maxRecDepth 100000 in
theorem jd_116 : jk_116.all (fun q => decide (decode prog_1_method_2_code q.1 = .ok (q.2.1, q.2.2))) = true := by decide +kernel
set_option maxRecDepth 100000 in
theorem jd_117 : jk_117.all (fun q => decide (decode prog_1_method_7_code q.1 = .ok (q.2.1, q.2.2))) = true := by decide +kernel
set_option maxRecDepth 100000 in
theorem jd_118 : jk_118.all (fun q => decide (decode prog_1_method_8_code q.1 = .ok (q.2.1, q.2.2))) = true := by decide +kernel
set_option maxRecDepth 100000 in
theorem jd_119 : jk_119.all (fun q => decide (decode prog_1_method_26_code q.1 = .ok (q.2.1, q.2.2))) = true := by decide +kernel
set_option maxRecDepth 100000 in
theorem jd_120 : jk_120.all (fun q => decide (decode prog_1_method_28_code q.1 = .ok (q.2.1, q.2.2))) = true := by decide +kernel
set_option maxRecDepth 100000 in
theorem jd_121 : jk_121.all (fun q => decide (decode prog_1_method_33_code q.1 = .ok (q.2.1, q.2.2))) = true := by decide +kernel
set_option maxRecDepth 100000 in
theorem jd_122 : jk_122.all (fun q => decide (decode prog_1_method_37_code q.1 = .ok (q.2.1, q.2.2))) = true := by decide +kernel
set_option maxRecDepth 100000 in
theorem jd_123 : jk_123.all (fun q => decide (decode prog_1_method_38_code q.1 = .ok (q.2.1, q.2.2))) = true := by decide +kernel
set_option maxRecDepth 100000 in
theorem jd_124 : jk_124.all (fun q => decide (decode prog_1_method_39_code q.1 = .ok (q.2.1, q.2.2))) = true := by decide +kernel
set_option maxRecDepth 100000 in
theorem jd_125 : jk_125.all (fun q => decide (decode prog_1_method_40_code q.1 = .ok (q.2.1, q.2.2))) = true := by decide +kernel
set_option maxRecDepth 100000 in
theorem jd_126 : jk_126.all (fun q => decide (decode prog_1_method_3_code q.1 = .ok (q.2.1, q.2.2))) = true := by decide +kernel
set_option maxRecDepth 100000 in
theorem jd_127 : jk_127.all (fun q => decide (decode prog_1_method_46_code q.1 = .ok (q.2.1, q.2.2))) = true := by decide +kernel
set_option maxRecDepth 100000 in
theorem jd_128 : jk_128.all (fun q => decide (decode prog_1_method_42_code q.1 = .ok (q.2.1, q.2.2))) = true := by decide +kernel
set_option maxRecDepth 100000 in
theorem jd_129 : jk_129.all (fun q => decide (decode prog_1_method_4_code q.1 = .ok (q.2.1, q.2.2))) = true := by decide +kernel
set_option maxRecDepth 100000 in
theorem jd_130 : jk_130.all (fun q => decide (decode prog_1_method_5_code q.1 = .ok (q.2.1, q.2.2))) = true := by decide +kernel
set_option maxRecDepth 100000 in
theorem jd_131 : jk_131.all (fun q => decide (decode prog_1_method_6_code q.1 = .ok (q.2.1, q.2.2))) = true := by decide +kernel
set_option maxRecDepth 100000 in
theorem jd_132 : jk_132.all (fun q => decide (decode prog_1_method_9_code q.1 = .ok (q.2.1, q.2.2))) = true := by decide +kernel
set_option maxRecDepth 100000 in
theorem jd_133 : jk_133.all (fun q => decide (decode prog_1_method_10_code q.1 = .ok (q.2.1, q.2.2))) = true := by decide +kernel
set_option maxRecDepth 100000 in
theorem jd_134 : jk_134.all (fun q => decide (decode prog_1_method_43_code q.1 = .ok (q.2.1, q.2.2))) = true := by decide +kernel
set_option maxRecDepth 100000 in
theorem jd_135 : jk_135.all (fun q => decide (decode prog_1_method_41_code q.1 = .ok (q.2.1, q.2.2))) = true := by decide +kernel
set_option maxRecDepth 100000 in
theorem jd_136 : jk_136.all (fun q => decide (decode prog_1_method_11_code q.1 = .ok (q.2.1, q.2.2))) = true := by decide +kernel
set_option maxRecDepth 100000 in
theorem jd_137 : jk_137.all (fun q => decide (decode prog_1_method_44_code q.1 = .ok (q.2.1, q.2.2))) = true := by decide +kernel
set_option maxRecDepth 100000 in
theorem jd_138 : jk_138.all (fun q => decide (decode prog_1_method_12_code q.1 = .ok (q.2.1, q.2.2))) = true := by decide +kernel
set_option maxRecDepth 100000 in
theorem jd_139 : jk_139.all (fun q => decide (decode prog_1_method_13_code q.1 = .ok (q.2.1, q.2.2))) = true := by decide +kernel
set_option maxRecDepth 100000 in
theorem jd_140 : jk_140.all (fun q => decide (decode prog_1_method_14_code q.1 = .ok (q.2.1, q.2.2))) = true := by decide +kernel
set_option maxRecDepth 100000 in
theorem jd_141 : jk_141.all (fun q => decide (decode prog_1_method_15_code q.1 = .ok (q.2.1, q.2.2))) = true := by decide +kernel
set_option maxRecDepth 100000 in
theorem jd_142 : jk_142.all (fun q => decide (decode prog_1_method_47_code q.1 = .ok (q.2.1, q.2.2))) = true := by decide +kernel
set_option maxRecDepth 100000 in
theorem jd_143 : jk_143.all (fun q => decide (decode prog_1_method_16_code q.1 = .ok (q.2.1, q.2.2))) = true := by decide +kernel
set_option maxRecDepth 100000 in
theorem jd_144 : jk_144.all (fun q => decide (decode prog_1_method_17_code q.1 = .ok (q.2.1, q.2.2))) = true := by decide +kernel
set_option maxRecDepth 100000 in
theorem jd_145 : jk_145.all (fun q => decide (decode prog_1_method_18_code q.1 = .ok (q.2.1, q.2.2))) = true := by decide +kernel
set_option maxRecDepth 100000 in
theorem jd_146 : jk_146.all (fun q => decide (decode prog_1_method_49_code q.1 = .ok (q.2.1, q.2.2))) = true := by decide +kernel
set_option maxRecDepth 100000 in
theorem jd_147 : jk_147.all (fun q => decide (decode prog_1_method_19_code q.1 = .ok (q.2.1, q.2.2))) = true := by decide +kernel
set_option maxRecDepth 100000 in
theorem jd_148 : jk_148.all (fun q => decide (decode prog_1_method_20_code q.1 = .ok (q.2.1, q.2.2))) = true := by decide +kernel
set_option maxRecDepth 100000 in
theorem jd_149 : jk_149.all (fun q => decide (decode prog_1_method_45_code q.1 = .ok (q.2.1, q.2.2))) = true := by decide +kernel
set_option maxRecDepth 100000 in
theorem jd_150 : jk_150.all (fun q => decide (decode prog_1_method_21_code q.1 = .ok (q.2.1, q.2.2))) = true := by decide +kernel
set_option maxRecDepth 100000 in
theorem jd_151 : jk_151.all (fun q => decide (decode prog_1_method_22_code q.1 = .ok (q.2.1, q.2.2))) = true := by decide +kernel
set_option maxRecDepth 100000 in
theorem jd_152 : jk_152.all (fun q => decide (decode prog_1_method_23_code q.1 = .ok (q.2.1, q.2.2))) = true := by decide +kernel
set_option maxRecDepth 100000 in
theorem jd_153 : jk_153.all (fun q => decide (decode prog_1_method_24_code q.1 = .ok (q.2.1, q.2.2))) = true := by decide +kernel
set_option maxRecDepth 100000 in
theorem jd_154 : jk_154.all (fun q => decide (decode prog_1_method_25_code q.1 = .ok (q.2.1, q.2.2))) = true := by decide +kernel
set_option maxRecDepth 100000 in
theorem jd_155 : jk_155.all (fun q => decide (decode prog_1_method_27_code q.1 = .ok (q.2.1, q.2.2))) = true := by decide +kernel
set_option maxRecDepth 100000 in
theorem jd_156 : jk_156.all (fun q => decide (decode prog_1_method_29_code q.1 = .ok (q.2.1, q.2.2))) = true := by decide +kernel
set_option maxRecDepth 100000 in
theorem jd_157 : jk_157.all (fun q => decide (decode prog_1_method_50_code q.1 = .ok (q.2.1, q.2.2))) = true := by decide +kernel
set_option maxRecDepth 100000 in
theorem jd_158 : jk_158.all (fun q => decide (decode prog_1_method_30_code q.1 = .ok (q.2.1, q.2.2))) = true := by decide +kernel
set_option maxRecDepth 100000 in
theorem jd_159 : jk_159.all (fun q => decide (decode prog_1_method_31_code q.1 = .ok (q.2.1, q.2.2))) = true := by decide +kernel
set_option maxRecDepth 100000 in
theorem jd_160 : jk_160.all (fun q => decide (decode prog_1_method_48_code q.1 = .ok (q.2.1, q.2.2))) = true := by decide +kernel
set_option maxRecDepth 100000 in
theorem jd_161 : jk_161.all (fun q => decide (decode prog_1_method_32_code q.1 = .ok (q.2.1, q.2.2))) = true := by decide +kernel
set_option maxRecDepth 100000 in
theorem jd_162 : jk_162.all (fun q => decide (decode prog_1_method_34_code q.1 = .ok (q.2.1, q.2.2))) = true := by decide +kernel
set_option maxRecDepth 100000 in
theorem jd_163 : jk_163.all (fun q => decide (decode prog_1_method_35_code q.1 = .ok (q.2.1, q.2.2))) = true := by decide +kernel
set_option maxRecDepth 100000 in
theorem jd_164 : jk_164.all (fun q => decide (decode prog_1_method_36_code q.1 = .ok (q.2.1, q.2.2))) = true := by decide +kernel
set_option maxRecDepth 100000 in
theorem jd_165 : jk_165.all (fun q => decide (decode prog_13_method_1_code q.1 = .ok (q.2.1, q.2.2))) = true := by decide +kernel
set_option maxRecDepth 100000 in
theorem jd_166 : jk_166.all (fun q => decide (decode prog_13_method_30_code q.1 = .ok (q.2.1, q.2.2))) = true := by decide +kernel
set_option maxRecDepth 100000 in
theorem jd_167 : jk_167.all (fun q => decide (decode prog_13_method_28_code q.1 = .ok (q.2.1, q.2.2))) = true := by decide +kernel
set_option maxRecDepth 100000 in
theorem jd_168 : jk_168.all (fun q => decide (decode prog_13_method_2_code q.1 = .ok (q.2.1, q.2.2))) = true := by decide +kernel
set_option maxRecDepth 100000 in
theorem jd_169 : jk_169.all (fun q => decide (decode prog_13_method_8_code q.1 = .ok (q.2.1, q.2.2))) = true := by decide +kernel
set_option maxRecDepth 100000 in
theorem jd_170 : jk_170.all (fun q => decide (decode prog_13_method_27_code q.1 = .ok (q.2.1, q.2.2))) = true := by decide +kernel
set_option maxRecDepth 100000 in
theorem jd_171 : jk_171.all (fun q => decide (decode prog_13_method_4_code q.1 = .ok (q.2.1, q.2.2))) = true := by decide +kernel
set_option maxRecDepth 100000 in
theorem jd_172 : jk_172.all (fun q => decide (decode prog_13_method_3_code q.1 = .ok (q.2.1, q.2.2))) = true := by decide +kernel
set_option maxRecDepth 100000 in
theorem jd_173 : jk_173.all (fun q => decide (decode prog_13_method_22_code q.1 = .ok (q.2.1, q.2.2))) = true := by decide +kernel
set_option maxRecDepth 100000 in
theorem jd_174 : jk_174.all (fun q => decide (decode prog_13_method_10_code q.1 = .ok (q.2.1, q.2.2))) = true := by decide +kernel
set_option maxRecDepth 100000 in
theorem jd_175 : jk_175.all (fun q => decide (decode prog_13_method_9_code q.1 = .ok (q.2.1, q.2.2))) = true := by decide +kernel
set_option maxRecDepth 100000 in
theorem jd_176 : jk_176.all (fun q => decide (decode prog_13_method_26_code q.1 = .ok (q.2.1, q.2.2))) = true := by decide +kernel
set_option maxRecDepth 100000 in
theorem jd_177 : jk_177.all (fun q => decide (decode prog_13_method_24_code q.1 = .ok (q.2.1, q.2.2))) = true := by decide +kernel
set_option maxRecDepth 100000 in
theorem jd_178 : jk_178.all (fun q => decide (decode prog_13_method_17_code q.1 = .ok (q.2.1, q.2.2))) = true := by decide +kernel
set_option maxRecDepth 100000 in
theorem jd_179 : jk_179.all (fun q => decide (decode prog_13_method_15_code q.1 = .ok (q.2.1, q.2.2))) = true := by decide +kernel
set_option maxRecDepth 100000 in
theorem jd_180 : jk_180.all (fun q => decide (decode prog_13_method_13_code q.1 = .ok (q.2.1, q.2.2))) = true := by decide +kernel
set_option maxRecDepth 100000 in
theorem jd_181 : jk_181.all (fun q => decide (decode prog_13_method_16_code q.1 = .ok (q.2.1, q.2.2))) = true := by decide +kernel
set_option maxRecDepth 100000 in
theorem jd_182 : jk_182.all (fun q => decide (decode prog_13_method_11_code q.1 = .ok (q.2.1, q.2.2))) = true := by decide +kernel
set_option maxRecDepth 100000 in
theorem jd_183 : jk_183.all (fun q => decide (decode prog_13_method_25_code q.1 = .ok (q.2.1, q.2.2))) = true := by decide +kernel
set_option maxRecDepth 100000 in
theorem jd_184 : jk_184.all (fun q => decide (decode prog_13_method_18_code q.1 = .ok (q.2.1, q.2.2))) = true := by decide +kernel
set_option maxRecDepth 100000 in
theorem jd_185 : jk_185.all (fun q => decide (decode prog_13_method_14_code q.1 = .ok (q.2.1, q.2.2))) = true := by decide +kernel
set_option maxRecDepth 100000 in
theorem jd_186 : jk_186.all (fun q => decide (decode prog_13_method_12_code q.1 = .ok (q.2.1, q.2.2))) = true := by decide +kernel
set_option maxRecDepth 100000 in
theorem jd_187 : jk_187.all (fun q => decide (decode prog_13_method_20_code q.1 = .ok (q.2.1, q.2.2))) = true := by decide +kernel
set_option maxRecDepth 100000 in
theorem jd_188 : jk_188.all (fun q => decide (decode prog_13_method_23_code q.1 = .ok (q.2.1, q.2.2))) = true := by decide +kernel
set_option maxRecDepth 100000 in
theorem jd_189 : jk_189.all (fun q => decide (decode prog_13_method_37_code q.1 = .ok (q.2.1, q.2.2))) = true := by decide +kernel
set_option maxRecDepth 100000 in
theorem jd_190 : jk_190.all (fun q => decide (decode prog_13_method_33_code q.1 = .ok (q.2.1, q.2.2))) = true := by decide +kernel
set_option maxRecDepth 100000 in
theorem jd_191 : jk_191.all (fun q => decide (decode prog_13_method_34_code q.1 = .ok (q.2.1, q.2.2))) = true := by decide +kernel
set_option maxRecDepth 100000 in
theorem jd_192 : jk_192.all (fun q => decide (decode prog_13_method_36_code q.1 = .ok (q.2.1, q.2.2))) = true := by decide +kernel
set_option maxRecDepth 100000 in
theorem jd_193 : jk_193.all (fun q => decide (decode prog_13_method_32_code q.1 = .ok (q.2.1, q.2.2))) = true := by decide +kernel
set_option maxRecDepth 100000 in
theorem jd_194 : jk_194.all (fun q => decide (decode prog_13_method_31_code q.1 = .ok (q.2.1, q.2.2))) = true := by decide +kernel
set_option maxRecDepth 100000 in
theorem jd_195 : jk_195.all (fun q => decide (decode prog_13_method_35_code q.1 = .ok (q.2.1, q.2.2))) = true := by decide +kernel
set_option maxRecDepth 100000 in
theorem jd_196 : jk_196.all (fun q => decide (decode prog_13_method_19_code q.1 = .ok (q.2.1, q.2.2))) = true := by decide +kernel
set_option maxRecDepth 100000 in
theorem jd_197 : jk_197.all (fun q => decide (decode prog_13_method_21_code q.1 = .ok (q.2.1, q.2.2))) = true := by decide +kernel
set_option maxRecDepth 100000 in
theorem jd_198 : jk_198.all (fun q => decide (decode prog_13_method_42_code q.1 = .ok (q.2.1, q.2.2))) = true := by decide +kernel
set_option maxRecDepth 100000 in
theorem jd_199 : jk_199.all (fun q => decide (decode prog_13_method_7_code q.1 = .ok (q.2.1, q.2.2))) = true := by decide +kernel
set_option maxRecDepth 100000 in
theorem jd_200 : jk_200.all (fun q => decide (decode prog_13_method_43_code q.1 = .ok (q.2.1, q.2.2))) = true := by decide +kernel
set_option maxRecDepth 100000 in
theorem jd_201 : jk_201.all (fun q => decide (decode prog_13_method_59_code q.1 = .ok (q.2.1, q.2.2))) = true := by decide +kernel
set_option maxRecDepth 100000 in
theorem jd_202 : jk_202.all (fun q => decide (decode prog_13_method_41_code q.1 = .ok (q.2.1, q.2.2))) = true := by decide +kernel
set_option maxRecDepth 100000 in
theorem jd_203 : jk_203.all (fun q => decide (decode prog_13_method_40_code q.1 = .ok (q.2.1, q.2.2))) = true := by decide +kernel
set_option maxRecDepth 100000 in
theorem jd_204 : jk_204.all (fun q => decide (decode prog_13_method_29_code q.1 = .ok (q.2.1, q.2.2))) = true := by decide +kernel
set_option maxRecDepth 100000 in
theorem jd_205 : jk_205.all (fun q => decide (decode prog_13_method_58_code q.1 = .ok (q.2.1, q.2.2))) = true := by decide +kernel
set_option maxRecDepth 100000 in
theorem jd_206 : jk_206.all (fun q => decide (decode prog_13_method_57_code q.1 = .ok (q.2.1, q.2.2))) = true := by decide +kernel
set_option maxRecDepth 100000 in
theorem jd_207 : jk_207.all (fun q => decide (decode prog_13_method_54_code q.1 = .ok (q.2.1, q.2.2))) = true := by decide +kernel
set_option maxRecDepth 100000 in
theorem jd_208 : jk_208.all (fun q => decide (decode prog_13_method_55_code q.1 = .ok (q.2.1, q.2.2))) = true := by decide +kernel
set_option maxRecDepth 100000 in
theorem jd_209 : jk_209.all (fun q => decide (decode prog_13_method_53_code q.1 = .ok (q.2.1, q.2.2))) = true := by decide +kernel
set_option maxRecDepth 100000 in
theorem jd_210 : jk_210.all (fun q => decide (decode prog_13_method_52_code q.1 = .ok (q.2.1, q.2.2))) = true := by decide +kernel
set_option maxRecDepth 100000 in
theorem jd_211 : jk_211.all (fun q => decide (decode prog_13_method_49_code q.1 = .ok (q.2.1, q.2.2))) = true := by decide +kernel
set_option maxRecDepth 100000 in
theorem jd_212 : jk_212.all (fun q => decide (decode prog_13_method_47_code q.1 = .ok (q.2.1, q.2.2))) = true := by decide +kernel
set_option maxRecDepth 100000 in
theorem jd_213 : jk_213.all (fun q => decide (decode prog_13_method_46_code q.1 = .ok (q.2.1, q.2.2))) = true := by decide +kernel
set_option maxRecDepth 100000 in
theorem jd_214 : jk_214.all (fun q => decide (decode prog_13_method_44_code q.1 = .ok (q.2.1, q.2.2))) = true := by decide +kernel
set_option maxRecDepth 100000 in
theorem jd_215 : jk_215.all (fun q => decide (decode prog_13_method_48_code q.1 = .ok (q.2.1, q.2.2))) = true := by decide +kernel
set_option maxRecDepth 100000 in
theorem jd_216 : jk_216.all (fun q => decide (decode prog_13_method_45_code q.1 = .ok (q.2.1, q.2.2))) = true := by decide +kernel
set_option maxRecDepth 100000 in
theorem jd_217 : jk_217.all (fun q => decide (decode prog_13_method_51_code q.1 = .ok (q.2.1, q.2.2))) = true := by decide +kernel
set_option maxRecDepth 100000 in
theorem jd_218 : jk_218.all (fun q => decide (decode prog_13_method_50_code q.1 = .ok (q.2.1, q.2.2))) = true := by decide +kernel
set_option maxRecDepth 100000 in
theorem jd_219 : jk_219.all (fun q => decide (decode prog_13_method_39_code q.1 = .ok (q.2.1, q.2.2))) = true := by decide +kernel
set_option maxRecDepth 100000 in
theorem jd_220 : jk_220.all (fun q => decide (decode prog_13_method_38_code q.1 = .ok (q.2.1, q.2.2))) = true := by decide +kernel
set_option maxRecDepth 100000 in
theorem jd_221 : jk_221.all (fun q => decide (decode prog_13_method_5_code q.1 = .ok (q.2.1, q.2.2))) = true := by decide +kernel
set_option maxRecDepth 100000 in
theorem jd_222 : jk_222.all (fun q => decide (decode prog_13_method_6_code q.1 = .ok (q.2.1, q.2.2))) = true := by decide +kernel
set_option maxRecDepth 100000 in
theorem jd_223 : jk_223.all (fun q => decide (decode prog_13_method_56_code q.1 = .ok (q.2.1, q.2.2))) = true := by decide +kernel
set_option maxRecDepth 100000 in
theorem jd_224 : jk_224.all (fun q => decide (decode prog_13_method_60_code q.1 = .ok (q.2.1, q.2.2))) = true := by decide +kernel
set_option maxRecDepth 100000 in
theorem jd_225 : jk_225.all (fun q => decide (decode prog_13_method_65_code q.1 = .ok (q.2.1, q.2.2))) = true := by decide +kernel
set_option maxRecDepth 100000 in
theorem jd_226 : jk_226.all (fun q => decide (decode prog_13_method_62_code q.1 = .ok (q.2.1, q.2.2))) = true := by decide +kernel
set_option maxRecDepth 100000 in
theorem jd_227 : jk_227.all (fun q => decide (decode prog_13_method_61_code q.1 = .ok (q.2.1, q.2.2))) = true := by decide +kernel
set_option maxRecDepth 100000 in
theorem jd_228 : jk_228.all (fun q => decide (decode prog_13_method_69_code q.1 = .ok (q.2.1, q.2.2))) = true := by decide +kernel
set_option maxRecDepth 100000 in
theorem jd_229 : jk_229.all (fun q => decide (decode prog_13_method_66_code q.1 = .ok (q.2.1, q.2.2))) = true := by decide +kernel
set_option maxRecDepth 100000 in
theorem jd_230 : jk_230.all (fun q => decide (decode prog_13_method_70_code q.1 = .ok (q.2.1, q.2.2))) = true := by decide +kernel
set_option maxRecDepth 100000 in
theorem jd_231 : jk_231.all (fun q => decide (decode prog_13_method_67_code q.1 = .ok (q.2.1, q.2.2))) = true := by decide +kernel
set_option maxRecDepth 100000 in
theorem jd_232 : jk_232.all (fun q => decide (decode prog_13_method_71_code q.1 = .ok (q.2.1, q.2.2))) = true := by decide +kernel
set_option maxRecDepth 100000 in
theorem jd_233 : jk_233.all (fun q => decide (decode prog_13_method_72_code q.1 = .ok (q.2.1, q.2.2))) = true := by decide +kernel
set_option maxRecDepth 100000 in
theorem jd_234 : jk_234.all (fun q => decide (decode prog_13_method_73_code q.1 = .ok (q.2.1, q.2.2))) = true := by decide +kernel
set_option maxRecDepth 100000 in
theorem jd_235 : jk_235.all (fun q => decide (decode prog_13_method_75_code q.1 = .ok (q.2.1, q.2.2))) = true := by decide +kernel
set_option maxRecDepth 100000 in
theorem jd_236 : jk_236.all (fun q => decide (decode prog_13_method_74_code q.1 = .ok (q.2.1, q.2.2))) = true := by decide +kernel
set_option maxRecDepth 100000 in
theorem jd_237 : jk_237.all (fun q => decide (decode prog_13_method_76_code q.1 = .ok (q.2.1, q.2.2))) = true := by decide +kernel
set_option maxRecDepth 100000 in
theorem jd_238 : jk_238.all (fun q => decide (decode prog_13_method_78_code q.1 = .ok (q.2.1, q.2.2))) = true := by decide +kernel
set_option maxRecDepth 100000 in
theorem jd_239 : jk_239.all (fun q => decide (decode prog_13_method_77_code q.1 = .ok (q.2.1, q.2.2))) = true := by decide +kernel
set_option maxRecDepth 100000 in
theorem jd_240 : jk_240.all (fun q => decide (decode prog_13_method_80_code q.1 = .ok (q.2.1, q.2.2))) = true := by decide +kernel
set_option maxRecDepth 100000 in
theorem jd_241 : jk_241.all (fun q => decide (decode prog_13_method_79_code q.1 = .ok (q.2.1, q.2.2))) = true := by decide +kernel
set_option maxRecDepth 100000 in
theorem jd_242 : jk_242.all (fun q => decide (decode prog_13_method_83_code q.1 = .ok (q.2.1, q.2.2))) = true := by decide +kernel
set_option maxRecDepth 100000 in
theorem jd_243 : jk_243.all (fun q => decide (decode prog_13_method_82_code q.1 = .ok (q.2.1, q.2.2))) = true := by decide +kernel
set_option maxRecDepth 100000 in
theorem jd_244 : jk_244.all (fun q => decide (decode prog_13_method_81_code q.1 = .ok (q.2.1, q.2.2))) = true := by decide +kernel
set_option maxRecDepth 100000 in
theorem jd_245 : jk_245.all (fun q => decide (decode prog_13_method_85_code q.1 = .ok (q.2.1, q.2.2))) = true := by decide +kernel
set_option maxRecDepth 100000 in
theorem jd_246 : jk_246.all (fun q => decide (decode prog_13_method_84_code q.1 = .ok (q.2.1, q.2.2))) = true := by decide +kernel
set_option maxRecDepth 100000 in
theorem jd_247 : jk_247.all (fun q => decide (decode prog_13_method_89_code q.1 = .ok (q.2.1, q.2.2))) = true := by decide +kernel
set_option maxRecDepth 100000 in
theorem jd_248 : jk_248.all (fun q => decide (decode prog_13_method_88_code q.1 = .ok (q.2.1, q.2.2))) = true := by decide +kernel
set_option maxRecDepth 100000 in
theorem jd_249 : jk_249.all (fun q => decide (decode prog_13_method_87_code q.1 = .ok (q.2.1, q.2.2))) = true := by decide +kernel
set_option maxRecDepth 100000 in
theorem jd_250 : jk_250.all (fun q => decide (decode prog_13_method_86_code q.1 = .ok (q.2.1, q.2.2))) = true := by decide +kernel
set_option maxRecDepth 100000 in
theorem jd_251 : jk_251.all (fun q => decide (decode prog_13_method_90_code q.1 = .ok (q.2.1, q.2.2))) = true := by decide +kernel
set_option maxRecDepth 100000 in
theorem jd_252 : jk_252.all (fun q => decide (decode prog_13_method_93_code q.1 = .ok (q.2.1, q.2.2))) = true := by decide +kernel
set_option maxRecDepth 100000 in
theorem jd_253 : jk_253.all (fun q => decide (decode prog_13_method_92_code q.1 = .ok (q.2.1, q.2.2))) = true := by decide +kernel
set_option maxRecDepth 100000 in
theorem jd_254 : jk_254.all (fun q => decide (decode prog_13_method_91_code q.1 = .ok (q.2.1, q.2.2))) = true := by decide +kernel
set_option maxRecDepth 100000 in
theorem jd_255 : jk_255.all (fun q => decide (decode prog_13_method_94_code q.1 = .ok (q.2.1, q.2.2))) = true := by decide +kernel
set_option maxRecDepth 100000 in
theorem jd_256 : jk_256.all (fun q => decide (decode prog_13_method_63_code q.1 = .ok (q.2.1, q.2.2))) = true := by decide +kernel
set_option maxRecDepth 100000 in
theorem jd_257 : jk_257.all (fun q => decide (decode prog_13_method_96_code q.1 = .ok (q.2.1, q.2.2))) = true := by decide +kernel
set_option maxRecDepth 100000 in
theorem jd_258 : jk_258.all (fun q => decide (decode prog_13_method_68_code q.1 = .ok (q.2.1, q.2.2))) = true := by decide +kernel
set_option maxRecDepth 100000 in
theorem jd_259 : jk_259.all (fun q => decide (decode prog_13_method_95_code q.1 = .ok (q.2.1, q.2.2))) = true := by decide +kernel
set_option maxRecDepth 100000 in
theorem jd_260 : jk_260.all (fun q => decide (decode prog_13_method_97_code q.1 = .ok (q.2.1, q.2.2))) = true := by decide +kernel
set_option maxRecDepth 100000 in
theorem jd_261 : jk_261.all (fun q => decide (decode prog_13_method_99_code q.1 = .ok (q.2.1, q.2.2))) = true := by decide +kernel
set_option maxRecDepth 100000 in
theorem jd_262 : jk_262.all (fun q => decide (decode prog_13_method_98_code q.1 = .ok (q.2.1, q.2.2))) = true := by decide +kernel
set_option maxRecDepth 100000 in
theorem jd_263 : jk_263.all (fun q => decide (decode prog_13_method_100_code q.1 = .ok (q.2.1, q.2.2))) = true := by decide +kernel
set_option maxRecDepth 100000 in
theorem jd_264 : jk_264.all (fun q => decide (decode prog_13_method_102_code q.1 = .ok (q.2.1, q.2.2))) = true := by decide +kernel
set_option maxRecDepth 100000 in
theorem jd_265 : jk_265.all (fun q => decide (decode prog_13_method_101_code q.1 = .ok (q.2.1, q.2.2))) = true := by decide +kernel
set_option maxRecDepth 100000 in
theorem jd_266 : jk_266.all (fun q => decide (decode prog_13_method_103_code q.1 = .ok (q.2.1, q.2.2))) = true := by decide +kernel
set_option maxRecDepth 100000 in
theorem jd_267 : jk_267.all (fun q => decide (decode prog_13_method_104_code q.1 = .ok (q.2.1, q.2.2))) = true := by decide +kernel
set_option maxRecDepth 100000 in
theorem jd_268 : jk_268.all (fun q => decide (decode prog_13_method_105_code q.1 = .ok (q.2.1, q.2.2))) = true := by decide +kernel
set_option maxRecDepth 100000 in
theorem jd_269 : jk_269.all (fun q => decide (decode prog_13_method_106_code q.1 = .ok (q.2.1, q.2.2))) = true := by decide +kernel
set_option maxRecDepth 100000 in
theorem jd_270 : jk_270.all (fun q => decide (decode prog_13_method_107_code q.1 = .ok (q.2.1, q.2.2))) = true := by decide +kernel
set_option maxRecDepth 100000 in
theorem jd_271 : jk_271.all (fun q => decide (decode prog_13_method_64_code q.1 = .ok (q.2.1, q.2.2))) = true := by decide +kernel
set_option maxRecDepth 100000 in
theorem jd_272 : jk_272.all (fun q => decide (decode prog_13_method_111_code q.1 = .ok (q.2.1, q.2.2))) = true := by decide +kernel
set_option maxRecDepth 100000 in
theorem jd_273 : jk_273.all (fun q => decide (decode prog_13_method_110_code q.1 = .ok (q.2.1, q.2.2))) = true := by decide +kernel
set_option maxRecDepth 100000 in
theorem jd_274 : jk_274.all (fun q => decide (decode prog_13_method_109_code q.1 = .ok (q.2.1, q.2.2))) = true := by decide +kernel
set_option maxRecDepth 100000 in
theorem jd_275 : jk_275.all (fun q => decide (decode prog_13_method_108_code q.1 = .ok (q.2.1, q.2.2))) = true := by decide +kernel
set_option maxRecDepth 100000 in
theorem jd_276 : jk_276.all (fun q => decide (decode prog_13_method_112_code q.1 = .ok (q.2.1, q.2.2))) = true := by decide +kernel
set_option maxRecDepth 100000 in
theorem jd_277 : jk_277.all (fun q => decide (decode prog_13_method_115_code q.1 = .ok (q.2.1, q.2.2))) = true := by decide +kernel
set_option maxRecDepth 100000 in
theorem jd_278 : jk_278.all (fun q => decide (decode prog_13_method_114_code q.1 = .ok (q.2.1, q.2.2))) = true := by decide +kernel
set_option maxRecDepth 100000 in
theorem jd_279 : jk_279.all (fun q => decide (decode prog_13_method_113_code q.1 = .ok (q.2.1, q.2.2))) = true := by decide +kernel
set_option maxRecDepth 100000 in
theorem jd_280 : jk_280.all (fun q => decide (decode prog_13_method_116_code q.1 = .ok (q.2.1, q.2.2))) = true := by decide +kernel
set_option maxRecDepth 100000 in
theorem jd_281 : jk_281.all (fun q => decide (decode prog_13_method_117_code q.1 = .ok (q.2.1, q.2.2))) = true := by decide +kernel
set_option maxRecDepth 100000 in
theorem jd_282 : jk_282.all (fun q => decide (decode prog_13_method_118_code q.1 = .ok (q.2.1, q.2.2))) = true := by decide +kernel
set_option maxRecDepth 100000 in
theorem jd_283 : jk_283.all (fun q => decide (decode method_3_code q.1 = .ok (q.2.1, q.2.2))) = true := by decide +kernel
set_option maxRecDepth 100000 in
theorem jd_284 : jk_284.all (fun q => decide (decode method_4_code q.1 = .ok (q.2.1, q.2.2))) = true := by decide +kernel
set_option maxRecDepth 100000 in
theorem jd_285 : jk_285.all (fun q => decide (decode method_5_code q.1 = .ok (q.2.1, q.2.2))) = true := by decide +kernel
set_option maxRecDepth 100000 in
theorem jd_286 : jk_286.all (fun q => decide (decode method_6_code q.1 = .ok (q.2.1, q.2.2))) = true := by decide +kernel
set_option maxRecDepth 100000 in
theorem jd_287 : jk_287.all (fun q => decide (decode method_7_code q.1 = .ok (q.2.1, q.2.2))) = true := by decide +kernel
set_option maxRecDepth 100000 in
theorem jd_288 : jk_288.all (fun q => decide (decode method_8_code q.1 = .ok (q.2.1, q.2.2))) = true := by decide +kernel
set_option maxRecDepth 100000 in
theorem jd_289 : jk_289.all (fun q => decide (decode method_9_code q.1 = .ok (q.2.1, q.2.2))) = true := by decide +kernel
set_option maxRecDepth 100000 in
theorem jd_290 : jk_290.all (fun q => decide (decode method_10_code q.1 = .ok (q.2.1, q.2.2))) = true := by decide +kernel
set_option maxRecDepth 100000 in
theorem jd_291 : jk_291.all (fun q => decide (decode method_11_code q.1 = .ok (q.2.1, q.2.2))) = true := by decide +kernel
set_option maxRecDepth 100000 in
theorem jd_292 : jk_292.all (fun q => decide (decode method_12_code q.1 = .ok (q.2.1, q.2.2))) = true := by decide +kernel
set_option maxRecDepth 100000 in
theorem jd_293 : jk_293.all (fun q => decide (decode method_13_code q.1 = .ok (q.2.1, q.2.2))) = true := by decide +kernel
set_option maxRecDepth 100000 in
theorem jd_294 : jk_294.all (fun q => decide (decode method_14_code q.1 = .ok (q.2.1, q.2.2))) = true := by decide +kernel
set_option maxRecDepth 100000 in
theorem jd_295 : jk_295.all (fun q => decide (decode method_15_code q.1 = .ok (q.2.1, q.2.2))) = true := by decide +kernel
set_option maxRecDepth 100000 in
theorem jd_296 : jk_296.all (fun q => decide (decode method_16_code q.1 = .ok (q.2.1, q.2.2))) = true := by decide +kernel
set_option maxRecDepth 100000 in
theorem jd_297 : jk_297.all (fun q => decide (decode method_17_code q.1 = .ok (q.2.1, q.2.2))) = true := by decide +kernel
set_option maxRecDepth 100000 in
theorem jd_298 : jk_298.all (fun q => decide (decode method_18_code q.1 = .ok (q.2.1, q.2.2))) = true := by decide +kernel
set_option maxRecDepth 100000 in
theorem jd_299 : jk_299.all (fun q => decide (decode method_19_code q.1 = .ok (q.2.1, q.2.2))) = true := by decide +kernel
set_option maxRecDepth 100000 in
theorem jd_300 : jk_300.all (fun q => decide (decode method_20_code q.1 = .ok (q.2.1, q.2.2))) = true := by decide +kernel
set_option maxRecDepth 100000 in
theorem jd_301 : jk_301.all (fun q => decide (decode method_21_code q.1 = .ok (q.2.1, q.2.2))) = true := by decide +kernel
set_option maxRecDepth 100000 in
theorem jd_302 : jk_302.all (fun q => decide (decode method_22_code q.1 = .ok (q.2.1, q.2.2))) = true := by decide +kernel
set_option maxRecDepth 100000 in
theorem jd_303 : jk_303.all (fun q => decide (decode method_23_code q.1 = .ok (q.2.1, q.2.2))) = true := by decide +kernel
set_option maxRecDepth 100000 in
theorem jd_304 : jk_304.all (fun q => decide (decode method_24_code q.1 = .ok (q.2.1, q.2.2))) = true := by decide +kernel
set_option maxRecDepth 100000 in
theorem jd_305 : jk_305.all (fun q => decide (decode method_25_code q.1 = .ok (q.2.1, q.2.2))) = true := by decide +kernel
set_option maxRecDepth 100000 in
theorem jd_306 : jk_306.all (fun q => decide (decode method_26_code q.1 = .ok (q.2.1, q.2.2))) = true := by decide +kernel
set_option maxRecDepth 100000 in
theorem jd_307 : jk_307.all (fun q => decide (decode method_27_code q.1 = .ok (q.2.1, q.2.2))) = true := by decide +kernel
set_option maxRecDepth 100000 in
theorem jd_308 : jk_308.all (fun q => decide (decode method_28_code q.1 = .ok (q.2.1, q.2.2))) = true := by decide +kernel
set_option maxRecDepth 100000 in
theorem jd_309 : jk_309.all (fun q => decide (decode method_29_code q.1 = .ok (q.2.1, q.2.2))) = true := by decide +kernel
set_option maxRecDepth 100000 in
theorem jd_310 : jk_310.all (fun q => decide (decode method_30_code q.1 = .ok (q.2.1, q.2.2))) = true := by decide +kernel
set_option maxRecDepth 100000 in
theorem jd_311 : jk_311.all (fun q => decide (decode method_31_code q.1 = .ok (q.2.1, q.2.2))) = true := by decide +kernel
set_option maxRecDepth 100000 in
theorem jd_312 : jk_312.all (fun q => decide (decode prog_22_method_54_code q.1 = .ok (q.2.1, q.2.2))) = true := by decide +kernel
set_option maxRecDepth 100000 in
theorem jd_313 : jk_313.all (fun q => decide (decode prog_22_method_152_code q.1 = .ok (q.2.1, q.2.2))) = true := by decide +kernel
set_option maxRecDepth 100000 in
theorem jd_314 : jk_314.all (fun q => decide (decode prog_22_method_56_code q.1 = .ok (q.2.1, q.2.2))) = true := by decide +kernel
set_option maxRecDepth 100000 in
theorem jd_315 : jk_315.all (fun q => decide (decode prog_22_method_154_code q.1 = .ok (q.2.1, q.2.2))) = true := by decide +kernel
set_option maxRecDepth 100000 in
theorem jd_316 : jk_316.all (fun q => decide (decode prog_22_method_155_code q.1 = .ok (q.2.1, q.2.2))) = true := by decide +kernel
set_option maxRecDepth 100000 in
theorem jd_317 : jk_317.all (fun q => decide (decode prog_23_method_2_code q.1 = .ok (q.2.1, q.2.2))) = true := by decide +kernel
set_option maxRecDepth 100000 in
theorem jd_318 : jk_318.all (fun q => decide (decode prog_19_method_49_code q.1 = .ok (q.2.1, q.2.2))) = true := by decide +kernel
set_option maxRecDepth 100000 in
theorem jd_319 : jk_319.all (fun q => decide (decode prog_30_method_11_code q.1 = .ok (q.2.1, q.2.2))) = true := by decide +kernel
